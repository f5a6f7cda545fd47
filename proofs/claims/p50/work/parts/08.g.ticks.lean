/-! the pure part: ticks until a commit, ticks until a safe time -/
def ftk (p : Nat → Bool) : Nat → Nat → Nat
  | 0, c => c
  | d + 1, c => if p c = true then c else ftk p d (c + 1)
theorem ftk_spec (p : Nat → Bool) : ∀ d c, c ≤ ftk p d c ∧ ftk p d c ≤ c + d ∧ (∀ j, c ≤ j → j < ftk p d c → p j = false) ∧ (ftk p d c < c + d → p (ftk p d c) = true)
  | 0, c => ⟨Nat.le_refl c, Nat.le_refl c, fun j h1 h2 => by unfold ftk at h2; omega, fun h => by unfold ftk at h; omega⟩
  | d + 1, c => by
    unfold ftk
    by_cases e : p c = true
    · rw [if_pos e]
      exact ⟨Nat.le_refl c, by omega, fun j h1 h2 => by omega, fun _ => e⟩
    · rw [if_neg e]
      obtain ⟨h1, h2, h3, h4⟩ := ftk_spec p d (c + 1)
      refine ⟨by omega, by omega, fun j j1 j2 => ?_, fun h => h4 (by omega)⟩
      by_cases z : j = c
      · rw [z]; simpa using e
      · exact h3 j (by omega) j2
theorem ftk_eq {p : Nat → Bool} {d c h : Nat} (h1 : c ≤ h) (h2 : h ≤ c + d) (h3 : ∀ j, c ≤ j → j < h → p j = false) (h4 : h < c + d → p h = true) : ftk p d c = h := by
  obtain ⟨g1, g2, g3, g4⟩ := ftk_spec p d c
  rcases Nat.lt_trichotomy (ftk p d c) h with z | z | z
  · have := h3 _ g1 z
    rw [g4 (by omega)] at this
    cases this
  · exact z
  · have := g3 _ h1 z
    rw [h4 (by omega)] at this
    cases this
theorem lp_ft {α : Type} (L : Nat → Int32 → Option α) (lo B : Nat) (p : Nat → Bool) (ret : Nat → Option α) (fin : Option α) (h1 : ∀ f i, lo ≤ i → i < B → p i = false → L (f + 1) (nI i) = L f (nI (i + 1))) (h2 : ∀ f i, lo ≤ i → i < B → p i = true → L (f + 1) (nI i) = ret i) (h3 : ∀ f, L (f + 1) (nI B) = fin) : ∀ d c, lo ≤ c → c + d = B → ∀ f, d < f → L f (nI c) = if ftk p d c < B then ret (ftk p d c) else fin
  | 0, c, hl, hc, f + 1, _ => by
    have e : c = B := by omega
    rw [e, h3, show ftk p 0 B = B from rfl, if_neg (Nat.lt_irrefl B)]
  | d + 1, c, hl, hc, f + 1, hf => by
    unfold ftk
    by_cases e : p c = true
    · rw [if_pos e, if_pos (by omega), h2 f c hl (by omega) e]
    · rw [if_neg e, h1 f c hl (by omega) (by simpa using e)]
      exact lp_ft L lo B p ret fin h1 h2 h3 d (c + 1) (by omega) (by omega) f (by omega)
def srv (r : Nat → Int32) (t : Nat) : Nat := (TX r t 0).toNatClampNeg
def hitB (r : Nat → Int32) (t n : Nat) : Bool := decide ((TX r t 2).toInt < earI r (srv r t) ((r 0).toInt + n))
def tcm (r : Nat → Int32) (t L : Nat) : Nat := ftk (hitB r t) L 1
section PT
variable {bd : Int} {g m : Mem} {r : Nat → Int32} {n t k s : Nat} {x : Int32}
theorem srv_q (h : Inv bd r) (ht : t < nB r) : srv r t < 3 ∧ TX r t 0 = nI (srv r t) := by
  obtain ⟨s, s1, s2⟩ := (h.tx ht).1
  unfold srv
  rw [s2, nI_clamp (by omega)]
  exact ⟨s1, rfl⟩
theorem tm_c (h : Inv bd r) {c : Nat} (hc : c ≤ 10000) : tmok r (r 0 + nI c) ∧ (r 0 + nI c).toInt = (r 0).toInt + c := by
  have h1 := h.tm
  have e := nI_toInt (n := c) (by omega)
  have e2 : (r 0 + nI c).toInt = (r 0).toInt + c := by rw [i_add (by rw [e]; omega) (by rw [e]; omega), e]
  exact ⟨⟨by omega, by omega, h1.1⟩, e2⟩
theorem ear_j (h : ckok r s) (t : Int) : ∀ j : Nat, earI r s (t + j) ≤ earI r s t + 2 * j
  | 0 => by simp
  | j + 1 => by
    have h1 := ear_j h t j
    have h2 := ear_s h (t := t + j)
    rw [show t + ((j + 1 : Nat) : Int) = t + j + 1 by omega]
    omega
theorem lat_j (h : ckok r s) (t : Int) : ∀ j : Nat, latI r s (t + j) ≤ latI r s t + 3 * j ∧ latI r s t ≤ latI r s (t + j)
  | 0 => by simp
  | j + 1 => by
    have h1 := lat_j h t j
    have h2 := lat_s h (t := t + j)
    rw [show t + ((j + 1 : Nat) : Int) = t + j + 1 by omega]
    omega
theorem k_tuc_18 (h : Inv bd r) (hC : Cls g 0 r) (ht : t < nB r) {L : Nat} (hL : L ≤ 10000) : ∀ d f c, L + 1 - c ≤ d → d < f → 1 ≤ c → c < 2000000000 → (∀ j, 1 ≤ j → j < c → j ≤ L → hitB r t j = false) → sX2_ticksUntilCommitted_18 n g f 0 (nI t) (nI L) (2 + srv r t) (nI c) = some (nI (tcm r t L)) := by
  have hb := h.b40
  obtain ⟨s1, s2⟩ := srv_q h ht
  intro d
  induction d with
  | zero =>
    intro f c h1 h2 h3 h4 h5
    obtain ⟨f, rfl⟩ : ∃ q, f = q + 1 := ⟨f - 1, by omega⟩
    rw [sX2_ticksUntilCommitted_18, if_pos (nI_lt (by omega) (by omega)), nI_1]
    have : tcm r t L = L + 1 := ftk_eq (by omega) (by omega) (fun j j1 j2 => h5 j j1 (by omega) (by omega)) (fun z => by omega)
    rw [this]
  | succ d ih =>
    intro f c h1 h2 h3 h4 h5
    obtain ⟨f, rfl⟩ : ∃ q, f = q + 1 := ⟨f - 1, by omega⟩
    rw [sX2_ticksUntilCommitted_18]
    by_cases z : L < c
    · rw [if_pos (nI_lt z (by omega)), nI_1]
      have : tcm r t L = L + 1 := ftk_eq (by omega) (by omega) (fun j j1 j2 => h5 j j1 (by omega) (by omega)) (fun z => by omega)
      rw [this]
    · rw [if_neg (nI_nlt (by omega) (by omega)), ix40 (by omega), k_t0 hC]
      obtain ⟨t1, t2⟩ := tm_c h (c := c) (by omega)
      rw [k_ear (h.ck s1) hC s1 t1, bi_s, t2]
      simp only [Nat.zero_add, Nat.reduceAdd]
      rw [nI_clamp (by omega), k_f2 hC ht]
      have b1 := st_b h ht
      have b2 := ear_b (h.ck s1) (t := (r 0).toInt + c) (by omega) h.tm.1 (by have := h.tm.2; omega)
      have e1 : (iI (earI r (srv r t) ((r 0).toInt + c))).toInt = earI r (srv r t) ((r 0).toInt + c) := iI_toInt (by omega) (by omega)
      have e2 : (TX r t 2 - iI (earI r (srv r t) ((r 0).toInt + c))).toInt = (TX r t 2).toInt - earI r (srv r t) ((r 0).toInt + c) := by
        rw [i_sub (by rw [e1]; omega) (by rw [e1]; omega), e1]
      by_cases y : 0 ≤ TX r t 2 - iI (earI r (srv r t) ((r 0).toInt + c))
      · rw [if_pos y]
        rw [i_le, e2, l_0] at y
        obtain ⟨q, hq⟩ : ∃ q : Nat, (q : Int) = ((TX r t 2).toInt - earI r (srv r t) ((r 0).toInt + c)) / 2 := ⟨(((TX r t 2).toInt - earI r (srv r t) ((r 0).toInt + c)) / 2).toNat, by omega⟩
        have e3 : (TX r t 2 - iI (earI r (srv r t) ((r 0).toInt + c))) / (2 : Int32) = nI q := by
          have hlt : q < 2147483648 := by omega
          rw [i_eq, i_div (by decide), e2, nI_toInt (by omega), hq, show ((2 : Int32)).toInt = 2 by decide, Int.tdiv_eq_ediv_of_nonneg y]
        have e4 : nI c + ((1 : Int32) + (TX r t 2 - iI (earI r (srv r t) ((r 0).toInt + c))) / (2 : Int32)) = nI (c + (1 + q)) := by
          rw [e3]
          show nI c + (nI 1 + nI q) = _
          rw [nI_add, nI_add]
        rw [e4]
        refine ih f (c + (1 + q)) (by omega) (by omega) (by omega) (by omega) (fun j j1 j2 j3 => ?_)
        by_cases w : j < c
        · exact h5 j j1 w j3
        · have h6 := ear_j (h.ck s1) ((r 0).toInt + c) (j - c)
          rw [show (r 0).toInt + (c : Int) + ((j - c : Nat) : Int) = (r 0).toInt + j by omega] at h6
          unfold hitB
          exact decide_eq_false (by omega)
      · rw [if_neg y]
        rw [i_le, e2, l_0] at y
        have : tcm r t L = c := ftk_eq h3 (by omega) (fun j j1 j2 => h5 j j1 j2 (by omega)) (fun _ => decide_eq_true (by omega))
        rw [this]
theorem k_tuc (hn : 10010 ≤ n) (h : Inv bd r) (hC : Cls g 0 r) (ht : t < nB r) {L : Nat} (hL : L ≤ 10000) : sX2_ticksUntilCommitted n g 0 (nI t) (nI L) = some (nI (tcm r t L)) := by
  have hb := h.b40
  obtain ⟨s1, s2⟩ := srv_q h ht
  unfold sX2_ticksUntilCommitted
  simp only [Nat.zero_add, Nat.reduceAdd]
  rw [ix40 (by omega), nI_clamp (by omega), k_f0 hC ht, s2, ix3 s1, nI_clamp (by omega)]
  exact k_tuc_18 h hC ht hL L n 1 (by omega) (by omega) (by omega) (by omega) (fun j j1 j2 => by omega)
theorem tcm_b (r : Nat → Int32) (t L : Nat) : 1 ≤ tcm r t L ∧ tcm r t L ≤ L + 1 := by
  obtain ⟨h1, h2, -, -⟩ := ftk_spec (hitB r t) L 1
  exact ⟨h1, by unfold tcm; omega⟩
theorem r_hit (h : Inv bd (m 1)) (ht : t < nB (m 1)) {c : Nat} (hc : c ≤ 10000) : sX7_earliestAt m (nI (srv (m 1) t)) ((m 1 0) + nI c) = some (iI (earI (m 1) (srv (m 1) t) ((m 1 0).toInt + c))) ∧ (iI (earI (m 1) (srv (m 1) t) ((m 1 0).toInt + c))).toInt = earI (m 1) (srv (m 1) t) ((m 1 0).toInt + c) := by
  obtain ⟨s1, s2⟩ := srv_q h ht
  obtain ⟨t1, t2⟩ := tm_c h hc
  have b2 := ear_b (h.ck s1) (t := (m 1 0).toInt + c) (by omega) h.tm.1 (by have := h.tm.2; omega)
  exact ⟨by rw [r_ear (h.ck s1) s1 t1, t2], iI_toInt (by omega) (by omega)⟩
theorem lt_10k {i : Nat} (h : i ≤ 10000) : ¬ (10000 : Int32) < nI i := nI_nlt (a := 10000) (b := i) h (by decide)
theorem r_ttc (hn : 10010 ≤ n) (h : Inv bd (m 1)) (ht : t < nB (m 1)) : sX7_ticksToCommit_38 n n m (nI t) 1 = some (if tcm (m 1) t 10000 < 10001 then nI (tcm (m 1) t 10000) else -1, m) := by
  have hb := h.b40
  obtain ⟨s1, s2⟩ := srv_q h ht
  have key := lp_ft (fun f i => sX7_ticksToCommit_38 n f m (nI t) i) 1 10001 (hitB (m 1) t) (fun i => some (nI i, m)) (some (-1, m)) (fun f i hi1 hi hc => by
      obtain ⟨a1, a2⟩ := r_hit h ht (c := i) (by omega)
      simp only [sX7_ticksToCommit_38, lt_10k (show i ≤ 10000 by omega), if_false, r_of2 (show t < 40 by omega), r_of0 (show t < 40 by omega), bi_s, s2, r_i0, c_0, a1, i_le, a2, nI_1]
      unfold hitB at hc
      rw [if_pos (by have := of_decide_eq_false hc; omega)]) (fun f i hi1 hi hc => by
      obtain ⟨a1, a2⟩ := r_hit h ht (c := i) (by omega)
      simp only [sX7_ticksToCommit_38, lt_10k (show i ≤ 10000 by omega), if_false, r_of2 (show t < 40 by omega), r_of0 (show t < 40 by omega), bi_s, s2, r_i0, c_0, a1, i_le, a2, nI_1]
      unfold hitB at hc
      rw [if_neg (by have := of_decide_eq_true hc; omega)]) (fun f => by
      have hle : (10000 : Int32) < nI 10001 := nI_lt (a := 10000) (by omega) (by omega)
      simp only [sX7_ticksToCommit_38, hle, if_true]) 10000 1 (by omega) (by omega) n (by omega)
  refine key.trans ?_
  unfold tcm
  split <;> rfl
/-! until a timestamp may be read -/
def wtS (r : Nat → Int32) (x : Int32) : Nat → Int32 → Int32 := fun t a => if TX r t 1 = 1 then (if x.toInt < (TX r t 2).toInt then a else sMax a (nI (tcm r t 10000))) else a
def wtN (r : Nat → Int32) (x a : Int32) : Int32 := itr (wtS r x) 0 (nB r) a
theorem r_wt1 (hn : 10010 ≤ n) (h : Inv bd (m 1)) (ht : t < nB (m 1)) (x a : Int32) (rec : Int32 → Int32 → Int32 → Option Int32) : sX7_ticksOfWaiting_39 n m rec n x a (nI t) 1 = rec x (sMax a (nI (tcm (m 1) t 10000))) (nI (t + 1)) := by
  have hb := h.b40
  obtain ⟨s1, s2⟩ := srv_q h ht
  have key := lp_ft (fun f i => sX7_ticksOfWaiting_39 n m rec f x a (nI t) i) 1 10001 (hitB (m 1) t) (fun i => rec x (sMax a (nI i)) (nI (t + 1))) (rec x (sMax a (nI 10001)) (nI (t + 1))) (fun f i hi1 hi hc => by
      obtain ⟨a1, a2⟩ := r_hit h ht (c := i) (by omega)
      simp only [sX7_ticksOfWaiting_39, lt_10k (show i ≤ 10000 by omega), if_false, r_of2 (show t < 40 by omega), r_of0 (show t < 40 by omega), bi_s, s2, r_i0, c_0, a1, i_lt, a2, nI_1]
      unfold hitB at hc
      rw [if_neg (of_decide_eq_false hc)]) (fun f i hi1 hi hc => by
      obtain ⟨a1, a2⟩ := r_hit h ht (c := i) (by omega)
      simp only [sX7_ticksOfWaiting_39, lt_10k (show i ≤ 10000 by omega), if_false, r_of2 (show t < 40 by omega), r_of0 (show t < 40 by omega), bi_s, s2, r_i0, c_0, a1, i_lt, a2, nI_1]
      unfold hitB at hc
      rw [if_pos (of_decide_eq_true hc), r_gt, bi_s]) (fun f => by
      have hle : (10000 : Int32) < nI 10001 := nI_lt (a := 10000) (by omega) (by omega)
      simp only [sX7_ticksOfWaiting_39, hle, if_true, r_gt, bi_s, nI_1]) 10000 1 (by omega) (by omega) n (by omega)
  refine key.trans ?_
  have hb2 := tcm_b (m 1) t 10000
  unfold tcm at hb2 ⊢
  split
  · rfl
  · rw [show ftk (hitB (m 1) t) 10000 1 = 10001 by omega]
theorem r_wt (hn : 10010 ≤ n) (h : Inv bd (m 1)) (x : Int32) : sX7_ticksOfWaiting n m x = some (if wtN (m 1) x 0 ≤ 10000 then wtN (m 1) x 0 else -1) := by
  have hb := h.b40
  unfold sX7_ticksOfWaiting
  have key := lp_up (fun f s i => sX7_ticksOfWaiting_4 n m f x s i) (nB (m 1)) (wtS (m 1) x) (fun s => some (if s ≤ 10000 then s else -1)) (fun f i s hi => by
    have hle : ¬ nI (nB (m 1)) ≤ nI i := nI_ge hi (by omega)
    have b1 := st_b h hi
    have es : (TX (m 1) i 2 - 1).toInt = (TX (m 1) i 2).toInt - 1 := by rw [i_sub (by rw [l_1]; omega) (by rw [l_1]; omega), l_1]
    simp only [sX7_ticksOfWaiting_4, r_i3, c_3, h.r3, hle, if_false, nI_1, bi_s, r_of1 (show i < 40 by omega), r_of2 (show i < 40 by omega), r_wt1 hn h hi, i_le, es, wtS]
    by_cases e : TX (m 1) i 1 = 1
    · rw [if_pos e, if_pos e]
      by_cases e2 : x.toInt < (TX (m 1) i 2).toInt
      · rw [if_pos e2, if_pos (by omega)]
      · rw [if_neg e2, if_neg (by omega)]
    · rw [if_neg e, if_neg e]) (fun f s => by
    have hle : nI (nB (m 1)) ≤ nI (nB (m 1)) := nI_le (Nat.le_refl _) (by omega)
    simp only [sX7_ticksOfWaiting_4, r_i3, c_3, h.r3, hle, if_true]
    split <;> rfl) (nB (m 1)) 0 (by omega) n (by omega) 0
  exact key
theorem k_wt (hn : 10010 ≤ n) (h : Inv bd r) (hC : Cls g 0 r) (x a : Int32) : sX2_ticksUntilSafeAt_51 n g n 0 x 10000 a 0 = some (wtN r x a) := by
  have hb := h.b40
  have key := lp_up (fun f s i => sX2_ticksUntilSafeAt_51 n g f 0 x 10000 s i) (nB r) (wtS r x) some (fun f i s hi => by
    have hle : ¬ nI (nB r) ≤ nI i := nI_ge hi (by omega)
    have hcl : (nI i).toNatClampNeg = i := nI_clamp (by omega)
    have htu : sX2_ticksUntilCommitted n g 0 (nI i) 10000 = some (nI (tcm r i 10000)) := k_tuc hn h hC hi (L := 10000) (by omega)
    simp only [sX2_ticksUntilSafeAt_51, Nat.zero_add, Nat.reduceAdd, k_b hC h, hle, if_false, nI_1, bi_s, ix40 (show i < 40 by omega), hcl, k_f1 hC hi, k_f2 hC hi, htu, i_lt, wtS]
    by_cases e : TX r i 1 = 1
    · rw [if_pos e, if_pos e]
      split <;> rfl
    · rw [if_neg e, if_neg e]) (fun f s => by
    have hle : nI (nB r) ≤ nI (nB r) := nI_le (Nat.le_refl _) (by omega)
    simp only [sX2_ticksUntilSafeAt_51, Nat.zero_add, Nat.reduceAdd, k_b hC h, hle, if_true]) (nB r) 0 (by omega) n (by omega) a
  exact key
def wm (r : Nat → Int32) (x : Int32) : Nat → Nat → Nat
  | _, 0 => 0
  | i, d + 1 => max (if TX r i 1 = 1 then (if x.toInt < (TX r i 2).toInt then 0 else tcm r i 10000) else 0) (wm r x (i + 1) d)
theorem wm_b (r : Nat → Int32) (x : Int32) : ∀ d i, wm r x i d ≤ 10001
  | 0, i => by unfold wm; omega
  | d + 1, i => by
    have h1 := wm_b r x d (i + 1)
    have h2 := tcm_b r i 10000
    unfold wm
    split
    · split <;> omega
    · omega
theorem wt_wm (r : Nat → Int32) (x : Int32) : ∀ d i (a : Int32), 0 ≤ a.toInt → (itr (wtS r x) i d a).toInt = max a.toInt (wm r x i d)
  | 0, i, a, h => by
    show a.toInt = max a.toInt ((0 : Nat) : Int)
    omega
  | d + 1, i, a, h => by
    have h2 := tcm_b r i 10000
    have e := nI_toInt (n := tcm r i 10000) (by omega)
    unfold itr wm wtS
    by_cases e1 : TX r i 1 = 1
    · rw [if_pos e1, if_pos e1]
      by_cases e2 : x.toInt < (TX r i 2).toInt
      · rw [if_pos e2, if_pos e2]
        have := wt_wm r x d (i + 1) a h
        unfold wtS at this
        rw [this]
        omega
      · rw [if_neg e2, if_neg e2]
        have := wt_wm r x d (i + 1) (sMax a (nI (tcm r i 10000))) (by rw [sMax_i]; omega)
        unfold wtS at this
        rw [this, sMax_i, e]
        omega
    · rw [if_neg e1, if_neg e1]
      have := wt_wm r x d (i + 1) a h
      unfold wtS at this
      rw [this]
      omega
theorem bm6 {z : Int} (h : -9223372036854775808 ≤ z) (h2 : z < 9223372036854775808) : z.bmod (2 ^ 64) = z := Int.bmod_eq_of_le (by omega) (by omega)
theorem lc_lt {a b : Int64} : 0 < lg_cmp a b ↔ b.toInt < a.toInt := by
  unfold lg_cmp
  by_cases q : a > b
  · rw [if_pos q]
    have q' : b < a := q
    rw [Int64.lt_iff_toInt_lt] at q'
    exact ⟨fun _ => q', fun _ => by decide⟩
  · rw [if_neg q]
    have q' : ¬ b < a := q
    rw [Int64.lt_iff_toInt_lt] at q'
    refine ⟨fun z => ?_, fun z => absurd z q'⟩
    by_cases e : a = b
    · rw [if_pos e] at z
      exact absurd z (by decide)
    · rw [if_neg e] at z
      exact absurd z (by decide)
theorem lc_le {a b : Int64} : 0 ≤ lg_cmp a b ↔ b.toInt ≤ a.toInt := by
  unfold lg_cmp
  by_cases q : a > b
  · rw [if_pos q]
    have q' : b < a := q
    rw [Int64.lt_iff_toInt_lt] at q'
    exact ⟨fun _ => by omega, fun _ => by decide⟩
  · rw [if_neg q]
    have q' : ¬ b < a := q
    rw [Int64.lt_iff_toInt_lt] at q'
    by_cases e : a = b
    · rw [if_pos e, e]
      exact ⟨fun _ => Int.le_refl _, fun _ => by decide⟩
    · rw [if_neg e]
      refine ⟨fun z => absurd z (by decide), fun z => ?_⟩
      exact absurd (Int64.toInt_inj.mp (by omega)) e
theorem lN_c {c : Nat} (h : c < 2147483648) : (lN c).toInt32 = nI c := by
  have e1 := lN_toInt (n := c) (by omega)
  have e2 := nI_toInt (n := c) (by omega)
  rw [i_eq, Int64.toInt_toInt32, e1, e2, bm (by omega) (by omega)]
def ltk (r : Nat → Int32) (s : Nat) (x : Int32) : Nat := ftk (fun j => decide (x.toInt < latI r s ((r 0).toInt + j))) 10001 0
theorem ltk_b (r : Nat → Int32) (s : Nat) (x : Int32) : ltk r s x ≤ 10001 := by
  have := (ftk_spec (fun j => decide (x.toInt < latI r s ((r 0).toInt + j))) 10001 0).2.1
  unfold ltk
  omega
theorem k_ltp_3 (h : Inv bd r) (hC : Cls g 0 r) (hs : s < 3) (hx : 0 ≤ x.toInt) : ∀ d f c : Nat, 10001 - c ≤ d → d < f → c < 2000000000 → (∀ j : Nat, j < c → j ≤ 10000 → ¬ x.toInt < latI r s ((r 0).toInt + j)) → sX1_ticksUntilLatestPasses_3 n g f (2 + s) x (r 0) 10000 (lN c) = some (nI (ltk r s x)) := by
  have h10 : ((10000 : Int32)).toInt64.toInt = 10000 := by decide
  have out : ∀ f c : Nat, ¬ c ≤ 10000 → c < 2000000000 → (∀ j : Nat, j < c → j ≤ 10000 → ¬ x.toInt < latI r s ((r 0).toInt + j)) → sX1_ticksUntilLatestPasses_3 n g (f + 1) (2 + s) x (r 0) 10000 (lN c) = some (nI (ltk r s x)) := by
    intro f c h1 h2 h3
    have e1 := lN_toInt (n := c) (by omega)
    rw [sX1_ticksUntilLatestPasses_3, if_pos (by rw [lc_lt, h10, e1]; omega)]
    have : ltk r s x = 10001 := ftk_eq (by omega) (by omega) (fun j j1 j2 => decide_eq_false (h3 j (by omega) (by omega))) (fun z => by omega)
    rw [this]
    rfl
  intro d
  induction d with
  | zero =>
    intro f c h1 h2 h3 h4
    obtain ⟨f, rfl⟩ : ∃ q, f = q + 1 := ⟨f - 1, by omega⟩
    exact out f c (by omega) h3 h4
  | succ d ih =>
    intro f c h1 h2 h3 h4
    obtain ⟨f, rfl⟩ : ∃ q, f = q + 1 := ⟨f - 1, by omega⟩
    by_cases z : c ≤ 10000
    · have e1 := lN_toInt (n := c) (by omega)
      rw [sX1_ticksUntilLatestPasses_3, if_neg (by rw [lc_lt, h10, e1]; omega), lN_c (by omega)]
      obtain ⟨t1, t2⟩ := tm_c h (c := c) z
      rw [k_lat (h.ck hs) hC hs t1, bi_s, t2]
      have b2 := lat_b (h.ck hs) (t := (r 0).toInt + c) (by omega) h.tm.1 (by have := h.tm.2; omega)
      have e3 : (iI (latI r s ((r 0).toInt + c))).toInt = latI r s ((r 0).toInt + c) := iI_toInt (by omega) (by omega)
      have hxh := i_hi x
      have e2 : (x.toInt64 - (iI (latI r s ((r 0).toInt + c))).toInt64).toInt = x.toInt - latI r s ((r 0).toInt + c) := by
        rw [Int64.toInt_sub, Int32.toInt_toInt64, Int32.toInt_toInt64, e3, bm6 (by omega) (by omega)]
      have h0 : ((0 : Int64)).toInt = 0 := by decide
      by_cases y : 0 ≤ lg_cmp (x.toInt64 - (iI (latI r s ((r 0).toInt + c))).toInt64) (0 : Int64)
      · rw [if_pos y]
        rw [lc_le, e2, h0] at y
        obtain ⟨q, hq⟩ : ∃ q : Nat, (q : Int) = (x.toInt - latI r s ((r 0).toInt + c)) / 3 := ⟨((x.toInt - latI r s ((r 0).toInt + c)) / 3).toNat, by omega⟩
        have e5 : ((x.toInt64 - (iI (latI r s ((r 0).toInt + c))).toInt64) / (3 : Int64)).toInt = q := by
          rw [Int64.toInt_div, e2, show ((3 : Int64)).toInt = 3 by decide, Int.tdiv_eq_ediv_of_nonneg y, ← hq, bm6 (by omega) (by omega)]
        have e6 : ((1 : Int64) + (x.toInt64 - (iI (latI r s ((r 0).toInt + c))).toInt64) / (3 : Int64)).toInt = 1 + q := by
          rw [Int64.toInt_add, e5, show ((1 : Int64)).toInt = 1 by decide, bm6 (by omega) (by omega)]
        have e4 : lN c + ((1 : Int64) + (x.toInt64 - (iI (latI r s ((r 0).toInt + c))).toInt64) / (3 : Int64)) = lN (c + (1 + q)) := by
          refine Int64.toInt_inj.mp ?_
          rw [Int64.toInt_add, e6, e1, lN_toInt (by omega), bm6 (by omega) (by omega)]
          omega
        rw [e4]
        refine ih f (c + (1 + q)) (by omega) (by omega) (by omega) (fun j j2 j3 => ?_)
        by_cases w : j < c
        · exact h4 j w j3
        · have h6 := (lat_j (h.ck hs) ((r 0).toInt + c) (j - c)).1
          rw [show (r 0).toInt + (c : Int) + ((j - c : Nat) : Int) = (r 0).toInt + j by omega] at h6
          omega
      · rw [if_neg y]
        rw [lc_le, e2, h0] at y
        have : ltk r s x = c := ftk_eq (Nat.zero_le _) (by omega) (fun j j1 j2 => decide_eq_false (h4 j j2 (by omega))) (fun _ => decide_eq_true (by omega))
        rw [this]
    · exact out f c z h3 h4
def sT (r : Nat → Int32) (s : Nat) (x : Int32) : Nat := if x.toInt < (nx r s (r 0).toInt).toInt then 0 else ltk r s x
theorem sT_b (r : Nat → Int32) (s : Nat) (x : Int32) : sT r s x ≤ 10001 := by
  have := ltk_b r s x
  unfold sT
  split <;> omega
theorem k_srv1 (hn : 10010 ≤ n) (h : Inv bd r) (hC : Cls g 0 r) (hs : s < 3) (hx : 0 ≤ x.toInt) {a f : Nat} {i : Int32} (hi : i = nI s) (ha : a ≤ 10001) : sX2_ticksUntilSafeAt_5 n g (f + 1) 0 x 10000 (nI a) i = sX2_ticksUntilSafeAt_5 n g f 0 x 10000 (nI (max a (sT r s x))) (nI (s + 1)) := by
  subst hi
  have hle : ¬ (3 : Int32) ≤ nI s := nI_ge (b := 3) hs (by decide)
  have hl := ltk_b r s x
  rw [sX2_ticksUntilSafeAt_5, if_neg hle, k_nx h hC hs (tm_r h), bi_s, nI_1]
  unfold sT
  by_cases y : x < nx r s (r 0).toInt
  · rw [if_pos y, if_pos (i_lt.mp y), show max a 0 = a by omega]
  · rw [if_neg y, if_neg (fun z => y (i_lt.mpr z)), ix3 hs, nI_clamp (by omega), k_t0 hC]
    simp only [Nat.zero_add, Nat.reduceAdd]
    have e := k_ltp_3 (n := n) h hC hs hx 10001 n 0 (by omega) (by omega) (by omega) (fun j j1 => by omega)
    unfold sX1_ticksUntilLatestPasses
    rw [show (0 : Int64) = lN 0 from rfl, e, bi_s]
    have e2 : sMax (nI a) (nI (ltk r s x)) = nI (max a (ltk r s x)) := by
      rw [i_eq, sMax_i, nI_toInt (by omega), nI_toInt (by omega), nI_toInt (by omega)]
      omega
    rw [e2]
theorem k_tus (hn : 10010 ≤ n) (h : Inv bd r) (hC : Cls g 0 r) (hx : 0 ≤ x.toInt) : sX2_ticksUntilSafeAt n g 0 x 10000 = some (wtN r x (nI (max (max (max 0 (sT r 0 x)) (sT r 1 x)) (sT r 2 x)))) := by
  obtain ⟨f, hf⟩ : ∃ k, n = k + 4 := ⟨n - 4, by omega⟩
  have b0 := sT_b r 0 x
  have b1 := sT_b r 1 x
  have b2 := sT_b r 2 x
  unfold sX2_ticksUntilSafeAt
  have e : sX2_ticksUntilSafeAt_5 n g n 0 x 10000 (nI 0) (nI 0) = sX2_ticksUntilSafeAt_51 n g n 0 x 10000 (nI (max (max (max 0 (sT r 0 x)) (sT r 1 x)) (sT r 2 x))) 0 := by
    have e4 : sX2_ticksUntilSafeAt_5 n g (f + 4) 0 x 10000 (nI 0) (nI 0) = sX2_ticksUntilSafeAt_51 n g n 0 x 10000 (nI (max (max (max 0 (sT r 0 x)) (sT r 1 x)) (sT r 2 x))) 0 := by
      rw [k_srv1 hn h hC (s := 0) (by decide) hx rfl (by omega), k_srv1 hn h hC (s := 1) (by decide) hx rfl (by omega), k_srv1 hn h hC (s := 2) (by decide) hx rfl (by omega)]
      have hle : (3 : Int32) ≤ nI (2 + 1) := nI_le (a := 3) (b := 3) (by decide) (by decide)
      rw [sX2_ticksUntilSafeAt_5, if_pos hle]
    rw [← hf] at e4
    exact e4
  have e5 : sX2_ticksUntilSafeAt_5 n g n 0 x 10000 0 0 = sX2_ticksUntilSafeAt_51 n g n 0 x 10000 (nI (max (max (max 0 (sT r 0 x)) (sT r 1 x)) (sT r 2 x))) 0 := e
  rw [e5, k_wt hn h hC]
theorem ok_ix (h : Inv bd r) (hs : s < 3) (hx : 0 ≤ x.toInt) {j : Nat} (hj : j ≤ 10000) : x.toInt ≤ (nx r s ((r 0).toInt + j)).toInt - 1 ↔ sT r s x ≤ j := by
  have ht := h.tm
  have n0 := nx_i h hs (t := (r 0).toInt) (Int.le_refl _) (by omega)
  have nj := nx_i h hs (t := (r 0).toInt + j) (by omega) (by omega)
  have hm := (lat_j (h.ck hs) (r 0).toInt j).2
  unfold sT
  by_cases y : x.toInt < (nx r s (r 0).toInt).toInt
  · rw [if_pos y]
    rw [n0] at y
    rw [nj]
    exact ⟨fun _ => Nat.zero_le _, fun _ => by omega⟩
  · rw [if_neg y]
    rw [n0] at y
    rw [nj]
    obtain ⟨g1, g2, g3, g4⟩ := ftk_spec (fun j : Nat => decide (x.toInt < latI r s ((r 0).toInt + j))) 10001 0
    have g4' : ltk r s x < 10001 → x.toInt < latI r s ((r 0).toInt + ((ltk r s x : Nat) : Int)) := fun z => of_decide_eq_true (g4 (by unfold ltk at z; omega))
    have g3' : ∀ i, i < ltk r s x → ¬ x.toInt < latI r s ((r 0).toInt + i) := fun i hi => of_decide_eq_false (g3 i (Nat.zero_le _) hi)
    constructor
    · intro z
      rcases Nat.lt_or_ge j (ltk r s x) with w | w
      · have := g3' j w
        omega
      · exact w
    · intro z
      have := g4' (by omega)
      have h6 := (lat_j (h.ck hs) ((r 0).toInt + (ltk r s x : Nat)) (j - ltk r s x)).2
      rw [show (r 0).toInt + ((ltk r s x : Nat) : Int) + ((j - ltk r s x : Nat) : Int) = (r 0).toInt + j by omega] at h6
      omega
theorem sf3_i (h : Inv bd r) {t : Int} (ht : (r 0).toInt ≤ t) (hh : t ≤ 1011000) : (sf3 r t).toInt = min (min ((nx r 0 t).toInt - 1) ((nx r 1 t).toInt - 1)) ((nx r 2 t).toInt - 1) := by
  have h4 := h.bdl
  have b0 := nx_b h (s := 0) (by decide) ht hh
  have b1 := nx_b h (s := 1) (by decide) ht hh
  have b2 := nx_b h (s := 2) (by decide) ht hh
  unfold sf3
  rw [sMin_i, sMin_i, i_sub (by rw [l_1]; omega) (by rw [l_1]; omega), i_sub (by rw [l_1]; omega) (by rw [l_1]; omega), i_sub (by rw [l_1]; omega) (by rw [l_1]; omega), l_1]
theorem r_ts (hn : 10010 ≤ n) (h : Inv bd (m 1)) (hx : 0 ≤ x.toInt) {w : Nat} (hw : w ≤ 10000) : sX7_ticksOfServers n m x (nI w) = some (if max w (max (max (sT (m 1) 0 x) (sT (m 1) 1 x)) (sT (m 1) 2 x)) < 10001 then nI (max w (max (max (sT (m 1) 0 x) (sT (m 1) 1 x)) (sT (m 1) 2 x))) else -1) := by
  have ht := h.tm
  have b0 := sT_b (m 1) 0 x
  have b1 := sT_b (m 1) 1 x
  have b2 := sT_b (m 1) 2 x
  have sfj : ∀ i : Nat, i ≤ 10000 → (x.toInt ≤ (sf3 (m 1) ((m 1 0).toInt + i)).toInt ↔ max (max (sT (m 1) 0 x) (sT (m 1) 1 x)) (sT (m 1) 2 x) ≤ i) := by
    intro i hi
    have q0 := ok_ix h (s := 0) (by decide) hx hi
    have q1 := ok_ix h (s := 1) (by decide) hx hi
    have q2 := ok_ix h (s := 2) (by decide) hx hi
    rw [sf3_i h (by omega) (by omega)]
    omega
  unfold sX7_ticksOfServers
  have key := lp_ft (fun f i => sX7_ticksOfServers_2 n m f x i) w 10001 (fun i => decide (max (max (sT (m 1) 0 x) (sT (m 1) 1 x)) (sT (m 1) 2 x) ≤ i)) (fun i => some (nI i)) (some (-1)) (fun f i hi1 hi hc => by
      obtain ⟨t1, t2⟩ := tm_c h (c := i) (by omega)
      have hc := of_decide_eq_false hc
      have := (sfj i (by omega)).mp
      simp only [sX7_ticksOfServers_2, lt_10k (show i ≤ 10000 by omega), if_false, r_i0, c_0, r_sf3 hn h t1, bi_s, t2, i_lt, nI_1]
      rw [if_pos (by omega)]) (fun f i hi1 hi hc => by
      obtain ⟨t1, t2⟩ := tm_c h (c := i) (by omega)
      have hc := of_decide_eq_true hc
      have := (sfj i (by omega)).mpr hc
      simp only [sX7_ticksOfServers_2, lt_10k (show i ≤ 10000 by omega), if_false, r_i0, c_0, r_sf3 hn h t1, bi_s, t2, i_lt, nI_1]
      rw [if_neg (by omega)]) (fun f => by
      have hle : (10000 : Int32) < nI 10001 := nI_lt (a := 10000) (by omega) (by omega)
      simp only [sX7_ticksOfServers_2, hle, if_true]) (10001 - w) w (Nat.le_refl _) (by omega) n (by omega)
  have e : ftk (fun i => decide (max (max (sT (m 1) 0 x) (sT (m 1) 1 x)) (sT (m 1) 2 x) ≤ i)) (10001 - w) w = max w (max (max (sT (m 1) 0 x) (sT (m 1) 1 x)) (sT (m 1) 2 x)) := ftk_eq (by omega) (by omega) (fun j j1 j2 => decide_eq_false (by omega)) (fun _ => decide_eq_true (by omega))
  refine key.trans ?_
  rw [e]
  split <;> rfl
theorem tus_sim (hn : 10010 ≤ n) (h : Inv bd (m 1)) (hC : Cls g 0 (m 1)) (hx : 0 ≤ x.toInt) : ∃ a b : Int32, sX2_ticksUntilSafeAt n g 0 x 10000 = some a ∧ sX7_ticksOfWaiting n m x = some b ∧ (if a ≤ 10000 then a else -1) = (if b = -1 then -1 else (if max b.toInt a.toInt ≤ 10000 then a else -1)) ∧ (b ≠ -1 → sX7_ticksOfServers n m x b = some (if max b.toInt a.toInt ≤ 10000 then a else -1)) := by
  have b0 := sT_b (m 1) 0 x
  have b1 := sT_b (m 1) 1 x
  have b2 := sT_b (m 1) 2 x
  have hw := wm_b (m 1) x (nB (m 1)) 0
  have h10 : ((10000 : Int32)).toInt = 10000 := by decide
  obtain ⟨S, hS⟩ : ∃ S, S = max (max (sT (m 1) 0 x) (sT (m 1) 1 x)) (sT (m 1) 2 x) := ⟨_, rfl⟩
  have eS : max (max (max 0 (sT (m 1) 0 x)) (sT (m 1) 1 x)) (sT (m 1) 2 x) = S := by omega
  have ea := wt_wm (m 1) x (nB (m 1)) 0 (nI S) (by rw [nI_toInt (by omega)]; omega)
  have eb := wt_wm (m 1) x (nB (m 1)) 0 0 (by rw [l_0]; omega)
  rw [nI_toInt (by omega)] at ea
  rw [l_0] at eb
  have k1 := k_tus hn h hC hx
  rw [eS] at k1
  have k2 := r_wt hn h x
  obtain ⟨W, hW⟩ : ∃ W, W = wm (m 1) x 0 (nB (m 1)) := ⟨_, rfl⟩
  rw [← hW] at ea eb hw
  have ea2 : wtN (m 1) x (nI S) = nI (max S W) := by
    rw [i_eq, nI_toInt (by omega)]
    unfold wtN
    rw [ea]; omega
  have eb2 : wtN (m 1) x 0 = nI W := by
    rw [i_eq, nI_toInt (by omega)]
    unfold wtN
    rw [eb]; omega
  rw [ea2] at k1
  rw [eb2] at k2
  have eS2 := nI_toInt (n := max S W) (by omega)
  have eW2 := nI_toInt (n := W) (by omega)
  refine ⟨_, _, k1, k2, ?_, fun hb => ?_⟩
  · simp only [i_le, eS2, eW2, h10]
    by_cases y : (W : Int) ≤ 10000
    · rw [if_pos y, if_neg (nI_nm1 (by omega)), eW2]
      by_cases z : ((max S W : Nat) : Int) ≤ 10000
      · rw [if_pos z, if_pos (by omega)]
      · rw [if_neg z, if_neg (by omega)]
    · rw [if_neg y, if_pos rfl, if_neg (by omega)]
  · simp only [i_le, eS2, eW2, h10] at hb ⊢
    by_cases y : (W : Int) ≤ 10000
    · rw [if_pos y, r_ts hn h hx (by omega), eW2, ← hS]
      by_cases z : ((max S W : Nat) : Int) ≤ 10000
      · rw [if_pos (by omega), if_pos (by omega), Nat.max_comm]
      · rw [if_neg (by omega), if_neg (by omega)]
    · rw [if_neg y] at hb
      exact absurd rfl hb
end PT
