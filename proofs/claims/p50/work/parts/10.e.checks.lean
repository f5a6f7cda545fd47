/-! what the law's helpers answer: newestBelow, areVersions, isOne, areAll -/
theorem ok1_s {β : Type} {v : Int32} {f : Int32 → Option β} : sOk1 (some (0, v)) f = f v := rfl
theorem ok2_s {β : Type} {v : Int32} {m : Mem} {f : Int32 → Mem → Option β} : sOk2 (some (0, v, m)) f = f v m := rfl
section VE
variable {bd ub : Int} {g : Mem} {r : Nat → Int32} {n t k b : Nat} {x y : Int32}
theorem ex_below (hV : ClV g 0 r k) (hy : 1 ≤ y.toInt) : ∀ c, c ≤ cv r k → ∃ b, b ≤ c ∧ (g 7 (k * 41 + b)).toInt < y.toInt ∧ ∀ j, b < j → j ≤ c → y.toInt ≤ (g 7 (k * 41 + j)).toInt
  | 0, _ => ⟨0, Nat.le_refl _, by rw [Nat.add_zero, vt_0 hV]; omega, fun j h1 h2 => by omega⟩
  | c + 1, hc => by
    obtain ⟨b, b1, b2, b3⟩ := ex_below hV hy c (by omega)
    by_cases z : (g 7 (k * 41 + (c + 1))).toInt < y.toInt
    · exact ⟨c + 1, Nat.le_refl _, z, fun j h1 h2 => by omega⟩
    · refine ⟨b, by omega, b2, fun j h1 h2 => ?_⟩
      by_cases e : j = c + 1
      · rw [e]; omega
      · exact b3 j h1 (by omega)
theorem z_below (hn : 10010 ≤ n) (h : Inv bd r) (hC : Cls g 0 r) (hk : k < 8) (hb : b ≤ cv r k) (h1 : (g 7 (k * 41 + b)).toInt < y.toInt) (h2 : ∀ j, b < j → j ≤ cv r k → y.toInt ≤ (g 7 (k * 41 + j)).toInt) : sL_newestBelow n g (nI k) y = some (nI b) := by
  have h4 := cv_le (k := k) h
  have hV := hC.2.2.1 k hk
  unfold sL_newestBelow
  rw [x_vs h hC hk, ok1_s]
  have key := lp_iv (fun f s i => sL_newestBelow_12 n g f (nI k) y (nI (cv r k + 1)) s i) (cv r k + 1) (fun s => some s) (fun i s => (i = 0 → s = -1) ∧ (0 < i → s = nI (min (i - 1) b))) (fun f i s hi hp => by
      have hle : ¬ nI (cv r k + 1) ≤ nI i := nI_ge hi (by omega)
      have h41 : ¬ (41 : Int32) ≤ nI i := nI_ge (b := 41) (by omega) (by decide)
      by_cases z : i ≤ b
      · have q : (g 7 (k * 41 + i)).toInt < y.toInt := Int.lt_of_le_of_lt (vt_le hV z hb) h1
        refine ⟨nI i, ⟨fun e => by omega, fun _ => by rw [show min (i + 1 - 1) b = i by omega]⟩, ?_⟩
        simp only [sL_newestBelow_12, hle, h41, if_false, x_vt h hC hk (show i ≤ cv r k by omega), ok1_s, nI_1]
        rw [if_neg (by rw [i_le]; omega)]
      · have q := h2 i (by omega) (by omega)
        refine ⟨s, ⟨fun e => by omega, fun _ => ?_⟩, ?_⟩
        · rw [hp.2 (by omega), show min (i + 1 - 1) b = min (i - 1) b by omega]
        · simp only [sL_newestBelow_12, hle, h41, if_false, x_vt h hC hk (show i ≤ cv r k by omega), ok1_s, nI_1]
          rw [if_pos (by rw [i_le]; omega)]) (fun f s hp => by
      have hle : nI (cv r k + 1) ≤ nI (cv r k + 1) := nI_le (Nat.le_refl _) (by omega)
      simp only [sL_newestBelow_12, hle, if_true]) (cv r k + 1) 0 (by omega) n (by omega) (-1) ⟨fun _ => rfl, fun q => by omega⟩
  obtain ⟨s, ⟨-, p2⟩, p4⟩ := key
  rw [p2 (by omega), show min (cv r k + 1 - 1) b = b by omega] at p4
  exact p4
theorem z_vers50 (hn : 10010 ≤ n) (h : Inv bd r) (hC : Cls g 0 r) (hk : k < 8) (rec : Int32 → Option Int32) : sL_areVersions_50 n g rec n (nI k) (nI (cv r k + 1)) (-1) 0 = rec (nI k + 1) := by
  have h4 := cv_le (k := k) h
  have hV := hC.2.2.1 k hk
  have key := lp_iv (fun f s i => sL_areVersions_50 n g rec f (nI k) (nI (cv r k + 1)) s i) (cv r k + 1) (fun _ => rec (nI k + 1)) (fun i s => (i = 0 → s = -1) ∧ (0 < i → s = g 7 (k * 41 + (i - 1)))) (fun f i s hi hp => by
      have hle : ¬ nI (cv r k + 1) ≤ nI i := nI_ge hi (by omega)
      have hnn := vt_nn hV (show i ≤ cv r k by omega)
      have hlt : ¬ g 7 (k * 41 + i) ≤ s := by
        rw [i_le]
        by_cases z : i = 0
        · rw [hp.1 z, nm1]; omega
        · rw [hp.2 (by omega)]
          have := hV.2.2.2.2.2.1 (i - 1) i (by omega) (by omega)
          rw [Nat.zero_add] at this
          omega
      obtain ⟨v, v1, v2⟩ := x_val hn h hC hk hnn
      obtain ⟨w, w1, w2⟩ := x_rep hn h hC hk hnn
      have e : v = w := WV_uq hV v1 w1
      refine ⟨g 7 (k * 41 + i), ⟨fun z => by omega, fun _ => rfl⟩, ?_⟩
      simp only [sL_areVersions_50, hle, if_false, x_vt h hC hk (show i ≤ cv r k by omega), ok1_s, hlt, v2, w2, e, if_true, nI_1]) (fun f s hp => by
      have hle : nI (cv r k + 1) ≤ nI (cv r k + 1) := nI_le (Nat.le_refl _) (by omega)
      simp only [sL_areVersions_50, hle, if_true]) (cv r k + 1) 0 (by omega) n (by omega) (-1) ⟨fun _ => rfl, fun q => by omega⟩
  obtain ⟨s, -, p4⟩ := key
  exact p4
theorem z_vers (hn : 10010 ≤ n) (h : Inv bd r) (hC : Cls g 0 r) : sL_areVersions n g = some 1 := by
  unfold sL_areVersions
  exact lp_up (fun f (_ : Unit) i => sL_areVersions_2 n g f i) 8 (fun _ s => s) (fun _ => some 1) (fun f k s hk => by
    have h4 := cv_le (k := k) h
    have hV := hC.2.2.1 k hk
    have h8 : ¬ (8 : Int32) ≤ nI k := nI_ge (b := 8) hk (by decide)
    have a1 : ¬ nI (cv r k + 1) < (1 : Int32) := nI_nlt (a := cv r k + 1) (b := 1) (by omega) (by omega)
    have a2 : ¬ (41 : Int32) < nI (cv r k + 1) := nI_nlt (a := 41) (b := cv r k + 1) (by omega) (by decide)
    have e0 : sX6_versionTimestamp g (nI k) (0 : Int32) = some (0, g 7 (k * 41 + 0)) := x_vt h hC hk (i := 0) (Nat.zero_le _)
    have z0 : g 7 (k * 41 + 0) = 0 := by
      have := hV.2.1
      rwa [Nat.zero_add] at this
    obtain ⟨v, v1, v2⟩ := x_val (x := 0) hn h hC hk (by decide)
    have v3 : v = 0 := by
      have q : WV r k 0 (g 8 (k * 41 + 0)) := WV_ix hV (Nat.zero_le _) (Or.inl rfl) (fun j j1 j2 => by
        have := hV.2.2.2.2.2.1 0 j j1 j2
        rw [Nat.zero_add, z0] at this
        exact this)
      have q2 : g 8 (k * 41 + 0) = 0 := by
        have := hV.2.2.1
        rwa [Nat.zero_add] at this
      rw [q2] at q
      exact WV_uq hV v1 q
    show sL_areVersions_2 n g (f + 1) (nI k) = sL_areVersions_2 n g f (nI (k + 1))
    simp only [sL_areVersions_2, h8, if_false, x_vs h hC hk, ok1_s, a1, a2, e0, z0, if_true, v2, v3]
    have q := z_vers50 hn h hC hk (sL_areVersions_2 n g f)
    rw [nI_1] at q
    exact q) (fun f s => by
    have h8 : (8 : Int32) ≤ nI 8 := nI_le (Nat.le_refl _) (by decide)
    show sL_areVersions_2 n g (f + 1) (nI 8) = some 1
    simp only [sL_areVersions_2, h8, if_true]) 8 0 (by omega) n (by omega) ()
/-! a transaction -/
theorem z_one244 (hn : 10010 ≤ n) (h : Inv bd r) (hC : Cls g 0 r) (ht : t < nB r) : sL_isOne_244 n g (nI t) (TX r t 1) (TX r t 2) = some 1 := by
  unfold sL_isOne_244
  by_cases e : TX r t 1 = 1
  · obtain ⟨v, v1, v2⟩ := x_ttc hn h hC ht e
    have q := sf_wait h ht e
    rw [if_pos e, x_safe hn h hC, bi_s, if_neg (by rw [i_le]; omega), v2, ok1_s, if_neg v1]
  · rw [if_neg e]
theorem neg_m1 {z : Int32} (h : z = -1 ∨ 0 ≤ z.toInt) : z < 0 ↔ z = -1 := by
  rw [i_lt, l_0]
  refine ⟨fun q => h.elim id (fun y => by omega), fun q => by rw [q, nm1]; omega⟩
theorem z_one110 (hn : 10010 ≤ n) (h : Inv bd r) (hC : Cls g 0 r) (hS : Ser ub r) (ht : t < nB r) (hs : stp r t) : sL_isOne_110 n g n (nI t) (TX r t 1) (TX r t 2) 1 0 = some 1 := by
  obtain ⟨h1, h2, h3, h4, h5, h6, h7, h8, h9⟩ := hS
  have hx := h.tx ht
  have hts := hx.2.2.1 hs
  have c10 : ¬ ((1 : Int32) = 0) := by decide
  exact lp_up (fun f (_ : Unit) i => sL_isOne_110 n g f (nI t) (TX r t 1) (TX r t 2) 1 i) 8 (fun _ s => s) (fun _ => some 1) (fun f k s hk => by
    have hV := hC.2.2.1 k hk
    have q8 : ¬ (8 : Int32) ≤ nI k := nI_ge (b := 8) hk (by decide)
    obtain ⟨b, b1, b2, b3⟩ := ex_below (y := TX r t 2) hV hts.1 (cv r k) (Nat.le_refl _)
    have eb := z_below hn h hC hk b1 b2 b3
    have hw := (hx.2.2.2.2.2 k hk).1
    have hr := (hx.2.2.2.2.2 k hk).2
    have nw := neg_m1 hw
    have nr := neg_m1 hr
    -- what was recorded is the version just below
    have hrec : rd r t k = true → g 7 (k * 41 + b) = TX r t (13 + k) := fun e => by
      obtain ⟨i, i1, i2, i3⟩ := rd_ix h hC ht hk e
      obtain ⟨p1, p2⟩ := h3 t ht hs k hk e
      rw [i3] at p1 p2
      have hib : i ≤ b := Nat.not_lt.mp fun z => by
        have := b3 i z i1
        omega
      by_cases z : i = b
      · rw [← z, i3]
      · obtain ⟨u, u1, u2, u3, u4⟩ := v_at hV (show 1 ≤ b by omega) b1
        have q := hV.2.2.2.2.2.1 i b (by omega) b1
        rw [Nat.zero_add, u3] at q
        rw [u3] at b2
        have := p2 u u1 u2
        omega
    -- what lies behind a read that is right
    have h191 : sL_isOne_191 n g (sL_isOne_110 n g f) (nI t) (TX r t 1) (TX r t 2) 1 (nI k) (TX r t (13 + k)) = sL_isOne_110 n g f (nI t) (TX r t 1) (TX r t 2) 1 (nI (k + 1)) ∨ TX r t 1 ≠ 2 := by
      by_cases e2 : TX r t 1 = 2
      · left
        unfold sL_isOne_191
        by_cases e : TX r t (13 + k) = -1
        · rw [if_pos (nr.mpr e), nI_1]
        · have q := mk_all ht e2 (rd_iff.mpr e)
          rw [if_neg (fun z => e (nr.mp z)), x_mark hn h hC hk, ok1_s, if_pos (by rw [i_le]; omega), nI_1]
      · exact Or.inr e2
    have h169 : sL_isOne_169 n g (sL_isOne_110 n g f) (nI t) (TX r t 1) (TX r t 2) 1 (nI k) (TX r t (13 + k)) (TX r t (5 + k)) (nI b) = sL_isOne_110 n g f (nI t) (TX r t 1) (TX r t 2) 1 (nI (k + 1)) := by
      unfold sL_isOne_169
      by_cases e2 : TX r t 1 = 2
      · have q1 := h191.resolve_right (fun z => z e2)
        rw [if_pos e2]
        by_cases e : TX r t (5 + k) = -1
        · rw [if_pos (nw.mpr e)]
          exact q1
        · obtain ⟨v, v1, v2⟩ := x_val (x := TX r t 2) hn h hC hk (by omega)
          have hver : ver r t k = true := ver_iff.mpr ⟨e2, wr_iff.mpr e⟩
          obtain ⟨i, i1, i2, i3, i4⟩ := v_of hV ht hver
          have q2 := WV_at hV i2
          rw [i3, i4] at q2
          have e9 : v = TX r t (5 + k) := WV_uq hV v1 q2
          rw [if_neg (fun z => e (nw.mp z)), v2, ok1_s, if_pos e9]
          exact q1
      · have e1 : TX r t 1 = 1 := hs.resolve_right e2
        rw [if_neg e2]
        by_cases e : TX r t (5 + k) = -1
        · rw [if_pos (nw.mpr e), nI_1]
        · have hwr : wr r t k = true := wr_iff.mpr e
          have eb2 : b = cv r k := by
            by_cases z : b = cv r k
            · exact z
            · obtain ⟨u, u1, u2, u3, u4⟩ := v_at hV (show 1 ≤ cv r k by omega) (Nat.le_refl _)
              have q := b3 (cv r k) (by omega) (Nat.le_refl _)
              have q2 := ((h.lk t ht e1 k hk hwr) u u1).2 u2
              rw [u3] at q
              omega
          have ev : nI b = nI (cv r k + 1) - (1 : Int32) := by
            rw [eb2]
            exact (nI_pred _).symm
          rw [if_neg (fun z => e (nw.mp z)), x_ww hn h hC hk ht e1 hwr, ok1_s, if_pos rfl, x_vs h hC hk, ok1_s, if_pos ev, nI_1]
    show sL_isOne_110 n g (f + 1) (nI t) (TX r t 1) (TX r t 2) 1 (nI k) = sL_isOne_110 n g f (nI t) (TX r t 1) (TX r t 2) 1 (nI (k + 1))
    rw [sL_isOne_110, if_neg q8, if_neg c10, x_rec h hC ht hk, ok1_s, x_buf h hC ht hk, ok1_s, eb, bi_s]
    by_cases e : TX r t (13 + k) = -1
    · rw [if_pos (nr.mpr e)]
      exact h169
    · rw [if_neg (fun z => e (nr.mp z)), x_vt h hC hk b1, ok1_s, if_pos (hrec (rd_iff.mpr e))]
      exact h169) (fun f s => by
    have q8 : (8 : Int32) ≤ nI 8 := nI_le (Nat.le_refl _) (by decide)
    show sL_isOne_110 n g (f + 1) (nI t) (TX r t 1) (TX r t 2) 1 (nI 8) = some 1
    rw [sL_isOne_110, if_pos q8]
    exact z_one244 hn h hC ht) 8 0 (by omega) n (by omega) ()
theorem z_one (hn : 10010 ≤ n) (h : Inv bd r) (hC : Cls g 0 r) (hS : Ser ub r) (ht : t < nB r) : sL_isOne n g (nI t) = some 1 := by
  have hx := h.tx ht
  have q110 := fun hs => z_one110 hn h hC hS ht hs
  have h1 := hS.1
  have h2 := hS.2.1
  unfold sL_isOne
  rw [x_st h hC ht, ok1_s, x_ts h hC ht, ok1_s]
  by_cases e1 : TX r t 1 = 1
  · have hts := hx.2.2.1 (Or.inl e1)
    have hrq := h1 t ht (Or.inl e1)
    have e4 := hx.2.2.2.2.1 (by rw [e1]; decide)
    rw [if_pos e1]
    unfold sL_isOne_22
    rw [if_neg (by rw [i_lt, l_0]; omega), x_rt h hC ht, ok1_s, if_neg (by rw [i_lt, l_0]; omega), x_cm h hC ht, ok1_s, e4, if_pos (by decide), if_neg (by rw [e1]; decide), if_neg (by rw [e1]; decide)]
    exact q110 (Or.inl e1)
  · rw [if_neg e1]
    by_cases e2 : TX r t 1 = 2
    · have hts := hx.2.2.1 (Or.inr e2)
      have hrq := h1 t ht (Or.inr e2)
      have hcm := h2 t ht e2
      rw [if_pos e2]
      unfold sL_isOne_22
      rw [if_neg (by rw [i_lt, l_0]; omega), x_rt h hC ht, ok1_s, if_neg (by rw [i_lt, l_0]; omega), x_cm h hC ht, ok1_s, if_neg (by rw [i_lt, l_0]; omega), if_pos e2, if_pos e2, ok1_s, ok1_s, if_pos (by rw [i_lt]; omega)]
      exact q110 (Or.inr e2)
    · have hs : TX r t 1 = 0 ∨ TX r t 1 = 3 := by
        rcases hx.2.1 with z | z | z | z
        · exact Or.inl z
        · exact absurd z e1
        · exact absurd z e2
        · exact Or.inr z
      obtain ⟨f2, f3⟩ := hx.2.2.2.1 hs
      have f4 := hx.2.2.2.2.1 e2
      have em : ((-1 : Int32) < 0) := by decide
      obtain ⟨m, hm⟩ : ∃ z, n = z + 1 := ⟨n - 1, by omega⟩
      rw [if_neg e2, f2, if_pos em, x_rt h hC ht, ok1_s, f3, if_pos em, x_cm h hC ht, ok1_s, f4, if_pos em, if_neg e2, if_neg e2]
      have q244 := z_one244 hn h hC ht
      rw [f2] at q244
      have c80 : ¬ (8 : Int32) ≤ 0 := by decide
      have key : ∀ f, sL_isOne_110 n g (f + 1) (nI t) (TX r t 1) (-1) 0 0 = some 1 := fun f => by
        rw [sL_isOne_110, if_neg c80, if_pos rfl]
        exact q244
      have := key m
      rw [← hm] at this
      exact this
/-! all of them -/
theorem itr_pair {σ τ : Type} (f : Nat → σ → σ) (q : Nat → τ → τ) : ∀ d i (a : σ) (b : τ), itr (fun i (s : σ × τ) => (f i s.1, q i s.2)) i d (a, b) = (itr f i d a, itr q i d b)
  | 0, i, a, b => rfl
  | d + 1, i, a, b => by
    show itr (fun i (s : σ × τ) => (f i s.1, q i s.2)) (i + 1) d (f i a, q i b) = _
    rw [itr_pair f q d (i + 1)]
    rfl
theorem iv_0 (hS : Ser ub r) (hz : (r 2).toInt = 0) : iv r = 0 := by
  obtain ⟨h1, h2, h3, h4, h5, h6, h7, h8, h9⟩ := hS
  obtain ⟨p1, p2⟩ := h9 hz
  have hno : ∀ a b, a < nB r → b < nB r → inv2 r a b = false := fun a b ha hb => by
    cases e : inv2 r a b with
    | false => rfl
    | true =>
      unfold inv2 at e
      simp only [Bool.and_eq_true, Bool.or_eq_true, Bool.not_eq_true', decide_eq_true_eq, decide_eq_false_iff_not] at e
      obtain ⟨⟨⟨e1, e2⟩, e3⟩, e4⟩ := e
      rw [i_lt] at e3 e4
      have q1 := p1 a ha e1
      have q2 := p2 b hb e2
      omega
  have in1 : ∀ a, a < nB r → ∀ d i (s : Int32), i + d ≤ nB r → itr (ivS r a) i d s = s := by
    intro a ha d
    induction d with
    | zero => intro i s _; rfl
    | succ d ih =>
      intro i s hd
      show itr (ivS r a) (i + 1) d (ivS r a i s) = s
      have e : ivS r a i s = s := by
        unfold ivS
        rw [hno a i ha (by omega), if_neg (by decide)]
      rw [e]
      exact ih (i + 1) s (by omega)
  have out : ∀ d i, i + d ≤ nB r → itr (fun a s => itr (ivS r a) 0 (nB r) s) i d 0 = 0 := by
    intro d
    induction d with
    | zero => intro i _; rfl
    | succ d ih =>
      intro i hd
      show itr (fun a s => itr (ivS r a) 0 (nB r) s) (i + 1) d (itr (ivS r i) 0 (nB r) 0) = 0
      rw [in1 i (by omega) (nB r) 0 0 (by omega)]
      exact ih (i + 1) (by omega)
  exact out (nB r) 0 (by omega)
theorem z_all104 (hn : 10010 ≤ n) (h : Inv bd r) (hC : Cls g 0 r) (hS : Ser ub r) (x4 : Int32) (h4 : x4 = 0 ∨ (r 2).toInt = 0) : sL_areAll_104 n g (sw r) (ct r 2) x4 = some 1 := by
  have q := sf_ge h hS.f6
  have c10 : ¬ ((1 : Int32) = 0) := by decide
  have ql : ¬ sfN r < r 1 := by rw [i_lt]; omega
  unfold sL_areAll_104
  rw [z_vers hn h hC, bi_s, if_neg c10, x_tot hn h hC, bi_s, if_pos rfl, x_cnt hn h hC, ok1_s, if_pos rfl, x_floor hC, bi_s, x_safe hn h hC, bi_s, if_neg ql]
  by_cases z : x4 = 0
  · rw [if_pos z]
  · rw [if_neg z, x_inv hn h hC, bi_s, if_pos (iv_0 hS (h4.resolve_left z))]
theorem z_all (hn : 10010 ≤ n) (h : Inv bd r) (hC : Cls g 0 r) (hS : Ser ub r) : sL_areAll n g = some 1 := by
  have hb := h.b40
  have c10 : ¬ ((1 : Int32) = 0) := by decide
  unfold sL_areAll
  rw [x_many h hC, bi_s]
  have h90 : sL_areAll_90 n g (sw r) (ct r 2) = some 1 := by
    unfold sL_areAll_90
    rw [x_uns hC, bi_s]
    by_cases z : r 2 = 0
    · rw [if_pos z]
      exact z_all104 hn h hC hS 1 (Or.inr (by rw [z]; rfl))
    · rw [if_neg z]
      exact z_all104 hn h hC hS 0 (Or.inl rfl)
  have key := lp_up (fun f (s : Int32 × Int32) i => sL_areAll_12 n g f (nI (nB r)) s.1 s.2 i) (nB r) (fun i s => (swS r i s.1, ctS r 2 i s.2)) (fun s => sL_areAll_90 n g s.1 s.2) (fun f i s hi => by
    have hle : ¬ nI (nB r) ≤ nI i := nI_ge hi (by omega)
    have h40 : ¬ (40 : Int32) ≤ nI i := nI_ge (b := 40) (by omega) (by decide)
    show sL_areAll_12 n g (f + 1) (nI (nB r)) s.1 s.2 (nI i) = sL_areAll_12 n g f (nI (nB r)) (swS r i s.1) (ctS r 2 i s.2) (nI (i + 1))
    rw [sL_areAll_12, if_neg hle, if_neg h40, z_one hn h hC hS hi, bi_s, if_neg c10, x_st h hC hi, ok1_s]
    unfold swS ctS sL_areAll_70
    by_cases e : TX r i 1 = 2
    · rw [if_pos e, x_cm h hC hi, ok1_s, x_rt h hC hi, ok1_s, if_pos e, if_pos e, if_pos e, nI_1]
    · rw [if_neg e, if_neg e, if_neg e, if_neg e, nI_1, Int32.add_zero, Int32.add_zero]) (fun f s => by
    have hle : nI (nB r) ≤ nI (nB r) := nI_le (Nat.le_refl _) (by omega)
    show sL_areAll_12 n g (f + 1) (nI (nB r)) s.1 s.2 (nI (nB r)) = sL_areAll_90 n g s.1 s.2
    rw [sL_areAll_12, if_pos hle]) (nB r) 0 (by omega) n (by omega) (0, 0)
  rw [itr_pair] at key
  exact key.trans h90
end VE
