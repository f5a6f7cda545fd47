/-! the pure part: places of versions, and the replay -/
theorem cnt_lt {p q : Nat → Bool} {n t : Nat} (h : ∀ i, i < n → p i = true → q i = true) (ht : t < n) (hq : q t = true) (hp : p t = false) : cnt p n < cnt q n := by
  have h1 := cnt_mono n h
  by_cases e : cnt q n = cnt p n
  · have := cnt_all n h e t ht hq
    rw [hp] at this
    cases this
  · omega
section PR
variable {bd : Int} {g m : Mem} {r : Nat → Int32} {n t k s : Nat} {x : Int32}
theorem st_b (h : Inv bd r) (ht : t < nB r) : -1 ≤ (TX r t 2).toInt ∧ (TX r t 2).toInt ≤ 4000000 := by
  have hx := h.tx ht
  have hb := h.bdl
  rcases hx.2.1 with e | e | e | e
  · rw [(hx.2.2.2.1 (Or.inl e)).1, nm1]; omega
  · have := hx.2.2.1 (Or.inl e); omega
  · have := hx.2.2.1 (Or.inr e); omega
  · rw [(hx.2.2.2.1 (Or.inr e)).1, nm1]; omega
theorem r_versions (hn : 10010 ≤ n) (h : Inv bd (m 1)) (hk : k < 8) : sX7_versions_25 n n m (nI k) 1 0 = some (nI (cv (m 1) k + 1), m) := by
  have hb := h.b40
  have key := lp_iv (fun f s i => sX7_versions_25 n f m (nI k) s i) (nB (m 1)) (fun s => some (s, m)) (fun i s => s = nI (cnt (fun t => ver (m 1) t k) i + 1)) (fun f i s hi hp => ?_) (fun f s hp => ?_) (nB (m 1)) 0 (by omega) n (by omega) 1 rfl
  · obtain ⟨s', e1, e2⟩ := key
    rw [e1] at e2
    exact e2
  · have hle : ¬ nI (nB (m 1)) ≤ nI i := nI_ge hi (by omega)
    simp only [sX7_versions_25, r_i3, c_3, h.r3, hle, if_false, nI_1, bi_s, b2_ite, r_ver h hi hk, Int32.add_zero, hp]
    cases e : ver (m 1) i k with
    | false => exact ⟨nI (cnt (fun t => ver (m 1) t k) (i + 1) + 1), rfl, by simp [cnt, e]⟩
    | true => exact ⟨nI (cnt (fun t => ver (m 1) t k) (i + 1) + 1), rfl, by simp [cnt, e]⟩
  · have hle : nI (nB (m 1)) ≤ nI (nB (m 1)) := nI_le (Nat.le_refl _) (by omega)
    simp only [sX7_versions_25, r_i3, c_3, h.r3, hle, if_true]
def bef (r : Nat → Int32) (k t : Nat) : Nat := cnt (fun u => ver r u k && decide (TX r u 2 < TX r t 2)) (nB r)
theorem r_bef (hn : 10010 ≤ n) (h : Inv bd (m 1)) (hk : k < 8) (ht : t < nB (m 1)) (x : Int32) (rec : Int32 → Int32 → Int32 → Option Int32) : sX7_stampAt_24 n m rec n (nI k) x (nI t) 1 0 = if ver (m 1) t k = true ∧ nI (bef (m 1) k t + 1) = x then some (TX (m 1) t 2) else rec (nI k) x (nI (t + 1)) := by
  have hb := h.b40
  have key := lp_iv (fun f s i => sX7_stampAt_24 n m rec f (nI k) x (nI t) s i) (nB (m 1)) (fun s => if ver (m 1) t k = true ∧ s = x then some (TX (m 1) t 2) else rec (nI k) x (nI (t + 1))) (fun i s => s = nI (cnt (fun u => ver (m 1) u k && decide (TX (m 1) u 2 < TX (m 1) t 2)) i + 1)) (fun f i s hi hp => ?_) (fun f s hp => ?_) (nB (m 1)) 0 (by omega) n (by omega) 1 rfl
  · obtain ⟨s', e1, e2⟩ := key
    rw [e1] at e2
    exact e2
  · have hle : ¬ nI (nB (m 1)) ≤ nI i := nI_ge hi (by omega)
    simp only [sX7_stampAt_24, r_i3, c_3, h.r3, hle, if_false, nI_1, bi_s, b2_ite, r_ver h hi hk, r_of2 (show i < 40 by omega), r_of2 (show t < 40 by omega), Int32.add_zero, hp]
    cases e : ver (m 1) i k with
    | false => exact ⟨nI (cnt (fun u => ver (m 1) u k && decide (TX (m 1) u 2 < TX (m 1) t 2)) (i + 1) + 1), rfl, by simp [cnt, e]⟩
    | true =>
      by_cases q : TX (m 1) t 2 ≤ TX (m 1) i 2
      · have q2 : ¬ TX (m 1) i 2 < TX (m 1) t 2 := by rw [i_lt]; rw [i_le] at q; omega
        exact ⟨nI (cnt (fun u => ver (m 1) u k && decide (TX (m 1) u 2 < TX (m 1) t 2)) (i + 1) + 1), rfl, by simp [cnt, e, q2, q]⟩
      · have q2 : TX (m 1) i 2 < TX (m 1) t 2 := by rw [i_lt]; rw [i_le] at q; omega
        exact ⟨nI (cnt (fun u => ver (m 1) u k && decide (TX (m 1) u 2 < TX (m 1) t 2)) (i + 1) + 1), rfl, by simp [cnt, e, q2, q]⟩
  · have hle : nI (nB (m 1)) ≤ nI (nB (m 1)) := nI_le (Nat.le_refl _) (by omega)
    simp only [sX7_stampAt_24, r_i3, c_3, h.r3, hle, if_true, bi_s, b2_ite, r_ver h ht hk, r_of2 (show t < 40 by omega), nI_1]
    cases e : ver (m 1) t k with
    | false => simp
    | true =>
      by_cases q : s = x
      · simp [q]
      · simp [q]
theorem bef_ix (hV : ClV g 0 r k) {i : Nat} (h1 : 1 ≤ i) (hi : i ≤ cv r k) (e : g 7 (k * 41 + i) = TX r t 2) : bef r k t + 1 = i := by
  have := hV.2.2.2.2.2.2 i h1 hi
  rw [show g (0 + 7) (k * 41 + i) = TX r t 2 from e] at this
  exact this
theorem r_stampAt (hn : 10010 ≤ n) (h : Inv bd (m 1)) (hV : ClV g 0 (m 1) k) (hk : k < 8) (x : Int32) : ∃ y, sX7_stampAt n m (nI k) x = some y ∧ ((∃ i, i ≤ cv (m 1) k ∧ x = nI i ∧ y = g 7 (k * 41 + i)) ∨ ((∀ i, i ≤ cv (m 1) k → x ≠ nI i) ∧ y = -1)) := by
  have hb := h.b40
  have h40 := cv_le (k := k) h
  unfold sX7_stampAt
  by_cases z : x = 0
  · exact ⟨0, by rw [if_pos z], Or.inl ⟨0, by omega, z, hV.2.1.symm⟩⟩
  rw [if_neg z]
  rcases lp_ex (fun f i => sX7_stampAt_8 n m f (nI k) x i) (nB (m 1)) (fun t => ver (m 1) t k = true ∧ nI (bef (m 1) k t + 1) = x) (fun t => some (TX (m 1) t 2)) (some (-1)) (fun i => by by_cases q : nI (bef (m 1) k i + 1) = x <;> cases ver (m 1) i k <;> simp [q]) (fun f i hi hc => by
      have hle : ¬ nI (nB (m 1)) ≤ nI i := nI_ge hi (by omega)
      simp only [sX7_stampAt_8, r_i3, c_3, h.r3, hle, if_false, r_bef hn h hk hi, if_neg hc]) (fun f i hi hc => by
      have hle : ¬ nI (nB (m 1)) ≤ nI i := nI_ge hi (by omega)
      simp only [sX7_stampAt_8, r_i3, c_3, h.r3, hle, if_false, r_bef hn h hk hi, if_pos hc]) (fun f => by
      have hle : nI (nB (m 1)) ≤ nI (nB (m 1)) := nI_le (Nat.le_refl _) (by omega)
      simp only [sX7_stampAt_8, r_i3, c_3, h.r3, hle, if_true]) (nB (m 1)) 0 (by omega) n (by omega) with ⟨t, -, t2, ⟨t3, t4⟩, -, t5⟩ | ⟨t1, t2⟩
  · obtain ⟨i, i1, i2, i3, i4⟩ := v_of hV t2 t3
    rw [bef_ix hV i1 i2 i3] at t4
    exact ⟨_, t5, Or.inl ⟨i, i2, t4.symm, i3.symm⟩⟩
  · refine ⟨_, t2, Or.inr ⟨fun i hi e => ?_, rfl⟩⟩
    by_cases q : i = 0
    · rw [q, nI_0] at e
      exact z e
    · obtain ⟨t, u1, u2, u3, u4⟩ := v_at hV (by omega) hi
      exact t1 t (by omega) u1 ⟨u2, by rw [bef_ix hV (by omega) hi u3, e]⟩
/-! the class's replay -/
theorem k_replay (hn : 10010 ≤ n) (h : Inv bd r) (hC : Cls g 0 r) (hk : k < 8) (x : Int32) : ∃ v, WV r k x v ∧ sX4_replay n g 9 (nI k) x = some v := by
  have hb := h.b40
  have key := lp_iv (fun f (s : Int32 × Int32) i => sX4_replay_8 n g f 9 (nI k) x s.1 s.2 i) (nB r) (fun s => some s.1) (fun i s => (s.1 = 0 ∧ s.2 = 0 ∧ ∀ t, t < i → ver r t k = true → ¬ (TX r t 2).toInt ≤ x.toInt) ∨ ∃ u, u < i ∧ ver r u k = true ∧ (TX r u 2).toInt ≤ x.toInt ∧ s.1 = TX r u (5 + k) ∧ s.2 = TX r u 2 ∧ ∀ t, t < i → ver r t k = true → (TX r t 2).toInt ≤ x.toInt → (TX r t 2).toInt ≤ (TX r u 2).toInt) (fun f i s hi hp => ?_) (fun f s hp => ?_) (nB r) 0 (by omega) n (by omega) (0, 0) (Or.inl ⟨rfl, rfl, fun t ht => by omega⟩)
  · obtain ⟨⟨v, l⟩, e1, e2⟩ := key
    refine ⟨v, ?_, e2⟩
    rcases e1 with ⟨a1, a2, a3⟩ | ⟨u, u1, u2, u3, u4, u5, u6⟩
    · exact Or.inl ⟨a1, a3⟩
    · exact Or.inr ⟨u, u1, u2, u3, u4, u6⟩
  · have hle : ¬ nI (nB r) ≤ nI i := nI_ge hi (by omega)
    have hcl : (nI i).toNatClampNeg = i := nI_clamp (by omega)
    simp only [sX4_replay_8, k_b hC h, hle, if_false, nI_1, bi_s, b2_ite, ix40 (show i < 40 by omega), hcl, k_f1 hC hi, k_f2 hC hi, k_wr h hC hi hk, k_bf h hC hi hk, i_lt]
    have keep : ¬ (ver r i k = true ∧ (TX r i 2).toInt ≤ x.toInt ∧ s.2.toInt ≤ (TX r i 2).toInt) → ((s.1 = 0 ∧ s.2 = 0 ∧ ∀ t, t < i + 1 → ver r t k = true → ¬ (TX r t 2).toInt ≤ x.toInt) ∨ ∃ u, u < i + 1 ∧ ver r u k = true ∧ (TX r u 2).toInt ≤ x.toInt ∧ s.1 = TX r u (5 + k) ∧ s.2 = TX r u 2 ∧ ∀ t, t < i + 1 → ver r t k = true → (TX r t 2).toInt ≤ x.toInt → (TX r t 2).toInt ≤ (TX r u 2).toInt) := by
      intro hq
      rcases hp with ⟨a1, a2, a3⟩ | ⟨u, u1, u2, u3, u4, u5, u6⟩
      · refine Or.inl ⟨a1, a2, fun t ht hv hx => ?_⟩
        by_cases z : t = i
        · rw [z] at hv hx
          have := ((h.tx hi).2.2.1 (Or.inr (ver_iff.mp hv).1)).1
          exact hq ⟨hv, hx, by rw [a2, l_0]; omega⟩
        · exact a3 t (by omega) hv hx
      · refine Or.inr ⟨u, by omega, u2, u3, u4, u5, fun t ht hv hx => ?_⟩
        by_cases z : t = i
        · rw [z] at hv hx ⊢
          rw [u5] at hq
          by_cases y : (TX r i 2).toInt ≤ (TX r u 2).toInt
          · exact y
          · exact absurd ⟨hv, hx, by omega⟩ hq
        · exact u6 t (by omega) hv hx
    by_cases e1 : TX r i 1 = 2
    · rw [if_pos e1]
      cases e2 : wr r i k with
      | false =>
        rw [if_neg (by decide)]
        exact ⟨s, keep (fun z => by have := (ver_iff.mp z.1).2; rw [e2] at this; cases this), rfl⟩
      | true =>
        rw [if_pos rfl]
        have hv : ver r i k = true := ver_iff.mpr ⟨e1, e2⟩
        by_cases e3 : x.toInt < (TX r i 2).toInt
        · rw [if_pos e3]
          exact ⟨s, keep (fun z => by omega), rfl⟩
        · rw [if_neg e3]
          by_cases e4 : (TX r i 2).toInt < s.2.toInt
          · rw [if_pos e4]
            exact ⟨s, keep (fun z => by omega), rfl⟩
          · rw [if_neg e4]
            refine ⟨(TX r i (5 + k), TX r i 2), Or.inr ⟨i, by omega, hv, by omega, rfl, rfl, fun t ht hvt hx => ?_⟩, rfl⟩
            by_cases z : t = i
            · rw [z]; exact Int.le_refl _
            · rcases hp with ⟨a1, a2, a3⟩ | ⟨u, u1, u2, u3, u4, u5, u6⟩
              · exact absurd hx (a3 t (by omega) hvt)
              · have := u6 t (by omega) hvt hx
                rw [u5] at e4
                omega
    · rw [if_neg e1]
      exact ⟨s, keep (fun z => e1 (ver_iff.mp z.1).1), rfl⟩
  · have hle : nI (nB r) ≤ nI (nB r) := nI_le (Nat.le_refl _) (by omega)
    simp only [sX4_replay_8, k_b hC h, hle, if_true]
/-! the reference's replay -/
def oI : Option Nat → Int32
  | none => -1
  | some l => nI l
def aft (r : Nat → Int32) : Option Nat → Nat → Prop
  | none, _ => True
  | some l, t => (TX r l 2).toInt < (TX r t 2).toInt ∨ ((TX r l 2).toInt = (TX r t 2).toInt ∧ l < t)
def NA (r : Nat → Int32) (last : Option Nat) (i : Nat) (b : Option Nat) : Prop := (b = none ∧ ∀ t, t < i → TX r t 1 = 2 → ¬ aft r last t) ∨ ∃ u, u < i ∧ b = some u ∧ TX r u 1 = 2 ∧ aft r last u ∧ ∀ t, t < i → TX r t 1 = 2 → aft r last t → (TX r u 2).toInt < (TX r t 2).toInt ∨ ((TX r u 2).toInt = (TX r t 2).toInt ∧ u ≤ t)
theorem aft_em (r : Nat → Int32) (last : Option Nat) (t : Nat) : aft r last t ∨ ¬ aft r last t := by
  cases last with
  | none => exact Or.inl trivial
  | some l =>
    show ((TX r l 2).toInt < (TX r t 2).toInt ∨ ((TX r l 2).toInt = (TX r t 2).toInt ∧ l < t)) ∨ ¬ ((TX r l 2).toInt < (TX r t 2).toInt ∨ ((TX r l 2).toInt = (TX r t 2).toInt ∧ l < t))
    omega
theorem r_na_c (rec : Int32 → Int32 → Int32 → Option Int32) {i : Nat} (hi : i < 40) (b : Option Nat) (e : ¬ TX (m 1) i 1 = 2) : sX7_nextApplied_53 n m rec x (oI b) (nI i) = rec x (oI b) (nI (i + 1)) := by
  unfold sX7_nextApplied_53
  rw [r_of1 hi, bi_s, if_neg e, nI_1]
theorem r_na_n (rec : Int32 → Int32 → Int32 → Option Int32) {i : Nat} (hi : i < 40) (e : TX (m 1) i 1 = 2) : sX7_nextApplied_53 n m rec x (oI none) (nI i) = rec x (nI i) (nI (i + 1)) := by
  unfold sX7_nextApplied_53
  rw [r_of1 hi, bi_s, if_pos e, if_pos (show oI none = -1 from rfl), nI_1]
theorem r_na_s (rec : Int32 → Int32 → Int32 → Option Int32) {i u : Nat} (hi : i < 40) (hu : u < 40) (e : TX (m 1) i 1 = 2) : sX7_nextApplied_53 n m rec x (oI (some u)) (nI i) = if (TX (m 1) u 2).toInt ≤ (TX (m 1) i 2).toInt then rec x (nI u) (nI (i + 1)) else rec x (nI i) (nI (i + 1)) := by
  unfold sX7_nextApplied_53
  rw [r_of1 hi, bi_s, if_pos e, show oI (some u) = nI u from rfl, if_neg (nI_nm1 (by omega)), r_of2 hi, bi_s, r_of2 hu, bi_s, nI_1]
  simp only [i_le]
theorem r_na (hn : 10010 ≤ n) (h : Inv bd (m 1)) (last : Option Nat) (hl : ∀ l, last = some l → l < nB (m 1)) : ∃ b, NA (m 1) last (nB (m 1)) b ∧ sX7_nextApplied n m (oI last) = some (oI b) := by
  have hb := h.b40
  refine lp_iv (fun f s i => sX7_nextApplied_4 n m f (oI last) (oI s) i) (nB (m 1)) (fun b => some (oI b)) (NA (m 1) last) (fun f i b hi hp => ?_) (fun f s hp => ?_) (nB (m 1)) 0 (by omega) n (by omega) none (Or.inl ⟨rfl, fun t ht => by omega⟩)
  · have hle : ¬ nI (nB (m 1)) ≤ nI i := nI_ge hi (by omega)
    have hbb : ∀ u, b = some u → u < 40 := by
      intro u hu
      rcases hp with ⟨p1, -⟩ | ⟨w, w1, w2, -⟩
      · rw [p1] at hu; cases hu
      · rw [w2] at hu
        have := Option.some.inj hu
        omega
    have ok : aft (m 1) last i → ∃ s', NA (m 1) last (i + 1) s' ∧ sX7_nextApplied_53 n m (sX7_nextApplied_4 n m f) (oI last) (oI b) (nI i) = sX7_nextApplied_4 n m f (oI last) (oI s') (nI (i + 1)) := by
      intro ha
      by_cases e : TX (m 1) i 1 = 2
      · rcases hp with ⟨p1, p2⟩ | ⟨u, u1, u2, u3, u4, u5⟩
        · rw [p1, r_na_n _ (show i < 40 by omega) e]
          refine ⟨some i, Or.inr ⟨i, by omega, rfl, e, ha, fun t ht hc q => ?_⟩, rfl⟩
          by_cases z : t = i
          · rw [z]; exact Or.inr ⟨rfl, Nat.le_refl _⟩
          · exact absurd q (p2 t (by omega) hc)
        · rw [u2, r_na_s _ (show i < 40 by omega) (show u < 40 by omega) e]
          by_cases y : (TX (m 1) u 2).toInt ≤ (TX (m 1) i 2).toInt
          · rw [if_pos y]
            refine ⟨some u, Or.inr ⟨u, by omega, rfl, u3, u4, fun t ht hc q => ?_⟩, rfl⟩
            by_cases z : t = i
            · rw [z]; omega
            · exact u5 t (by omega) hc q
          · rw [if_neg y]
            refine ⟨some i, Or.inr ⟨i, by omega, rfl, e, ha, fun t ht hc q => ?_⟩, rfl⟩
            by_cases z : t = i
            · rw [z]; omega
            · have := u5 t (by omega) hc q
              omega
      · rw [r_na_c _ (show i < 40 by omega) b e]
        refine ⟨b, ?_, rfl⟩
        rcases hp with ⟨p1, p2⟩ | ⟨u, u1, u2, u3, u4, u5⟩
        · refine Or.inl ⟨p1, fun t ht hc => ?_⟩
          by_cases z : t = i
          · rw [z] at hc; exact absurd hc e
          · exact p2 t (by omega) hc
        · refine Or.inr ⟨u, by omega, u2, u3, u4, fun t ht hc q => ?_⟩
          by_cases z : t = i
          · rw [z] at hc; exact absurd hc e
          · exact u5 t (by omega) hc q
    have no : ¬ aft (m 1) last i → ∃ s', NA (m 1) last (i + 1) s' ∧ sX7_nextApplied_57 n m (sX7_nextApplied_4 n m f) (oI last) (oI b) (nI i) = sX7_nextApplied_4 n m f (oI last) (oI s') (nI (i + 1)) := by
      intro ha
      refine ⟨b, ?_, ?_⟩
      · rcases hp with ⟨p1, p2⟩ | ⟨u, u1, u2, u3, u4, u5⟩
        · refine Or.inl ⟨p1, fun t ht hc => ?_⟩
          by_cases z : t = i
          · rw [z]; exact ha
          · exact p2 t (by omega) hc
        · refine Or.inr ⟨u, by omega, u2, u3, u4, fun t ht hc q => ?_⟩
          by_cases z : t = i
          · rw [z] at q; exact absurd q ha
          · exact u5 t (by omega) hc q
      · unfold sX7_nextApplied_57
        simp only [r_of1 (show i < 40 by omega), bi_s, nI_1]
        split <;> rfl
    cases last with
    | none =>
      obtain ⟨s', q1, q2⟩ := ok trivial
      refine ⟨s', q1, ?_⟩
      simp only [sX7_nextApplied_4, r_i3, c_3, h.r3, hle, if_false, show oI none = -1 from rfl, if_true]
      exact q2
    | some l =>
      have hl' := hl l rfl
      have b1 := st_b h hl'
      have b2 := st_b h hi
      have es : (TX (m 1) i 2 - TX (m 1) l 2).toInt = (TX (m 1) i 2).toInt - (TX (m 1) l 2).toInt := i_sub (by omega) (by omega)
      simp only [sX7_nextApplied_4, r_i3, c_3, h.r3, hle, if_false, show oI (some l) = nI l from rfl, nI_ne (show l < 2147483648 by omega), r_of2 (show i < 40 by omega), r_of2 (show l < 40 by omega), bi_s, i_lt, l_0, es]
      by_cases y1 : 0 < (TX (m 1) i 2).toInt - (TX (m 1) l 2).toInt
      · rw [if_pos y1]
        exact ok (Or.inl (by omega))
      · rw [if_neg y1]
        have e0 : (TX (m 1) i 2 - TX (m 1) l 2 = 0) ↔ (TX (m 1) l 2).toInt = (TX (m 1) i 2).toInt := by
          rw [i_eq, es, l_0]; omega
        by_cases y2 : (TX (m 1) l 2).toInt = (TX (m 1) i 2).toInt
        · rw [if_pos (e0.mpr y2)]
          have hq : nI i ≤ nI l ↔ i ≤ l := nI_leI (by omega) (by omega)
          by_cases y3 : i ≤ l
          · rw [if_pos (hq.mpr y3)]
            exact no (fun z => by have z' : (TX (m 1) l 2).toInt < (TX (m 1) i 2).toInt ∨ ((TX (m 1) l 2).toInt = (TX (m 1) i 2).toInt ∧ l < i) := z; omega)
          · rw [if_neg (fun z => y3 (hq.mp z))]
            exact ok (Or.inr ⟨y2, by omega⟩)
        · rw [if_neg (fun z => y2 (e0.mp z))]
          exact no (fun z => by have z' : (TX (m 1) l 2).toInt < (TX (m 1) i 2).toInt ∨ ((TX (m 1) l 2).toInt = (TX (m 1) i 2).toInt ∧ l < i) := z; omega)
  · have hle : nI (nB (m 1)) ≤ nI (nB (m 1)) := nI_le (Nat.le_refl _) (by omega)
    simp only [sX7_nextApplied_4, r_i3, c_3, h.r3, hle, if_true]
def CH (r : Nat → Int32) (k : Nat) (x : Int32) (last : Option Nat) (v : Int32) : Prop := (∀ u, u < nB r → TX r u 1 = 2 → ¬ aft r last u → (TX r u 2).toInt ≤ x.toInt) ∧ ((v = 0 ∧ ∀ u, u < nB r → ver r u k = true → aft r last u) ∨ ∃ u, u < nB r ∧ ver r u k = true ∧ ¬ aft r last u ∧ v = TX r u (5 + k) ∧ ∀ w, w < nB r → ver r w k = true → ¬ aft r last w → (TX r w 2).toInt ≤ (TX r u 2).toInt)
def aftB (r : Nat → Int32) : Option Nat → Nat → Bool
  | none, t => decide (TX r t 1 = 2)
  | some l, t => decide (TX r t 1 = 2) && (decide ((TX r l 2).toInt < (TX r t 2).toInt) || (decide ((TX r l 2).toInt = (TX r t 2).toInt) && decide (l < t)))
theorem aftB_iff {last : Option Nat} : aftB r last t = true ↔ TX r t 1 = 2 ∧ aft r last t := by
  cases last with
  | none => simp [aftB, aft]
  | some l => simp [aftB, aft]
theorem aft_tr {last : Option Nat} {u w : Nat} (h1 : aft r last u) (h2 : aft r (some u) w) : aft r last w := by
  cases last with
  | none => trivial
  | some l =>
    have h1' : (TX r l 2).toInt < (TX r u 2).toInt ∨ ((TX r l 2).toInt = (TX r u 2).toInt ∧ l < u) := h1
    have h2' : (TX r u 2).toInt < (TX r w 2).toInt ∨ ((TX r u 2).toInt = (TX r w 2).toInt ∧ u < w) := h2
    show (TX r l 2).toInt < (TX r w 2).toInt ∨ ((TX r l 2).toInt = (TX r w 2).toInt ∧ l < w)
    omega
theorem r_chain (hn : 10010 ≤ n) (h : Inv bd (m 1)) (hk : k < 8) (x : Int32) : ∀ d (last : Option Nat), (∀ l, last = some l → l < nB (m 1)) → cnt (aftB (m 1) last) (nB (m 1)) ≤ d → ∀ f, d < f → ∀ v, CH (m 1) k x last v → ∀ b, NA (m 1) last (nB (m 1)) b → ∃ v', WV (m 1) k x v' ∧ sX7_replayedValueAt_20 n f m (nI k) x v (oI b) = some (v', m) := by
  have hb := h.b40
  intro d
  induction d with
  | zero =>
    intro last hl hM f hf v hv b hB
    obtain ⟨f, rfl⟩ : ∃ q, f = q + 1 := ⟨f - 1, by omega⟩
    rcases hB with ⟨p1, p2⟩ | ⟨u, u1, u2, u3, u4, u5⟩
    · rw [p1, sX7_replayedValueAt_20, if_pos (show oI none = -1 from rfl)]
      refine ⟨v, ?_, rfl⟩
      rcases hv.2 with ⟨q1, q2⟩ | ⟨u, u1, u2, u3, u4, u5⟩
      · exact Or.inl ⟨q1, fun t ht hvt => absurd (q2 t ht hvt) (p2 t ht (ver_iff.mp hvt).1)⟩
      · exact Or.inr ⟨u, u1, u2, hv.1 u u1 (ver_iff.mp u2).1 u3, u4, fun t ht hvt _ => u5 t ht hvt (p2 t ht (ver_iff.mp hvt).1)⟩
    · exfalso
      have := cnt_lt (p := fun _ => false) (q := aftB (m 1) last) (n := nB (m 1)) (t := u) (fun i _ z => by cases z) u1 (aftB_iff.mpr ⟨u3, u4⟩) rfl
      omega
  | succ d ih =>
    intro last hl hM f hf v hv b hB
    obtain ⟨f, rfl⟩ : ∃ q, f = q + 1 := ⟨f - 1, by omega⟩
    rcases hB with ⟨p1, p2⟩ | ⟨u, u1, u2, u3, u4, u5⟩
    · rw [p1, sX7_replayedValueAt_20, if_pos (show oI none = -1 from rfl)]
      refine ⟨v, ?_, rfl⟩
      rcases hv.2 with ⟨q1, q2⟩ | ⟨u, u1, u2, u3, u4, u5⟩
      · exact Or.inl ⟨q1, fun t ht hvt => absurd (q2 t ht hvt) (p2 t ht (ver_iff.mp hvt).1)⟩
      · exact Or.inr ⟨u, u1, u2, hv.1 u u1 (ver_iff.mp u2).1 u3, u4, fun t ht hvt _ => u5 t ht hvt (p2 t ht (ver_iff.mp hvt).1)⟩
    · rw [u2, show oI (some u) = nI u from rfl, sX7_replayedValueAt_20, if_neg (nI_nm1 (by omega)), r_of2 (show u < 40 by omega), bi_s]
      simp only [i_lt]
      have afu : ∀ w, aft (m 1) (some u) w ↔ ((TX (m 1) u 2).toInt < (TX (m 1) w 2).toInt ∨ ((TX (m 1) u 2).toInt = (TX (m 1) w 2).toInt ∧ u < w)) := fun w => Iff.rfl
      by_cases y : x.toInt < (TX (m 1) u 2).toInt
      · rw [if_pos y]
        refine ⟨v, ?_, rfl⟩
        rcases hv.2 with ⟨q1, q2⟩ | ⟨w, w1, w2, w3, w4, w5⟩
        · refine Or.inl ⟨q1, fun t ht hvt hx => ?_⟩
          have := u5 t ht (ver_iff.mp hvt).1 (q2 t ht hvt)
          omega
        · refine Or.inr ⟨w, w1, w2, hv.1 w w1 (ver_iff.mp w2).1 w3, w4, fun t ht hvt hx => ?_⟩
          rcases aft_em (m 1) last t with z | z
          · have := u5 t ht (ver_iff.mp hvt).1 z
            omega
          · exact w5 t ht hvt z
      · rw [if_neg y, r_wr h u1 hk, bi_s, b2_ite]
        obtain ⟨b', hB', eB⟩ := r_na hn h (some u) (fun l e => by have := Option.some.inj e; omega)
        rw [show oI (some u) = nI u from rfl] at eB
        have hM' : cnt (aftB (m 1) (some u)) (nB (m 1)) ≤ d := by
          have := cnt_lt (p := aftB (m 1) (some u)) (q := aftB (m 1) last) (n := nB (m 1)) (t := u) (fun i _ z => aftB_iff.mpr ⟨(aftB_iff.mp z).1, aft_tr u4 (aftB_iff.mp z).2⟩) u1 (aftB_iff.mpr ⟨u3, u4⟩) (by
            have : ¬ aftB (m 1) (some u) u = true := fun z => by
              have := (afu u).mp (aftB_iff.mp z).2
              omega
            simpa using this)
          omega
        have nafu : ∀ w, w < nB (m 1) → TX (m 1) w 1 = 2 → ¬ aft (m 1) (some u) w → ¬ aft (m 1) last w ∨ w = u := by
          intro w hw hc z
          rw [afu] at z
          rcases aft_em (m 1) last w with q | q
          · have := u5 w hw hc q
            exact Or.inr (by omega)
          · exact Or.inl q
        have hfirst : ∀ w, w < nB (m 1) → TX (m 1) w 1 = 2 → ¬ aft (m 1) (some u) w → (TX (m 1) w 2).toInt ≤ x.toInt := by
          intro w hw hc z
          rcases nafu w hw hc z with q | q
          · exact hv.1 w hw hc q
          · rw [q]; omega
        cases e : wr (m 1) u k with
        | true =>
          rw [if_pos rfl, r_of5 (show u < 40 by omega) hk, bi_s, eB, bi_s]
          refine ih (some u) (fun l e => by have := Option.some.inj e; omega) hM' f (by omega) _ ⟨hfirst, Or.inr ⟨u, u1, ver_iff.mpr ⟨u3, e⟩, fun z => by rw [afu] at z; omega, rfl, fun w hw hvw z => by rw [afu] at z; omega⟩⟩ b' hB'
        | false =>
          rw [if_neg (by decide), eB, bi_s]
          refine ih (some u) (fun l e => by have := Option.some.inj e; omega) hM' f (by omega) _ ⟨hfirst, ?_⟩ b' hB'
          have nu : ∀ w, ver (m 1) w k = true → w ≠ u := fun w hvw z => by
            have := (ver_iff.mp hvw).2
            rw [z, e] at this; cases this
          rcases hv.2 with ⟨q1, q2⟩ | ⟨w, w1, w2, w3, w4, w5⟩
          · refine Or.inl ⟨q1, fun w hw hvw => ?_⟩
            have := u5 w hw (ver_iff.mp hvw).1 (q2 w hw hvw)
            have := nu w hvw
            rw [afu]
            omega
          · refine Or.inr ⟨w, w1, w2, fun z => w3 (aft_tr u4 z), w4, fun w' hw' hvw z => ?_⟩
            rcases nafu w' hw' (ver_iff.mp hvw).1 z with q | q
            · exact w5 w' hw' hvw q
            · exact absurd q (nu w' hvw)
theorem r_replay (hn : 10010 ≤ n) (h : Inv bd (m 1)) (hk : k < 8) (x : Int32) : ∃ v, WV (m 1) k x v ∧ (sBi (sX7_nextApplied n m (-1 : Int32)) fun r8 => sX7_replayedValueAt_20 n n m (nI k) x (0 : Int32) r8) = some (v, m) := by
  have hb := h.b40
  obtain ⟨b, hB, eB⟩ := r_na hn h none (fun l e => by cases e)
  rw [show oI none = -1 from rfl] at eB
  rw [eB, bi_s]
  exact r_chain hn h hk x (nB (m 1)) none (fun l e => by cases e) (cnt_le _ _) n (by omega) 0 ⟨fun u _ _ z => absurd trivial z, Or.inl ⟨rfl, fun u _ _ => trivial⟩⟩ b hB
theorem replay_sim (hn : 10010 ≤ n) (h : Inv bd (m 1)) (hC : Cls g 0 (m 1)) (hk : k < 8) (x : Int32) : ∃ v, sX4_replay n g 9 (nI k) x = some v ∧ (sBi (sX7_nextApplied n m (-1 : Int32)) fun r8 => sX7_replayedValueAt_20 n n m (nI k) x (0 : Int32) r8) = some (v, m) := by
  obtain ⟨v, v1, v2⟩ := k_replay hn h hC hk x
  obtain ⟨w, w1, w2⟩ := r_replay hn h hk x
  rw [WV_uq (hC.2.2.1 k hk) w1 v1] at w2
  exact ⟨v, v2, w2⟩
end PR
