/-! the pure part: versions -/
theorem lp_iv {σ α : Type} (L : Nat → σ → Int32 → Option α) (B : Nat) (fin : σ → Option α) (P : Nat → σ → Prop) (h1 : ∀ f i s, i < B → P i s → ∃ s', P (i + 1) s' ∧ L (f + 1) s (nI i) = L f s' (nI (i + 1))) (h2 : ∀ f s, P B s → L (f + 1) s (nI B) = fin s) : ∀ d i, i + d = B → ∀ f, d < f → ∀ s, P i s → ∃ s', P B s' ∧ L f s (nI i) = fin s'
  | 0, i, h, f + 1, _, s, hp => by
    have e : i = B := by omega
    rw [e] at hp ⊢
    exact ⟨s, hp, h2 f s hp⟩
  | d + 1, i, h, f + 1, hf, s, hp => by
    obtain ⟨s', p1, p2⟩ := h1 f i s (by omega) hp
    obtain ⟨s2, q1, q2⟩ := lp_iv L B fin P h1 h2 d (i + 1) (by omega) f (by omega) s' p1
    exact ⟨s2, q1, p2.trans q2⟩
def WI (r : Nat → Int32) (k : Nat) (x : Int32) (i : Nat) (b : Int32) : Prop := (b = -1 ∧ ∀ t, t < i → ver r t k = true → ¬ (TX r t 2).toInt ≤ x.toInt) ∨ ∃ u, u < i ∧ b = nI u ∧ ver r u k = true ∧ (TX r u 2).toInt ≤ x.toInt ∧ ∀ t, t < i → ver r t k = true → (TX r t 2).toInt ≤ x.toInt → (TX r t 2).toInt ≤ (TX r u 2).toInt
def WV (r : Nat → Int32) (k : Nat) (x v : Int32) : Prop := (v = 0 ∧ ∀ t, t < nB r → ver r t k = true → ¬ (TX r t 2).toInt ≤ x.toInt) ∨ ∃ u, u < nB r ∧ ver r u k = true ∧ (TX r u 2).toInt ≤ x.toInt ∧ v = TX r u (5 + k) ∧ ∀ t, t < nB r → ver r t k = true → (TX r t 2).toInt ≤ x.toInt → (TX r t 2).toInt ≤ (TX r u 2).toInt
theorem nm1 : ((-1 : Int32)).toInt = -1 := by decide
theorem nI_ne {i : Nat} (h : i < 2147483648) : nI i = -1 ↔ False := ⟨nI_nm1 h, False.elim⟩
section PV
variable {bd : Int} {g m : Mem} {r : Nat → Int32} {n t k s : Nat} {x : Int32}
theorem r_writer (hn : 10010 ≤ n) (h : Inv bd (m 1)) (hk : k < 8) (x : Int32) : ∃ b, WI (m 1) k x (nB (m 1)) b ∧ sX7_writer n m (nI k) x = some b := by
  have hb := h.b40
  refine lp_iv (fun f s i => sX7_writer_5 n m f (nI k) x s i) (nB (m 1)) some (WI (m 1) k x) (fun f i s hi hp => ?_) (fun f s hp => ?_) (nB (m 1)) 0 (by omega) n (by omega) (-1) (Or.inl ⟨rfl, fun t ht => by omega⟩)
  · have hle : ¬ nI (nB (m 1)) ≤ nI i := nI_ge hi (by omega)
    simp only [sX7_writer_5, r_i3, c_3, h.r3, hle, if_false, nI_1, bi_s, b2_ite, r_ver h hi hk, r_of2 (show i < 40 by omega)]
    cases ev : ver (m 1) i k with
    | false =>
      refine ⟨s, ?_, by simp⟩
      rcases hp with ⟨p1, p2⟩ | ⟨u, u1, u2, u3, u4, u5⟩
      · refine Or.inl ⟨p1, fun t ht hv => ?_⟩
        by_cases z : t = i
        · rw [z, ev] at hv; cases hv
        · exact p2 t (by omega) hv
      · refine Or.inr ⟨u, by omega, u2, u3, u4, fun t ht hv => ?_⟩
        by_cases z : t = i
        · rw [z, ev] at hv; cases hv
        · exact u5 t (by omega) hv
    | true =>
      simp only [if_true, i_lt]
      by_cases ex : x.toInt < (TX (m 1) i 2).toInt
      · refine ⟨s, ?_, by rw [if_pos ex]⟩
        rcases hp with ⟨p1, p2⟩ | ⟨u, u1, u2, u3, u4, u5⟩
        · refine Or.inl ⟨p1, fun t ht hv => ?_⟩
          by_cases z : t = i
          · rw [z]; omega
          · exact p2 t (by omega) hv
        · refine Or.inr ⟨u, by omega, u2, u3, u4, fun t ht hv => ?_⟩
          by_cases z : t = i
          · rw [z]; intro q; omega
          · exact u5 t (by omega) hv
      · rw [if_neg ex]
        rcases hp with ⟨p1, p2⟩ | ⟨u, u1, u2, u3, u4, u5⟩
        · refine ⟨nI i, Or.inr ⟨i, by omega, rfl, ev, by omega, fun t ht hv q => ?_⟩, by rw [if_pos p1]⟩
          by_cases z : t = i
          · rw [z]; exact Int.le_refl _
          · exact absurd q (p2 t (by omega) hv)
        · rw [u2, if_neg (nI_nm1 (by omega)), r_of2 (show u < 40 by omega), bi_s]
          simp only [i_le]
          by_cases ey : (TX (m 1) i 2).toInt ≤ (TX (m 1) u 2).toInt
          · refine ⟨nI u, Or.inr ⟨u, by omega, rfl, u3, u4, fun t ht hv q => ?_⟩, by rw [if_pos ey]⟩
            by_cases z : t = i
            · rw [z]; exact ey
            · exact u5 t (by omega) hv q
          · refine ⟨nI i, Or.inr ⟨i, by omega, rfl, ev, by omega, fun t ht hv q => ?_⟩, by rw [if_neg ey]⟩
            by_cases z : t = i
            · rw [z]; exact Int.le_refl _
            · have := u5 t (by omega) hv q
              omega
  · have hle : nI (nB (m 1)) ≤ nI (nB (m 1)) := nI_le (Nat.le_refl _) (by omega)
    simp only [sX7_writer_5, r_i3, c_3, h.r3, hle, if_true]
theorem r_value (hn : 10010 ≤ n) (h : Inv bd (m 1)) (hk : k < 8) (x : Int32) : ∃ v, WV (m 1) k x v ∧ sX7_value n m (nI k) x = some v := by
  have hb := h.b40
  obtain ⟨b, hb1, hb2⟩ := r_writer hn h hk x
  unfold sX7_value
  rw [hb2, bi_s]
  rcases hb1 with ⟨p1, p2⟩ | ⟨u, u1, u2, u3, u4, u5⟩
  · exact ⟨0, Or.inl ⟨rfl, p2⟩, by rw [if_pos p1]⟩
  · exact ⟨TX (m 1) u (5 + k), Or.inr ⟨u, u1, u3, u4, rfl, u5⟩, by rw [u2, if_neg (nI_nm1 (by omega)), r_of5 (by omega) hk, bi_s]⟩
theorem vt_le (hV : ClV g 0 r k) {i j : Nat} (h : i ≤ j) (hj : j ≤ cv r k) : (g 7 (k * 41 + i)).toInt ≤ (g 7 (k * 41 + j)).toInt := by
  by_cases z : i = j
  · rw [z]; exact Int.le_refl _
  · exact Int.le_of_lt (hV.2.2.2.2.2.1 i j (by omega) hj)
theorem vt_inj (hV : ClV g 0 r k) {i j : Nat} (hi : i ≤ cv r k) (hj : j ≤ cv r k) (e : (g 7 (k * 41 + i)).toInt = (g 7 (k * 41 + j)).toInt) : i = j := by
  rcases Nat.lt_trichotomy i j with z | z | z
  · have : (g 7 (k * 41 + i)).toInt < (g 7 (k * 41 + j)).toInt := hV.2.2.2.2.2.1 i j z hj
    omega
  · exact z
  · have : (g 7 (k * 41 + j)).toInt < (g 7 (k * 41 + i)).toInt := hV.2.2.2.2.2.1 j i z hi
    omega
theorem vt_0 (hV : ClV g 0 r k) : (g 7 (k * 41)).toInt = 0 := by
  rw [show g 7 (k * 41) = 0 from hV.2.1]; rfl
theorem v_of (hV : ClV g 0 r k) (ht : t < nB r) (hv : ver r t k = true) : ∃ i, 1 ≤ i ∧ i ≤ cv r k ∧ g 7 (k * 41 + i) = TX r t 2 ∧ g 8 (k * 41 + i) = TX r t (5 + k) := hV.2.2.2.2.1 t ht hv
theorem v_at (hV : ClV g 0 r k) {i : Nat} (h1 : 1 ≤ i) (hi : i ≤ cv r k) : ∃ t, t < nB r ∧ ver r t k = true ∧ g 7 (k * 41 + i) = TX r t 2 ∧ g 8 (k * 41 + i) = TX r t (5 + k) := hV.2.2.2.1 i h1 hi
theorem WV_uq (hV : ClV g 0 r k) {v v' : Int32} (h1 : WV r k x v) (h2 : WV r k x v') : v = v' := by
  rcases h1 with ⟨p1, p2⟩ | ⟨u, u1, u2, u3, u4, u5⟩ <;> rcases h2 with ⟨q1, q2⟩ | ⟨w, w1, w2, w3, w4, w5⟩
  · rw [p1, q1]
  · exact absurd w3 (p2 w w1 w2)
  · exact absurd u3 (q2 u u1 u2)
  · have a1 := u5 w w1 w2 w3
    have a2 := w5 u u1 u2 u3
    obtain ⟨i, i1, i2, i3, i4⟩ := v_of hV u1 u2
    obtain ⟨j, j1, j2, j3, j4⟩ := v_of hV w1 w2
    have e : i = j := vt_inj hV i2 j2 (by rw [i3, j3]; omega)
    rw [u4, w4, ← i4, ← j4, e]
theorem WV_ix (hV : ClV g 0 r k) {i : Nat} (hi : i ≤ cv r k) (h0 : i = 0 ∨ (g 7 (k * 41 + i)).toInt ≤ x.toInt) (h1 : ∀ j, i < j → j ≤ cv r k → x.toInt < (g 7 (k * 41 + j)).toInt) : WV r k x (g 8 (k * 41 + i)) := by
  by_cases z : i = 0
  · refine Or.inl ⟨by rw [z]; exact hV.2.2.1, fun t ht hv => ?_⟩
    obtain ⟨j, j1, j2, j3, j4⟩ := v_of hV ht hv
    have := h1 j (by omega) j2
    rw [j3] at this
    omega
  · obtain ⟨u, u1, u2, u3, u4⟩ := v_at hV (by omega) hi
    have h0' := h0.resolve_left z
    rw [u3] at h0'
    refine Or.inr ⟨u, u1, u2, h0', u4, fun t ht hv hx => ?_⟩
    obtain ⟨j, j1, j2, j3, j4⟩ := v_of hV ht hv
    rw [← j3, ← u3]
    rcases Nat.lt_or_ge i j with q | q
    · have := h1 j q j2
      rw [j3] at this
      omega
    · exact vt_le hV q hi
theorem WV_at (hV : ClV g 0 r k) {i : Nat} (hi : i ≤ cv r k) : WV r k (g 7 (k * 41 + i)) (g 8 (k * 41 + i)) := WV_ix hV hi (Or.inr (Int.le_refl _)) (fun j h1 h2 => hV.2.2.2.2.2.1 i j h1 h2)
theorem vt_b (h : Inv bd r) (hV : ClV g 0 r k) {i : Nat} (hi : i ≤ cv r k) (h0 : 0 ≤ bd) : (g 7 (k * 41 + i)).toInt ≤ bd := by
  by_cases z : i = 0
  · rw [z]
    show (g 7 (k * 41)).toInt ≤ bd
    rw [vt_0 hV]; exact h0
  · obtain ⟨u, u1, u2, u3, u4⟩ := v_at hV (by omega) hi
    rw [u3]
    exact ((h.tx u1).2.2.1 (Or.inr (ver_iff.mp u2).1)).2
theorem Inv.bd0 (h : Inv bd r) : 0 ≤ bd := by have := h.fl; omega
theorem r_newest (hn : 10010 ≤ n) (h : Inv bd (m 1)) (hV : ClV g 0 (m 1) k) (hk : k < 8) : sX7_newest n m (nI k) = some (g 7 (k * 41 + cv (m 1) k)) := by
  have hb := h.b40
  obtain ⟨b, hb1, hb2⟩ := r_writer hn h hk (2000000000 : Int32)
  have h2 : ((2000000000 : Int32)).toInt = 2000000000 := by decide
  have hbd := h.bdl
  unfold sX7_newest
  rw [hb2, bi_s]
  rcases hb1 with ⟨p1, p2⟩ | ⟨u, u1, u2, u3, u4, u5⟩
  · rw [if_pos p1]
    have e : cv (m 1) k = 0 := by
      by_cases z : cv (m 1) k = 0
      · exact z
      · obtain ⟨u, u1, u2, u3, u4⟩ := v_at hV (show 1 ≤ cv (m 1) k by omega) (Nat.le_refl _)
        have := ((h.tx u1).2.2.1 (Or.inr (ver_iff.mp u2).1)).2
        exact absurd (show (TX (m 1) u 2).toInt ≤ ((2000000000 : Int32)).toInt by omega) (p2 u u1 u2)
    rw [e]
    exact congrArg some hV.2.1.symm
  · rw [u2, if_neg (nI_nm1 (by omega)), r_of2 (by omega), bi_s]
    obtain ⟨j, j1, j2, j3, j4⟩ := v_of hV u1 u3
    obtain ⟨w, w1, w2, w3, w4⟩ := v_at hV (show 1 ≤ cv (m 1) k by omega) (Nat.le_refl _)
    have a1 := ((h.tx w1).2.2.1 (Or.inr (ver_iff.mp w2).1)).2
    have a2 := u5 w w1 w2 (by omega)
    have a3 := vt_le hV j2 (Nat.le_refl _)
    rw [w3, j3] at a3
    exact congrArg some (by rw [w3]; exact i_eq.mpr (by omega))
theorem k_newest (h : Inv bd r) (hV : ClV g 0 r k) (hk : k < 8) : sX5_newest g 5 (nI k) = some (nI (cv r k)) := by
  unfold sX5_newest
  rw [ix8 hk, nI_clamp (by omega), show g (5 + 1) k = nI (cv r k + 1) from hV.1, nI_pred]
theorem ix41 {i : Nat} : nI k * (41 : Int32) + nI i = nI (k * 41 + i) := by
  show nI k * nI 41 + nI i = _
  rw [pk_mul, nI_add]
theorem k_tsOf (h : Inv bd r) (hk : k < 8) {i : Nat} (hi : i ≤ cv r k) : sX5_timestampOf g 5 (nI k) (nI i) = some (g 7 (k * 41 + i)) := by
  have := cv_le (k := k) h
  unfold sX5_timestampOf
  rw [ix41, ix_n (by omega) (by omega), nI_clamp (by omega)]
theorem k_vaOf (h : Inv bd r) (hk : k < 8) {i : Nat} (hi : i ≤ cv r k) : sX5_valueOfVersion g 5 (nI k) (nI i) = some (g 8 (k * 41 + i)) := by
  have := cv_le (k := k) h
  unfold sX5_valueOfVersion
  rw [ix41, ix_n (by omega) (by omega), nI_clamp (by omega)]
theorem k_valueOf_6 (h : Inv bd r) (hV : ClV g 0 r k) (hk : k < 8) (x : Int32) : ∀ i, i ≤ cv r k → (∀ j, i < j → j ≤ cv r k → x.toInt < (g 7 (k * 41 + j)).toInt) → ∀ f, i < f → ∃ v, WV r k x v ∧ sX5_valueOf_6 n g f 5 (nI k) x (nI i) = some v
  | 0, hi, hj, f + 1, hf => by
    refine ⟨_, WV_ix hV hi (Or.inl rfl) hj, ?_⟩
    rw [sX5_valueOf_6, if_pos (by decide), k_vaOf h hk hi, bi_s]
  | i + 1, hi, hj, f + 1, hf => by
    have h40 := cv_le (k := k) h
    rw [sX5_valueOf_6, if_neg (nI_nle (by omega) (by omega)), k_tsOf h hk hi, bi_s]
    simp only [i_le]
    by_cases z : (g 7 (k * 41 + (i + 1))).toInt ≤ x.toInt
    · exact ⟨_, WV_ix hV hi (Or.inr z) hj, by rw [if_pos z, k_vaOf h hk hi, bi_s]⟩
    · rw [if_neg z, pk_m1]
      refine k_valueOf_6 h hV hk x i (by omega) (fun j h1 h2 => ?_) f (by omega)
      by_cases q : j = i + 1
      · rw [q]; omega
      · exact hj j (by omega) h2
theorem k_valueOf (hn : 10010 ≤ n) (h : Inv bd r) (hV : ClV g 0 r k) (hk : k < 8) (x : Int32) : ∃ v, WV r k x v ∧ sX5_valueOf n g 5 (nI k) x = some v := by
  have h40 := cv_le (k := k) h
  unfold sX5_valueOf
  rw [k_newest h hV hk, bi_s]
  exact k_valueOf_6 h hV hk x (cv r k) (Nat.le_refl _) (fun j h1 h2 => by omega) n (by omega)
theorem value_sim (hn : 10010 ≤ n) (h : Inv bd (m 1)) (hC : Cls g 0 (m 1)) (hk : k < 8) (x : Int32) : ∃ v, sX5_valueOf n g 5 (nI k) x = some v ∧ sX7_value n m (nI k) x = some v := by
  obtain ⟨v, v1, v2⟩ := k_valueOf hn h (hC.2.2.1 k hk) hk x
  obtain ⟨w, w1, w2⟩ := r_value hn h hk x
  rw [WV_uq (hC.2.2.1 k hk) w1 v1] at w2
  exact ⟨v, v2, w2⟩
/-! conflicts -/
def cfB (g : Mem) (r : Nat → Int32) (t k : Nat) : Bool := rd r t k && !decide (g 7 (k * 41 + cv r k) = TX r t (13 + k))
theorem rd_ix (h : Inv bd r) (hC : Cls g 0 r) (ht : t < nB r) (hk : k < 8) (hr : rd r t k = true) : ∃ i, i ≤ cv r k ∧ g 16 (t * 8 + k) = nI i ∧ TX r t (13 + k) = g 7 (k * 41 + i) := by
  have hR := hC.2.2.2 t ht k hk
  rw [Nat.zero_add] at hR
  rcases hR with ⟨e1, e2⟩ | z
  · rw [rd_iff] at hr
    exact absurd e2 hr
  · exact z
theorem k_cf (hn : 10010 ≤ n) (h : Inv bd r) (hC : Cls g 0 r) (ht : t < nB r) : sX2_hasConflict n g 0 (nI t) = some (b2 (anyB (cfB g r t) 8)) := by
  have key : ∀ i, i < 8 → rd r t i = true → ∃ j, j ≤ cv r i ∧ g 16 (t * 8 + i) = nI j ∧ (nI j = nI (cv r i) ↔ g 7 (i * 41 + cv r i) = TX r t (13 + i)) := by
    intro i hi hr
    obtain ⟨j, j1, j2, j3⟩ := rd_ix h hC ht hi hr
    have h40 := cv_le (k := i) h
    refine ⟨j, j1, j2, ?_⟩
    rw [nI_eq (by omega) (by omega), j3]
    constructor
    · intro e; rw [e]
    · intro e; exact vt_inj (hC.2.2.1 i hi) j1 (Nat.le_refl _) (by rw [e])
  refine lp_any (fun f i => sX2_hasConflict_2 n g f 0 (nI t) i) 8 (cfB g r t) (fun f i hi hc => ?_) (fun f i hi hc => ?_) (fun f => ?_) n (by omega)
  · have hle : ¬ (8 : Int32) ≤ nI i := nI_ge hi (by decide)
    unfold cfB at hc
    simp only [sX2_hasConflict_2, hle, if_false, nI_1, bi_s, b2_ite, Nat.zero_add, k_rd h hC ht hi, k_rc h ht hi, k_newest h (hC.2.2.1 i hi) hi]
    cases e : rd r t i with
    | false => simp
    | true =>
      obtain ⟨j, j1, j2, j3⟩ := key i hi e
      rw [e] at hc
      simp at hc
      rw [if_pos rfl, j2, if_pos (j3.mpr hc)]
  · have hle : ¬ (8 : Int32) ≤ nI i := nI_ge hi (by decide)
    unfold cfB at hc
    simp only [sX2_hasConflict_2, hle, if_false, nI_1, bi_s, b2_ite, Nat.zero_add, k_rd h hC ht hi, k_rc h ht hi, k_newest h (hC.2.2.1 i hi) hi]
    simp at hc
    obtain ⟨j, j1, j2, j3⟩ := key i hi hc.1
    rw [hc.1, if_pos rfl, j2, if_neg (fun z => hc.2 (j3.mp z))]
  · have hle : (8 : Int32) ≤ nI 8 := nI_le (Nat.le_refl _) (by decide)
    simp only [sX2_hasConflict_2, hle, if_true]
theorem r_cf (hn : 10010 ≤ n) (h : Inv bd (m 1)) (hC : Cls g 0 (m 1)) (ht : t < nB (m 1)) : sX7_isConflict n m (nI t) = some (b2 (anyB (cfB g (m 1) t) 8)) := by
  have hb := h.b40
  refine lp_or (fun f s i => sX7_isConflict_4 n m f (nI t) s i) 8 (cfB g (m 1) t) (fun f i b hi => ?_) (fun f b => ?_) n (by omega)
  · have hle : ¬ (8 : Int32) ≤ nI i := nI_ge hi (by decide)
    simp only [sX7_isConflict_4, hle, if_false, nI_1, bi_s, b2_ite, r_rd h ht hi, r_newest hn h (hC.2.2.1 i hi) hi, r_of13 (show t < 40 by omega) hi, cfB]
    cases b <;> cases e1 : rd (m 1) t i <;> by_cases e2 : g 7 (i * 41 + cv (m 1) i) = TX (m 1) t (13 + i) <;> simp [e2, b2]
  · have hle : (8 : Int32) ≤ nI 8 := nI_le (Nat.le_refl _) (by decide)
    simp only [sX7_isConflict_4, hle, if_true, bb_s]
/-! the outcome of a request -/
def ocS (g : Mem) (r : Nat → Int32) (t : Nat) : Nat → Int32 → Int32 := fun k s => if wr r t k = true then sMax (if (rd r t k || wr r t k) = true then sMax s (1 + g 7 (k * 41 + cv r k)) else s) (1 + mk r k) else (if (rd r t k || wr r t k) = true then sMax s (1 + g 7 (k * 41 + cv r k)) else s)
def ocN (g : Mem) (r : Nat → Int32) (t : Nat) : Int32 := itr (ocS g r t) 0 8 (nx r (TX r t 0).toNatClampNeg (r 0).toInt)
def oc (g : Mem) (r : Nat → Int32) (t : Nat) : Int32 := if anyB (cfB g r t) 8 = true then -2 else if lkd r t = true then -3 else ocN g r t
theorem k_oc (hn : 10010 ≤ n) (h : Inv bd r) (hC : Cls g 0 r) (ht : t < nB r) : sX2_commitOutcome n g 0 (nI t) = some (oc g r t) := by
  have hb := h.b40
  obtain ⟨s, s1, s2⟩ := (h.tx ht).1
  unfold sX2_commitOutcome oc
  rw [k_cf hn h hC ht, bi_s, b2_ite]
  cases anyB (cfB g r t) 8 with
  | true => rfl
  | false =>
    rw [if_neg (by decide), if_neg (by decide)]
    simp only [Nat.zero_add]
    rw [k_lkd hn h hC ht, bi_s, b2_ite]
    cases lkd r t with
    | true => rfl
    | false =>
      rw [if_neg (by decide), if_neg (by decide), ix40 (by omega), nI_clamp (by omega)]
      simp only [Nat.reduceAdd]
      rw [k_f0 hC ht, s2, k_nx h hC s1 (tm_r h), bi_s]
      unfold ocN
      rw [s2, nI_clamp (by omega)]
      refine lp_up (fun f s i => sX2_commitOutcome_41 n g f 0 (nI t) s i) 8 (ocS g r t) some (fun f i s hi => ?_) (fun f s => ?_) 8 0 (by omega) n (by omega) _
      · have hle : ¬ (8 : Int32) ≤ nI i := nI_ge hi (by decide)
        simp only [sX2_commitOutcome_41, sX2_commitOutcome_82, hle, if_false, nI_1, bi_s, b2_ite, Nat.zero_add, k_tc h hC ht hi, k_newest h (hC.2.2.1 i hi) hi, k_tsOf h hi (Nat.le_refl _), k_wr h hC ht hi, k_mark hn h hC hi, ocS]
        cases rd r t i <;> cases wr r t i <;> simp
      · have hle : (8 : Int32) ≤ nI 8 := nI_le (Nat.le_refl _) (by decide)
        simp only [sX2_commitOutcome_41, hle, if_true]
theorem r_oc (hn : 10010 ≤ n) (h : Inv bd (m 1)) (hC : Cls g 0 (m 1)) (ht : t < nB (m 1)) : sX7_outcome n m (nI t) = some (oc g (m 1) t) := by
  have hb := h.b40
  obtain ⟨s, s1, s2⟩ := (h.tx ht).1
  unfold sX7_outcome oc
  rw [r_cf hn h hC ht, bi_s, b2_ite]
  cases anyB (cfB g (m 1) t) 8 with
  | true => rfl
  | false =>
    rw [if_neg (by decide), if_neg (by decide), r_lkd hn h ht, bi_s, b2_ite]
    cases lkd (m 1) t with
    | true => rfl
    | false =>
      rw [if_neg (by decide), if_neg (by decide)]
      unfold sX7_stamp
      rw [r_of0 (show t < 40 by omega), bi_s, r_i0, c_0, s2, r_nx h s1 (tm_r h), bi_s, r_gt, bi_s]
      have hnx := nx_b h s1 (Int.le_refl _) (by have := h.tm.2; omega)
      have e0 : sMax (nx (m 1) s (m 1 0).toInt) 0 = nx (m 1) s (m 1 0).toInt := i_eq.mpr (by rw [sMax_i, l_0]; omega)
      unfold ocN
      rw [e0, s2, nI_clamp (by omega)]
      have e9 : sX7_stamp_26 n m n (nI t) (nx (m 1) s (m 1 0).toInt) 0 = some (itr (ocS g (m 1) t) 0 8 (nx (m 1) s (m 1 0).toInt)) := by
        refine lp_up (fun f s i => sX7_stamp_26 n m f (nI t) s i) 8 (ocS g (m 1) t) some (fun f i s hi => ?_) (fun f s => ?_) 8 0 (by omega) n (by omega) _
        · have hle : ¬ (8 : Int32) ≤ nI i := nI_ge hi (by decide)
          simp only [sX7_stamp_26, sX7_stamp_66, hle, if_false, nI_1, bi_s, b2_ite, r_rd h ht hi, r_wr h ht hi, r_newest hn h (hC.2.2.1 i hi) hi, r_mark hn h hi, r_gt, ocS]
          cases rd (m 1) t i <;> cases wr (m 1) t i <;> simp
        · have hle : (8 : Int32) ≤ nI 8 := nI_le (Nat.le_refl _) (by decide)
          simp only [sX7_stamp_26, hle, if_true]
      rw [e9, bi_s]
end PV
