/-! the pure part: texts are read -/
def dgt (m : Mem) (L p : Nat) : Option Nat := if p < L ∧ 48 ≤ (m 5 p).toInt ∧ (m 5 p).toInt ≤ 57 then some ((m 5 p).toInt - 48).toNat else none
def rE (ok : Bool) (q : Nat) : Int32 := if ok = true then nI q else (-1 : Int32) - nI q
def sgn (m : Mem) (L p : Nat) : Int32 := if p < L then m 5 p else -1
/-- what a reader keeps -/
def Kp (a : Nat) (G G' : Mem) : Prop := G' 157 0 = G 157 0 ∧ G' 157 1 = G 157 1 ∧ (∀ j, j ≠ a → G' 158 j = G 158 j) ∧ ∀ k, k ≠ 157 → k ≠ 158 → G' k = G k
def K2 (G G' : Mem) : Prop := G' 157 0 = G 157 0 ∧ G' 157 1 = G 157 1 ∧ ∀ k, k ≠ 157 → k ≠ 158 → G' k = G k
theorem l_48 : ((48 : Int32)).toInt = 48 := by decide
theorem l_57 : ((57 : Int32)).toInt = 57 := by decide
theorem bi_e {α : Type} {x : Option α} : (sBi x fun r => some r) = x := by cases x <;> rfl
theorem bi2_e {α β : Type} {x : Option (α × β)} : (sBi2 x fun r g => some (r, g)) = x := by cases x <;> rfl
section QF
variable {g m G G1 G2 : Mem} {n L p a lo hi q : Nat} {c : Int32}
theorem Kp.rf : Kp a G G := ⟨rfl, rfl, fun _ _ => rfl, fun _ _ _ => rfl⟩
theorem Kp.trn (h : Kp a G G1) (h' : Kp a G1 G2) : Kp a G G2 := ⟨h'.1.trans h.1, h'.2.1.trans h.2.1, fun j hj => (h'.2.2.1 j hj).trans (h.2.2.1 j hj), fun k h1 h2 => (h'.2.2.2 k h1 h2).trans (h.2.2.2 k h1 h2)⟩
theorem Kp.ps {v : Int32} : Kp a G (mput G 157 3 v) := ⟨mp_at (by decide), mp_at (by decide), fun j _ => by rw [mput_ne (by decide)], fun k h1 _ => mput_ne h1⟩
theorem Kp.ag {v : Int32} : Kp a G (mput G 158 a v) := ⟨by rw [mput_ne (by decide)], by rw [mput_ne (by decide)], fun j hj => mp_at hj, fun k _ h2 => mput_ne h2⟩
theorem Kp.tx (h : Kp a G G1) (hT : TxR G m L) : TxR G1 m L := ⟨hT.1, h.1.trans hT.2.1, hT.2.2.1, fun i hi => by rw [h.2.2.2 159 (by decide) (by decide)]; exact hT.2.2.2 i hi⟩
theorem Kp.k2 (h : Kp a G G1) : K2 G G1 := ⟨h.1, h.2.1, h.2.2.2⟩
theorem K2.trn (h : K2 G G1) (h' : K2 G1 G2) : K2 G G2 := ⟨h'.1.trans h.1, h'.2.1.trans h.2.1, fun k h1 h2 => (h'.2.2 k h1 h2).trans (h.2.2 k h1 h2)⟩
theorem K2.tx (h : K2 G G1) (hT : TxR G m L) : TxR G1 m L := ⟨hT.1, h.1.trans hT.2.1, hT.2.2.1, fun i hi => by rw [h.2.2 159 (by decide) (by decide)]; exact hT.2.2.2 i hi⟩
theorem ix80 {α : Type} {x : Option α} (h : p < 80) : (sIdx (nI p) 80 fun _ => x) = x := ix_e p rfl h (by decide)
theorem r_sign (hT : TxR g m L) (hp : p < 1000) : sX7_sign m (nI p) = some (sgn m L p) := by
  have h80 := hT.1
  unfold sX7_sign sgn
  rw [hT.2.2.1]
  by_cases h : p < L
  · rw [if_neg (nI_ge h (by omega)), if_pos h, ix80 (by omega), nI_clamp (by omega)]
  · rw [if_pos (nI_le (by omega) (by omega)), if_neg h]
theorem dgt_some {e : Nat} (h : dgt m L p = some e) : p < L ∧ e ≤ 9 ∧ (m 5 p).toInt = 48 + e := by
  unfold dgt at h
  by_cases z : p < L ∧ 48 ≤ (m 5 p).toInt ∧ (m 5 p).toInt ≤ 57
  · rw [if_pos z] at h
    have h' := Option.some.inj h
    exact ⟨z.1, by omega, by omega⟩
  · rw [if_neg z] at h
    cases h
theorem dgt_ne (h : dgt m L p ≠ none) : p < L ∧ 48 ≤ (m 5 p).toInt ∧ (m 5 p).toInt ≤ 57 := by
  cases e : dgt m L p with
  | none => exact absurd e h
  | some d =>
    have := dgt_some e
    omega
theorem dgt_no (h : ¬ (48 ≤ (sgn m L p).toInt ∧ (sgn m L p).toInt ≤ 57)) : dgt m L p = none := by
  unfold dgt
  unfold sgn at h
  by_cases z : p < L
  · rw [if_pos z] at h
    rw [if_neg (fun w => h w.2)]
  · rw [if_neg (fun w => z w.1)]
theorem r_dgt (hT : TxR g m L) (hp : p < 1000) : sX7_digit m (nI p) = some (oI (dgt m L p)) := by
  unfold sX7_digit
  rw [r_sign hT hp, bi_s, r_in, bi_s, b2_ite, l_48, l_57]
  by_cases z : 48 ≤ (sgn m L p).toInt ∧ (sgn m L p).toInt ≤ 57
  · rw [decide_eq_true z, if_pos rfl, bi_s]
    have hz := z
    unfold sgn at hz ⊢
    by_cases y : p < L
    · rw [if_pos y] at hz
      unfold dgt
      rw [if_pos y, if_pos ⟨y, hz⟩]
      refine congrArg some (i_eq.mpr ?_)
      have e : (nI ((m 5 p).toInt - 48).toNat).toInt = (m 5 p).toInt - 48 := by
        rw [nI_toInt (by omega)]
        omega
      rw [i_sub (by rw [l_48]; omega) (by rw [l_48]; omega), l_48]
      exact e.symm
    · rw [if_neg y, nm1] at hz
      omega
  · rw [decide_eq_false z, if_neg (by decide), dgt_no z]
    rfl
theorem k_dgt (hT : TxR G m L) (h3 : G 157 3 = nI p) (hp : p < 1000) : sX3_digitHere G = some (oI (dgt m L p)) := by
  have h80 := hT.1
  unfold sX3_digitHere
  rw [hT.2.1, h3]
  by_cases h : p < L
  · have e9 : G 159 p = m 5 p := (hT.2.2.2 p h).1
    have hcl : (nI p).toNatClampNeg = p := nI_clamp (by omega)
    rw [if_neg (nI_ge h (by omega))]
    simp only [ix80 (show p < 80 by omega), hcl, e9, i_lt, i_le, l_48, l_57]
    unfold dgt
    by_cases q1 : (m 5 p).toInt < 48
    · rw [if_pos q1, if_neg (fun w => by omega)]
      rfl
    · rw [if_neg q1]
      by_cases q2 : (m 5 p).toInt ≤ 57
      · rw [if_pos q2, if_pos ⟨h, by omega, q2⟩]
        refine congrArg some (i_eq.mpr ?_)
        have e : (nI ((m 5 p).toInt - 48).toNat).toInt = (m 5 p).toInt - 48 := by
          rw [nI_toInt (by omega)]
          omega
        rw [i_sub (by rw [l_48]; omega) (by rw [l_48]; omega), l_48]
        exact e.symm
      · rw [if_neg q2, if_neg (fun w => q2 w.2.2)]
        rfl
  · rw [if_pos (nI_le (by omega) (by omega))]
    unfold dgt
    rw [if_neg (fun w => h w.1)]
    rfl
theorem num_lp (ha : a < 3) (hh : hi ≤ 9999) : ∀ d v p (G : Mem), L + 1 - p ≤ d → TxR G m L → G 157 3 = nI p → p ≤ L → v ≤ hi → ∀ f1 f2, d ≤ f1 → d ≤ f2 → ∃ v' p', p ≤ p' ∧ p' ≤ L ∧ v ≤ v' ∧ v' ≤ hi ∧ (∀ u, p ≤ u → u < p' → dgt m L u ≠ none) ∧ (∃ G', sX3_readNumber_30 n f1 G (nI a) (nI hi) (nI v) = some (1, G') ∧ G' 157 3 = nI p' ∧ G' 158 a = nI v' ∧ Kp a G G') ∧ sX7_numberEnd_34 n m f2 (nI hi) (nI v) (nI p) = some (nI p') ∧ (dgt m L p' = none → ∀ f3, d ≤ f3 → sX7_numberAt_31 n m f3 0 (nI v) (nI p) = some (nI v') ∧ sX7_numberAt_31 n m f3 1 (nI v) (nI p) = some (-(nI v')))
  | 0, v, p, G, hd, hT, hp, hL, hv, f1, f2, h1, h2 => by omega
  | d + 1, v, p, G, hd, hT, hp, hL, hv, f1, f2, h1, h2 => by
    obtain ⟨f1, rfl⟩ : ∃ w, f1 = w + 1 := ⟨f1 - 1, by omega⟩
    obtain ⟨f2, rfl⟩ : ∃ w, f2 = w + 1 := ⟨f2 - 1, by omega⟩
    have h80 := hT.1
    have hk := k_dgt hT hp (by omega)
    have hr := r_dgt hT (p := p) (by omega)
    have ia : ∀ {α : Type} {x : Option α}, (sIdx (nI a) 3 fun _ => x) = x := ix_e a rfl ha (by decide)
    have ca : (nI a).toNatClampNeg = a := nI_clamp (by omega)
    have on : oI none = -1 := rfl
    have lm : (-1 : Int32) < 0 := by decide
    have fin : sX3_readNumber_30 n (f1 + 1) G (nI a) (nI hi) (nI v) = some (1, mput G 158 a (nI v)) → sX7_numberEnd_34 n m (f2 + 1) (nI hi) (nI v) (nI p) = some (nI p) → ∃ v' p', p ≤ p' ∧ p' ≤ L ∧ v ≤ v' ∧ v' ≤ hi ∧ (∀ u, p ≤ u → u < p' → dgt m L u ≠ none) ∧ (∃ G', sX3_readNumber_30 n (f1 + 1) G (nI a) (nI hi) (nI v) = some (1, G') ∧ G' 157 3 = nI p' ∧ G' 158 a = nI v' ∧ Kp a G G') ∧ sX7_numberEnd_34 n m (f2 + 1) (nI hi) (nI v) (nI p) = some (nI p') ∧ (dgt m L p' = none → ∀ f3, d + 1 ≤ f3 → sX7_numberAt_31 n m f3 0 (nI v) (nI p) = some (nI v') ∧ sX7_numberAt_31 n m f3 1 (nI v) (nI p) = some (-(nI v'))) := by
      intro q1 q2
      refine ⟨v, p, Nat.le_refl _, hL, Nat.le_refl _, hv, fun u u1 u2 => by omega, ⟨_, q1, by rw [mput_ne (by decide)]; exact hp, mp_eq, Kp.ag⟩, q2, fun hz f3 h3 => ?_⟩
      obtain ⟨f3, rfl⟩ : ∃ w, f3 = w + 1 := ⟨f3 - 1, by omega⟩
      rw [hz] at hr
      simp only [sX7_numberAt_31, hr, bi_s, on, lm, if_true, i10, if_false]
      exact ⟨trivial, trivial⟩
    cases e : dgt m L p with
    | none =>
      rw [e] at hk hr
      refine fin ?_ ?_
      · by_cases h : p < L
        · have hle : ¬ nI L ≤ nI p := nI_ge h (by omega)
          simp only [sX3_readNumber_30, hT.2.1, hp, hle, if_false, hk, bi_s, on, if_true, ia, ca, let_s]
        · have hle : nI L ≤ nI p := nI_le (by omega) (by omega)
          simp only [sX3_readNumber_30, hT.2.1, hp, hle, if_true, ia, ca, let_s]
      · rw [sX7_numberEnd_34]
        split
        · rfl
        · rw [hr, bi_s, on, if_pos lm]
    | some c =>
      obtain ⟨c1, c2, c3⟩ := dgt_some e
      rw [e] at hk hr
      have eo : oI (some c) = nI c := rfl
      have hle : ¬ nI L ≤ nI p := nI_ge c1 (by omega)
      have hm1 : (nI c = -1) ↔ False := nI_ne (by omega)
      have hng : ¬ nI c < 0 := nI_pos (by omega)
      by_cases z : v = 0
      · have hv0 : nI v = 0 := by rw [z]; exact nI_0
        have hv1 : nI v ≤ 0 := by rw [hv0]; exact Int32.le_refl _
        refine fin ?_ ?_
        · simp only [sX3_readNumber_30, hT.2.1, hp, hle, if_false, hk, bi_s, eo, hm1, hv0, i00, if_true, ia, ca, let_s]
        · rw [sX7_numberEnd_34, if_pos hv1]
      · have hv0 : ¬ nI v = 0 := nI_ne0 (by omega) (by omega)
        have hv1 : ¬ nI v ≤ 0 := nI_nle (by omega) (by omega)
        have e10 : (10 : Int32) * nI v + nI c = nI (10 * v + c) := by
          show nI 10 * nI v + nI c = _
          rw [pk_mul, nI_add]
        by_cases y : 10 * v + c ≤ hi
        · have y1 : nI (10 * v + c) ≤ nI hi := nI_le y (by omega)
          have y2 : ¬ nI hi < nI (10 * v + c) := nI_nlt y (by omega)
          obtain ⟨v', p', w1, w2, w3, w4, w5, ⟨G', g0, g1, g2, g3⟩, w6, w7⟩ := num_lp ha hh d (10 * v + c) (p + 1) (mput G 157 3 (nI (p + 1))) (by omega) ((Kp.ps (a := a)).tx hT) mp_eq (by omega) y f1 f2 (by omega) (by omega)
          refine ⟨v', p', by omega, w2, by omega, w4, fun u u1 u2 => ?_, ⟨G', ?_, g1, g2, Kp.trn Kp.ps g3⟩, ?_, fun hz f3 h3 => ?_⟩
          · by_cases w : u = p
            · rw [w, e]
              exact fun w' => by cases w'
            · exact w5 u (by omega) u2
          · simp only [sX3_readNumber_30, hT.2.1, hp, hle, if_false, hk, bi_s, eo, hm1, hv0, e10, y1, if_true, let_s, nI_1]
            exact g0
          · simp only [sX7_numberEnd_34, hv1, if_false, hr, bi_s, eo, hng, e10, y2, nI_1]
            exact w6
          · obtain ⟨f3, rfl⟩ : ∃ w, f3 = w + 1 := ⟨f3 - 1, by omega⟩
            simp only [sX7_numberAt_31, hr, bi_s, eo, hng, if_false, e10, nI_1]
            exact w7 hz f3 (by omega)
        · have y1 : ¬ nI (10 * v + c) ≤ nI hi := nI_ge (by omega) (by omega)
          have y2 : nI hi < nI (10 * v + c) := nI_lt (by omega) (by omega)
          refine fin ?_ ?_
          · simp only [sX3_readNumber_30, hT.2.1, hp, hle, if_false, hk, bi_s, eo, hm1, hv0, e10, y1, ia, ca, let_s]
          · simp only [sX7_numberEnd_34, hv1, if_false, hr, bi_s, eo, hng, e10, y2, if_true]
theorem rE_t : rE true q = nI q := rfl
theorem rE_f : rE false q = (-1 : Int32) - nI q := rfl
theorem rE_i (hq : q < 1000) : (rE false q).toInt = -1 - (q : Int) := by
  rw [rE_f, i_sub (by rw [nm1, nI_toInt (by omega)]; omega) (by rw [nm1, nI_toInt (by omega)]; omega), nm1, nI_toInt (by omega)]
theorem rE_n (hq : q < 1000) : ¬ 0 ≤ rE false q := by
  rw [i_le, l_0, rE_i hq]
  omega
theorem rE_l (hq : q < 1000) : rE false q < 0 := by
  rw [i_lt, l_0, rE_i hq]
  omega
theorem rE_b (hq : q < 1000) : (-1 : Int32) - rE false q = nI q := by
  rw [i_eq, i_sub (by rw [nm1, rE_i hq]; omega) (by rw [nm1, rE_i hq]; omega), nm1, rE_i hq, nI_toInt (by omega)]
  omega
theorem S_num {xa xl xh : Int32} (a lo hi : Nat) (ea : xa = nI a) (el : xl = nI lo) (eh : xh = nI hi) (ha : a < 3) (hl : lo ≤ 1) (hh : hi ≤ 9999) (hn : 10010 ≤ n) (hT : TxR G m L) (hp : G 157 3 = nI p) (hL : p ≤ L) : ∃ ok q v G', sX3_readNumber n G xa xl xh = some (b2 ok, G') ∧ sX7_numberEnd n m (nI p) xl xh = some (rE ok q) ∧ G' 157 3 = nI q ∧ Kp a G G' ∧ p ≤ q ∧ q ≤ L ∧ (ok = true → p < q ∧ lo ≤ v ∧ v ≤ hi ∧ G' 158 a = nI v ∧ (∀ u, p ≤ u → u < q → dgt m L u ≠ none) ∧ (dgt m L q = none → sX7_numberAt_31 n m n 0 0 (nI p) = some (nI v) ∧ sX7_numberAt_31 n m n 1 0 (nI p) = some (-(nI v)))) := by
  subst ea
  subst el
  subst eh
  have h80 := hT.1
  have hk := k_dgt hT hp (by omega)
  have hr := r_dgt hT (p := p) (by omega)
  have hp0 : 0 ≤ nI p := nI_pos' (by omega)
  have fail : sX3_readNumber n G (nI a) (nI lo) (nI hi) = some (0, G) → sX7_numberEnd n m (nI p) (nI lo) (nI hi) = some ((-1 : Int32) - nI p) → ∃ ok q v G', sX3_readNumber n G (nI a) (nI lo) (nI hi) = some (b2 ok, G') ∧ sX7_numberEnd n m (nI p) (nI lo) (nI hi) = some (rE ok q) ∧ G' 157 3 = nI q ∧ Kp a G G' ∧ p ≤ q ∧ q ≤ L ∧ (ok = true → p < q ∧ lo ≤ v ∧ v ≤ hi ∧ G' 158 a = nI v ∧ (∀ u, p ≤ u → u < q → dgt m L u ≠ none) ∧ (dgt m L q = none → sX7_numberAt_31 n m n 0 0 (nI p) = some (nI v) ∧ sX7_numberAt_31 n m n 1 0 (nI p) = some (-(nI v)))) := fun q1 q2 => ⟨false, p, 0, G, q1, q2, hp, Kp.rf, Nat.le_refl _, hL, fun z => by cases z⟩
  cases e : dgt m L p with
  | none =>
    rw [e] at hk hr
    have on : oI none = -1 := rfl
    have lm : (-1 : Int32) < nI lo := by
      rw [i_lt, nm1, nI_toInt (by omega)]
      omega
    refine fail ?_ ?_
    · unfold sX3_readNumber
      rw [hk, bi_s, on, if_pos lm]
    · unfold sX7_numberEnd
      rw [if_pos hp0, hr, bi_s, on, if_pos lm]
  | some c =>
    obtain ⟨c1, c2, c3⟩ := dgt_some e
    rw [e] at hk hr
    have eo : oI (some c) = nI c := rfl
    by_cases z : c < lo
    · have z1 : nI c < nI lo := nI_lt z (by omega)
      refine fail ?_ ?_
      · unfold sX3_readNumber
        rw [hk, bi_s, eo, if_pos z1]
      · unfold sX7_numberEnd
        rw [if_pos hp0, hr, bi_s, eo, if_pos z1]
    · have z1 : ¬ nI c < nI lo := nI_nlt (by omega) (by omega)
      by_cases y : c ≤ hi
      · have y1 : nI c ≤ nI hi := nI_le y (by omega)
        obtain ⟨v', p', w1, w2, w3, w4, w5, ⟨G', g0, g1, g2, g3⟩, w6, w7⟩ := num_lp (n := n) (m := m) (L := L) ha hh (L + 1) c (p + 1) (mput G 157 3 (nI (p + 1))) (by omega) ((Kp.ps (a := a)).tx hT) mp_eq (by omega) y n n (by omega) (by omega)
        refine ⟨true, p', v', G', ?_, ?_, g1, Kp.trn Kp.ps g3, by omega, w2, fun _ => ⟨by omega, by omega, w4, g2, fun u u1 u2 => ?_, fun hz => ?_⟩⟩
        · unfold sX3_readNumber
          rw [hk, bi_s, eo, if_neg z1, if_pos y1, let_s, hp, nI_1]
          exact g0
        · unfold sX7_numberEnd
          rw [if_pos hp0, hr, bi_s, eo, if_neg z1, if_pos y1, nI_1]
          exact w6
        · by_cases w : u = p
          · rw [w, e]
            exact fun w' => by cases w'
          · exact w5 u (by omega) u2
        · have key : ∀ f, L + 1 ≤ f → sX7_numberAt_31 n m (f + 1) 0 0 (nI p) = some (nI v') ∧ sX7_numberAt_31 n m (f + 1) 1 0 (nI p) = some (-(nI v')) := by
            intro f hf
            have hng : ¬ nI c < 0 := nI_pos (by omega)
            have e10 : (10 : Int32) * 0 + nI c = nI c := by
              show nI 10 * nI 0 + nI c = _
              rw [pk_mul, nI_add, Nat.mul_zero, Nat.zero_add]
            simp only [sX7_numberAt_31, hr, bi_s, eo, hng, if_false, e10, nI_1]
            exact w7 hz f hf
          have := key (n - 1) (by omega)
          rwa [show n - 1 + 1 = n by omega] at this
      · have y1 : ¬ nI c ≤ nI hi := nI_ge (by omega) (by omega)
        refine fail ?_ ?_
        · unfold sX3_readNumber
          rw [hk, bi_s, eo, if_neg z1, if_neg y1]
        · unfold sX7_numberEnd
          rw [if_pos hp0, hr, bi_s, eo, if_neg z1, if_neg y1]
theorem k_take (hT : TxR G m L) (hp : G 157 3 = nI p) (hL : p ≤ L) : sX3_take G c = if p < L ∧ m 5 p = c then some (1, mput G 157 3 (nI (p + 1))) else some (0, G) := by
  have h80 := hT.1
  unfold sX3_take
  rw [hT.2.1, hp]
  by_cases h : p < L
  · have e9 : G 159 p = m 5 p := (hT.2.2.2 p h).1
    have hcl : (nI p).toNatClampNeg = p := nI_clamp (by omega)
    rw [if_neg (nI_ge h (by omega)), ix80 (by omega), hcl, e9]
    by_cases z : m 5 p = c
    · rw [if_pos z, if_pos ⟨h, z⟩, let_s, nI_1]
    · rw [if_neg z, if_neg (fun w => z w.2)]
  · rw [if_pos (nI_le (by omega) (by omega)), if_neg (fun w => h w.1)]
theorem sgn_c (hc : c ≠ -1) : sgn m L p = c ↔ p < L ∧ m 5 p = c := by
  unfold sgn
  by_cases h : p < L
  · rw [if_pos h]
    exact ⟨fun w => ⟨h, w⟩, fun w => w.2⟩
  · rw [if_neg h]
    exact ⟨fun w => absurd w.symm hc, fun w => absurd w.1 h⟩
theorem S_take (hc : c ≠ -1) (hT : TxR G m L) (hp : G 157 3 = nI p) (hL : p ≤ L) : ∃ ok q G', sX3_take G c = some (b2 ok, G') ∧ sX7_behind m (nI p) c = some (rE ok q) ∧ G' 157 3 = nI q ∧ (∀ a, Kp a G G') ∧ p ≤ q ∧ q ≤ L ∧ (ok = true → q = p + 1 ∧ p < L ∧ m 5 p = c) ∧ (ok = false → q = p) := by
  have h80 := hT.1
  have hp0 : 0 ≤ nI p := nI_pos' (by omega)
  rw [k_take hT hp hL]
  unfold sX7_behind
  rw [if_pos hp0, r_sign hT (by omega), bi_s]
  by_cases z : p < L ∧ m 5 p = c
  · rw [if_pos z, if_pos ((sgn_c hc).mpr z), nI_1]
    exact ⟨true, p + 1, _, rfl, rfl, mp_eq, fun a => Kp.ps, by omega, by omega, fun _ => ⟨rfl, z.1, z.2⟩, fun w => by cases w⟩
  · rw [if_neg z, if_neg (fun w => z ((sgn_c hc).mp w))]
    exact ⟨false, p, G, rfl, rfl, hp, fun a => Kp.rf, Nat.le_refl _, hL, fun w => absurd w (by decide), fun _ => rfl⟩
theorem b_neg (hq : q < 1000) : sX7_behind m (rE false q) c = some (rE false q) := by
  unfold sX7_behind
  rw [if_neg (rE_n hq)]
theorem ne_neg {xl xh : Int32} (hq : q < 1000) : sX7_numberEnd n m (rE false q) xl xh = some (rE false q) := by
  unfold sX7_numberEnd
  rw [if_neg (rE_n hq)]
theorem nb_neg {xh : Int32} (hq : q < 1000) : sX7_numberBehind n m (rE false q) xh = some (rE false q) := by
  unfold sX7_numberBehind
  rw [b_neg hq, bi_s, ne_neg hq, bi_s]
theorem c44 : (44 : Int32) ≠ -1 := by decide
theorem l_44 : ((44 : Int32)).toInt = 44 := by decide
theorem dgt_44 (h : m 5 p = 44) : dgt m L p = none := by
  unfold dgt
  rw [h, l_44, if_neg (fun w => by omega)]
theorem S_nb {xa xh : Int32} (a hi : Nat) (ea : xa = nI a) (eh : xh = nI hi) (ha : a < 3) (hh : hi ≤ 9999) (hn : 10010 ≤ n) (hT : TxR G m L) (hp : G 157 3 = nI p) (hL : p ≤ L) : ∃ ok q v G', (sBi2 (sX3_take G (44 : Int32)) fun r8 g9 => if r8 = 0 then (some ((0 : Int32), g9)) else (sBi2 (sX3_readNumber n g9 xa (0 : Int32) xh) fun r13 g14 => if r13 = 0 then (some ((0 : Int32), g14)) else (some ((1 : Int32), g14)))) = some (b2 ok, G') ∧ sX7_numberBehind n m (nI p) xh = some (rE ok q) ∧ G' 157 3 = nI q ∧ Kp a G G' ∧ p ≤ q ∧ q ≤ L ∧ (ok = true → p < L ∧ m 5 p = 44 ∧ p + 1 < q ∧ v ≤ hi ∧ G' 158 a = nI v ∧ (∀ u, p + 1 ≤ u → u < q → dgt m L u ≠ none) ∧ (dgt m L q = none → sX7_numberAt_31 n m n 0 0 (nI (p + 1)) = some (nI v))) := by
  have h80 := hT.1
  obtain ⟨ok, q, G1, a1, a2, a3, a4, a5, a6, a7, a8⟩ := S_take (c := 44) c44 hT hp hL
  rw [a1, bi2_s]
  unfold sX7_numberBehind
  rw [a2, bi_s]
  cases ok with
  | false =>
    rw [b2_f, if_pos rfl, ne_neg (by omega), bi_s]
    exact ⟨false, q, 0, G1, rfl, rfl, a3, a4 a, a5, a6, fun w => by cases w⟩
  | true =>
    obtain ⟨e1, e2, e3⟩ := a7 rfl
    subst e1
    obtain ⟨ok2, q2, v, G2, b1, b2', b3, b4, b5, b6, b7⟩ := S_num (xa := xa) (xl := 0) (xh := xh) a 0 hi ea rfl eh ha (by decide) hh hn ((a4 a).tx hT) a3 a6
    rw [b2_t, if_neg (by decide), b1, bi2_s, rE_t, b2', bi_s, b2_ite]
    cases ok2 with
    | false => exact ⟨false, q2, v, G2, rfl, rfl, b3, (a4 a).trn b4, by omega, b6, fun w => by cases w⟩
    | true =>
      obtain ⟨d1, d2, d3, d4, d5, d6⟩ := b7 rfl
      exact ⟨true, q2, v, G2, rfl, rfl, b3, (a4 a).trn b4, by omega, b6, fun _ => ⟨e2, e3, d1, d3, d4, d5, fun hz => (d6 hz).1⟩⟩
theorem S_tk (hn : 10010 ≤ n) (hT : TxR G m L) (hp : G 157 3 = nI p) (hL : p ≤ L) : ∃ ok q v0 v1 e G' y, sX3_readTransactionAndKey n G = some (b2 ok, G') ∧ sX7_numberEnd n m (nI p) (0 : Int32) (39 : Int32) = some y ∧ sX7_numberBehind n m y (7 : Int32) = some (rE ok q) ∧ G' 157 3 = nI q ∧ K2 G G' ∧ p ≤ q ∧ q ≤ L ∧ (ok = true → p < e ∧ e < L ∧ m 5 e = 44 ∧ e + 1 < q ∧ v0 ≤ 39 ∧ v1 ≤ 7 ∧ G' 158 0 = nI v0 ∧ G' 158 1 = nI v1 ∧ (∀ u, p ≤ u → u < e → dgt m L u ≠ none) ∧ (∀ u, e + 1 ≤ u → u < q → dgt m L u ≠ none) ∧ sX7_numberAt_31 n m n 0 0 (nI p) = some (nI v0) ∧ (dgt m L q = none → sX7_numberAt_31 n m n 0 0 (nI (e + 1)) = some (nI v1))) := by
  have h80 := hT.1
  obtain ⟨ok, q, v0, G1, a1, a2, a3, a4, a5, a6, a7⟩ := S_num (xa := 0) (xl := 0) (xh := 39) 0 0 39 rfl rfl rfl (by decide) (by decide) (by decide) hn hT hp hL
  unfold sX3_readTransactionAndKey
  rw [a1, bi2_s]
  cases ok with
  | false =>
    rw [b2_f, if_pos rfl]
    exact ⟨false, q, 0, 0, 0, G1, _, rfl, a2, nb_neg (by omega), a3, a4.k2, a5, a6, fun w => by cases w⟩
  | true =>
    rw [b2_t, if_neg (by decide)]
    obtain ⟨d1, d2, d3, d4, d5, d6⟩ := a7 rfl
    obtain ⟨ok2, q2, v1, G2, b1, b2', b3, b4, b5, b6, b7⟩ := S_nb (xa := 1) (xh := 7) 1 7 rfl rfl (by decide) (by decide) hn (a4.tx hT) a3 a6
    refine ⟨ok2, q2, v0, v1, q, G2, _, b1, a2, b2', b3, a4.k2.trn b4.k2, by omega, b6, fun w => ?_⟩
    obtain ⟨f1, f2, f3, f4, f5, f6, f7⟩ := b7 w
    exact ⟨d1, f1, f2, f3, d3, f4, by rw [b4.2.2.1 0 (by decide)]; exact d4, f5, d5, f6, (d6 (dgt_44 f2)).1, f7⟩
theorem c45 : (45 : Int32) ≠ -1 := by decide
theorem l_45 : ((45 : Int32)).toInt = 45 := by decide
theorem r_at (hT : TxR g m L) (h : dgt m L p ≠ none) : sX7_numberAt n m (nI p) = sX7_numberAt_31 n m n 0 0 (nI p) := by
  have h80 := hT.1
  obtain ⟨h1, h2, h3⟩ := dgt_ne h
  unfold sX7_numberAt
  rw [r_sign hT (by omega), bi_s, if_neg]
  intro z
  have := ((sgn_c c45).mp z).2
  rw [this, l_45] at h2
  omega
theorem S_off (hn : 10010 ≤ n) (hT : TxR G m L) (hp : G 157 3 = nI p) (hL : p ≤ L) : ∃ ok q x G', sX3_readOffset n G = some (b2 ok, G') ∧ (if sgn m L p = 45 then sX7_numberEnd n m (nI (p + 1)) (1 : Int32) (500 : Int32) else sX7_numberEnd n m (nI p) (0 : Int32) (500 : Int32)) = some (rE ok q) ∧ G' 157 3 = nI q ∧ Kp 1 G G' ∧ p ≤ q ∧ q ≤ L ∧ (ok = true → p < q ∧ -500 ≤ x.toInt ∧ x.toInt ≤ 500 ∧ G' 158 1 = x ∧ (dgt m L q = none → sX7_numberAt n m (nI p) = some x)) := by
  have h80 := hT.1
  unfold sX3_readOffset
  rw [k_take hT hp hL]
  by_cases z : p < L ∧ m 5 p = 45
  · rw [if_pos z, if_pos ((sgn_c c45).mpr z), bi2_s, if_neg (by decide)]
    obtain ⟨ok, q, v, G1, a1, a2, a3, a4, a5, a6, a7⟩ := S_num (p := p + 1) (G := mput G 157 3 (nI (p + 1))) (xa := 1) (xl := 1) (xh := 500) 1 1 500 rfl rfl rfl (by decide) (by decide) (by decide) hn ((Kp.ps (a := 1)).tx hT) mp_eq (by omega)
    rw [a1, bi2_s, b2_ite]
    cases ok with
    | false => exact ⟨false, q, 0, G1, rfl, a2, a3, Kp.ps.trn a4, by omega, a6, fun w => by cases w⟩
    | true =>
      obtain ⟨d1, d2, d3, d4, d5, d6⟩ := a7 rfl
      have i1 : ∀ {α : Type} {x : Option α}, (sIdx (1 : Int32) 3 fun _ => x) = x := ix_e 1 rfl (by decide) (by decide)
      have ev : (nI v).toInt = v := nI_toInt (by omega)
      have en : (-(nI v)).toInt = -(v : Int) := by rw [i_neg (by rw [ev]; omega), ev]
      rw [if_pos rfl, i1, i1, let_s, c_1, d4]
      refine ⟨true, q, -(nI v), mput G1 158 1 (-(nI v)), rfl, a2, by rw [mput_ne (by decide)]; exact a3, Kp.trn (Kp.ps.trn a4) Kp.ag, by omega, a6, fun _ => ⟨by omega, by rw [en]; omega, by rw [en]; omega, mp_eq, fun hz => ?_⟩⟩
      unfold sX7_numberAt
      rw [r_sign hT (by omega), bi_s, if_pos ((sgn_c c45).mpr z), nI_1]
      exact (d6 hz).2
  · rw [if_neg z, if_neg (fun w => z ((sgn_c c45).mp w)), bi2_s, if_pos rfl, bi2_e]
    obtain ⟨ok, q, v, G1, a1, a2, a3, a4, a5, a6, a7⟩ := S_num (xa := 1) (xl := 0) (xh := 500) 1 0 500 rfl rfl rfl (by decide) (by decide) (by decide) hn hT hp hL
    refine ⟨ok, q, nI v, G1, a1, a2, a3, a4, a5, a6, fun w => ?_⟩
    obtain ⟨d1, d2, d3, d4, d5, d6⟩ := a7 w
    have ev : (nI v).toInt = v := nI_toInt (by omega)
    refine ⟨d1, by rw [ev]; omega, by rw [ev]; omega, d4, fun hz => ?_⟩
    rw [r_at hT (d5 p (Nat.le_refl _) d1)]
    exact (d6 hz).1
/-! places of arguments -/
theorem arg_to (hn : 10010 ≤ n) (hT : TxR g m L) {e : Nat} (he : e < L) (h44 : m 5 e = 44) : ∀ d p, p + d = e → (∀ u, p ≤ u → u < e → m 5 u ≠ 44) → ∀ f, d < f → sX7_argument_2 n m f (nI p) = some (nI (e + 1))
  | 0, p, hd, hu, f + 1, _ => by
    have h80 := hT.1
    have e1 : p = e := by omega
    subst e1
    have hle : ¬ nI L ≤ nI p := nI_ge he (by omega)
    rw [sX7_argument_2, hT.2.2.1, if_neg hle, r_sign hT (by omega), bi_s, if_pos ((sgn_c c44).mpr ⟨he, h44⟩), nI_1]
  | d + 1, p, hd, hu, f + 1, hf => by
    have h80 := hT.1
    have hle : ¬ nI L ≤ nI p := nI_ge (by omega) (by omega)
    rw [sX7_argument_2, hT.2.2.1, if_neg hle, r_sign hT (by omega), bi_s, if_neg (fun w => hu p (Nat.le_refl _) (by omega) ((sgn_c c44).mp w).2), nI_1]
    exact arg_to hn hT he h44 d (p + 1) (by omega) (fun u u1 u2 => hu u (by omega) u2) f (by omega)
theorem r_arg (hn : 10010 ≤ n) (hT : TxR g m L) {e : Nat} (he : e < L) (h44 : m 5 e = 44) (hp : p ≤ e) (hu : ∀ u, p ≤ u → u < e → m 5 u ≠ 44) : sX7_argument n m (nI p) = some (nI (e + 1)) := by
  have h80 := hT.1
  exact arg_to hn hT he h44 (e - p) p (by omega) hu n (by omega)
theorem arg_tot (hT : TxR g m L) : ∀ d p, L + 1 - p ≤ d → p ≤ 900 → ∀ f, d < f → ∃ q, q ≤ max L p + 1 ∧ sX7_argument_2 n m f (nI p) = some (nI q)
  | 0, p, hd, hp, f + 1, _ => by
    have h80 := hT.1
    have hle : nI L ≤ nI p := nI_le (by omega) (by omega)
    refine ⟨p + 1, by omega, ?_⟩
    rw [sX7_argument_2, hT.2.2.1, if_pos hle, nI_1]
  | d + 1, p, hd, hp, f + 1, hf => by
    have h80 := hT.1
    by_cases h : p < L
    · have hle : ¬ nI L ≤ nI p := nI_ge h (by omega)
      by_cases z : sgn m L p = 44
      · refine ⟨p + 1, by omega, ?_⟩
        rw [sX7_argument_2, hT.2.2.1, if_neg hle, r_sign hT (by omega), bi_s, if_pos z, nI_1]
      · obtain ⟨q, q1, q2⟩ := arg_tot hT d (p + 1) (by omega) (by omega) f (by omega)
        refine ⟨q, by omega, ?_⟩
        rw [sX7_argument_2, hT.2.2.1, if_neg hle, r_sign hT (by omega), bi_s, if_neg z, nI_1]
        exact q2
    · have hle : nI L ≤ nI p := nI_le (by omega) (by omega)
      refine ⟨p + 1, by omega, ?_⟩
      rw [sX7_argument_2, hT.2.2.1, if_pos hle, nI_1]
theorem at_tot (hT : TxR g m L) (b : Int32) : ∀ d p (v : Int32), L + 1 - p ≤ d → p ≤ 900 → ∀ f, d < f → ∃ x, sX7_numberAt_31 n m f b v (nI p) = some x
  | 0, p, v, hd, hp, f + 1, _ => by
    have hr := r_dgt hT (p := p) (by omega)
    have hz : dgt m L p = none := by unfold dgt; rw [if_neg (fun w => by omega)]
    rw [hz] at hr
    rw [sX7_numberAt_31, hr, bi_s, show oI none = -1 from rfl, if_pos (by decide)]
    split
    · exact ⟨_, rfl⟩
    · exact ⟨_, rfl⟩
  | d + 1, p, v, hd, hp, f + 1, hf => by
    have h80 := hT.1
    have hr := r_dgt hT (p := p) (by omega)
    cases e : dgt m L p with
    | none =>
      rw [e] at hr
      rw [sX7_numberAt_31, hr, bi_s, show oI none = -1 from rfl, if_pos (by decide)]
      split
      · exact ⟨_, rfl⟩
      · exact ⟨_, rfl⟩
    | some c =>
      obtain ⟨c1, c2, c3⟩ := dgt_some e
      rw [e] at hr
      have hng : ¬ nI c < 0 := nI_pos (by omega)
      rw [sX7_numberAt_31, hr, bi_s, show oI (some c) = nI c from rfl, if_neg hng, bi_s, nI_1]
      exact at_tot hT b d (p + 1) _ (by omega) (by omega) f (by omega)
theorem r_at_tot (hn : 10010 ≤ n) (hT : TxR g m L) (hp : p ≤ 800) : ∃ x, sX7_numberAt n m (nI p) = some x := by
  have h80 := hT.1
  unfold sX7_numberAt
  rw [r_sign hT (by omega), bi_s, nI_1]
  split
  · exact at_tot hT 1 (L + 1) (p + 1) 0 (by omega) (by omega) n (by omega)
  · exact at_tot hT 0 (L + 1) p 0 (by omega) (by omega) n (by omega)
theorem r_arg_tot (hn : 10010 ≤ n) (hT : TxR g m L) (hp : p ≤ 800) : ∃ q, q ≤ max L p + 1 ∧ sX7_argument n m (nI p) = some (nI q) := by
  have h80 := hT.1
  exact arg_tot hT (L + 1) p (by omega) (by omega) n (by omega)
end QF
