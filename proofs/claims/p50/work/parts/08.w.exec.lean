/-! the pure part: a command is executed -/
def Ex (bd' : Int) (n : Nat) (G m : Mem) (p : Nat) : Prop := ∃ ok G' m', sX6_executeCommand n G = some (b2 ok, G') ∧ sX7_executes n m (nI p) = some (b2 ok, m') ∧ RelB bd' G' m' ∧ (∀ k, 17 ≤ k → G' k = G k) ∧ ∀ k, k ≠ 1 → m' k = m k
theorem e97_98 : ((97 : Int32) = 98) ↔ False := by decide
theorem e97_99 : ((97 : Int32) = 99) ↔ False := by decide
theorem e97_114 : ((97 : Int32) = 114) ↔ False := by decide
theorem e97_115 : ((97 : Int32) = 115) ↔ False := by decide
theorem e97_116 : ((97 : Int32) = 116) ↔ False := by decide
theorem e97_119 : ((97 : Int32) = 119) ↔ False := by decide
theorem e98_97 : ((98 : Int32) = 97) ↔ False := by decide
theorem e98_99 : ((98 : Int32) = 99) ↔ False := by decide
theorem e98_114 : ((98 : Int32) = 114) ↔ False := by decide
theorem e98_115 : ((98 : Int32) = 115) ↔ False := by decide
theorem e98_116 : ((98 : Int32) = 116) ↔ False := by decide
theorem e98_119 : ((98 : Int32) = 119) ↔ False := by decide
theorem e99_97 : ((99 : Int32) = 97) ↔ False := by decide
theorem e99_98 : ((99 : Int32) = 98) ↔ False := by decide
theorem e99_114 : ((99 : Int32) = 114) ↔ False := by decide
theorem e99_115 : ((99 : Int32) = 115) ↔ False := by decide
theorem e99_116 : ((99 : Int32) = 116) ↔ False := by decide
theorem e99_119 : ((99 : Int32) = 119) ↔ False := by decide
theorem e114_97 : ((114 : Int32) = 97) ↔ False := by decide
theorem e114_98 : ((114 : Int32) = 98) ↔ False := by decide
theorem e114_99 : ((114 : Int32) = 99) ↔ False := by decide
theorem e114_115 : ((114 : Int32) = 115) ↔ False := by decide
theorem e114_116 : ((114 : Int32) = 116) ↔ False := by decide
theorem e114_119 : ((114 : Int32) = 119) ↔ False := by decide
theorem e115_97 : ((115 : Int32) = 97) ↔ False := by decide
theorem e115_98 : ((115 : Int32) = 98) ↔ False := by decide
theorem e115_99 : ((115 : Int32) = 99) ↔ False := by decide
theorem e115_114 : ((115 : Int32) = 114) ↔ False := by decide
theorem e115_116 : ((115 : Int32) = 116) ↔ False := by decide
theorem e115_119 : ((115 : Int32) = 119) ↔ False := by decide
theorem e116_97 : ((116 : Int32) = 97) ↔ False := by decide
theorem e116_98 : ((116 : Int32) = 98) ↔ False := by decide
theorem e116_99 : ((116 : Int32) = 99) ↔ False := by decide
theorem e116_114 : ((116 : Int32) = 114) ↔ False := by decide
theorem e116_115 : ((116 : Int32) = 115) ↔ False := by decide
theorem e116_119 : ((116 : Int32) = 119) ↔ False := by decide
theorem e119_97 : ((119 : Int32) = 97) ↔ False := by decide
theorem e119_98 : ((119 : Int32) = 98) ↔ False := by decide
theorem e119_99 : ((119 : Int32) = 99) ↔ False := by decide
theorem e119_114 : ((119 : Int32) = 114) ↔ False := by decide
theorem e119_115 : ((119 : Int32) = 115) ↔ False := by decide
theorem e119_116 : ((119 : Int32) = 116) ↔ False := by decide
section QI
variable {bd bd' : Int} {g m m' G G1 G2 : Mem} {r : Nat → Int32} {n L p q i f j t v : Nat} {c x : Int32}
theorem i03 {α : Type} {x : Option α} : (sIdx (0 : Int32) 3 fun _ => x) = x := ix_e 0 rfl (by decide) (by decide)
theorem i13 {α : Type} {x : Option α} : (sIdx (1 : Int32) 3 fun _ => x) = x := ix_e 1 rfl (by decide) (by decide)
theorem i23 {α : Type} {x : Option α} : (sIdx (2 : Int32) 3 fun _ => x) = x := ix_e 2 rfl (by decide) (by decide)
theorem ex_no (hB : RelB bd G m) (hb : bd ≤ bd') (h4 : bd' ≤ 4000000) (h1 : sX6_executeCommand n G = some (0, G)) (h2 : sX7_executes n m (nI p) = some (0, m)) : Ex bd' n G m p := ⟨false, G, m, h1, h2, hB.mono hb h4, fun _ _ => rfl, fun _ _ => rfl⟩
theorem ex_st {cl rf : Option (Int32 × Mem)} (hB : RelB bd G m) (hb : bd ≤ bd') (h4 : bd' ≤ 4000000) (hS : StO bd G m cl rf) (h1 : sX6_executeCommand n G = sBi2 cl fun _ g => some (1, g)) (h2 : sX7_executes n m (nI p) = sBi2 rf fun _ g => some (1, g)) : Ex bd' n G m p := by
  obtain ⟨v, G', m', a1, a2, a3, a4, a5, a6⟩ := hS
  rw [a1, bi2_s] at h1
  rw [a2, bi2_s] at h2
  exact ⟨true, G', m', h1, h2, (hB.st (Int.le_refl _) a3 a4 a5 a6).mono hb h4, a5, a6⟩
theorem isS (hv : v < 3) : sX7_isServer m (nI v) = some 1 := by
  have e := nI_toInt (n := v) (by omega)
  unfold sX7_isServer
  rw [r_in, bi_s, l_0, show ((2 : Int32)).toInt = 2 by decide, e, decide_eq_true (by omega)]
  rfl
theorem isK (hv : v < 8) : sX7_isKey m (nI v) = some 1 := by
  have e := nI_toInt (n := v) (by omega)
  unfold sX7_isKey
  rw [r_in, bi_s, l_0, show ((7 : Int32)).toInt = 7 by decide, e, decide_eq_true (by omega)]
  rfl
theorem isT (h : Inv bd (m 1)) (ht : t < 40) : sX7_isTransaction m (nI t) = some (b2 (decide (t < nB (m 1)))) := by
  have hb := h.b40
  unfold sX7_isTransaction
  have e3 := nI_toInt (n := nB (m 1)) (by omega)
  have et := nI_toInt (n := t) (by omega)
  have e4 : (nI (nB (m 1)) - 1).toInt = (nB (m 1) : Int) - 1 := by rw [i_sub (by rw [e3, l_1]; omega) (by rw [e3, l_1]; omega), e3, l_1]
  rw [r_i3, c_3, r_in, bi_s, l_0, h.r3, e4, et]
  congr 2
  exact decide_eq_decide.mpr ⟨fun w => by omega, fun w => by omega⟩
theorem k_open2 (h : Inv bd r) (hC : Cls g 0 r) (ht : t < 40) : sX4_isOpen g 9 (nI t) = some (b2 (decide (t < nB r ∧ TX r t 1 = 0))) := by
  by_cases z : t < nB r
  · rw [k_open h hC z]
    congr 2
    exact decide_eq_decide.mpr ⟨fun w => ⟨z, w⟩, fun w => w.2⟩
  · have hle : nI (nB r) ≤ nI t := nI_le (by omega) (by omega)
    have hp : ¬ nI t < 0 := nI_pos (by omega)
    rw [decide_eq_false (fun w => z w.1)]
    simp only [sX4_isOpen, hp, if_false, k_b hC h, hle, if_true]
    rfl
theorem r_wn (h : Inv bd (m 1)) (ht : t < 40) : ∃ w, sX7_whyNot m (nI t) = some w ∧ (w = 0 ↔ (t < nB (m 1) ∧ TX (m 1) t 1 = 0)) := by
  unfold sX7_whyNot
  rw [isT h ht, bi_s, b2_ite]
  by_cases z : t < nB (m 1)
  · rw [decide_eq_true z, if_pos rfl, r_of1 ht, bi_s]
    by_cases y : TX (m 1) t 1 = 0
    · rw [if_pos y]
      exact ⟨0, rfl, fun _ => ⟨z, y⟩, fun _ => rfl⟩
    · rw [if_neg y]
      exact ⟨2, rfl, fun w => absurd w (by decide), fun w => absurd w.2 y⟩
  · rw [decide_eq_false z, if_neg (by decide)]
    exact ⟨1, rfl, fun w => absurd w (by decide), fun w => absurd w.1 z⟩
/-- the numbers that are not there are read all the same -/
theorem rd_1 (hn : 10010 ≤ n) (hT : TxR g m L) (hp : p < L) : ∃ e r9 e2 r18, sX7_argument n m (nI p) = some (nI e) ∧ sX7_numberAt n m (nI e) = some r9 ∧ sX7_argument n m (nI e) = some (nI e2) ∧ sX7_numberAt n m (nI e2) = some r18 := by
  have h80 := hT.1
  obtain ⟨e, a1, a2⟩ := r_arg_tot hn hT (p := p) (by omega)
  obtain ⟨r9, a3⟩ := r_at_tot hn hT (p := e) (by omega)
  obtain ⟨e2, a4, a5⟩ := r_arg_tot hn hT (p := e) (by omega)
  obtain ⟨r18, a6⟩ := r_at_tot hn hT (p := e2) (by omega)
  exact ⟨e, r9, e2, r18, a2, a3, a5, a6⟩
theorem rd_2 (hn : 10010 ≤ n) (hT : TxR g m L) (hp : p ≤ L + 1) : ∃ e2 r18, sX7_argument n m (nI p) = some (nI e2) ∧ sX7_numberAt n m (nI e2) = some r18 := by
  have h80 := hT.1
  obtain ⟨e2, a4, a5⟩ := r_arg_tot hn hT (p := p) (by omega)
  obtain ⟨r18, a6⟩ := r_at_tot hn hT (p := e2) (by omega)
  exact ⟨e2, r18, a5, a6⟩
theorem sg_l (hT : TxR g m L) (hp : p < L) (hc : m 5 p = c) : sX7_sign m (nI p) = some c := by
  have h80 := hT.1
  rw [r_sign hT (by omega)]
  unfold sgn
  rw [if_pos hp, hc]
theorem ex_b (hn : 10010 ≤ n) (hB : RelB bd G m) (hb : bd ≤ bd') (h4 : bd' ≤ 4000000) (hT : TxR G m L) (hp : p < L) (hq : dgt m L q = none) (g1 : G 157 1 = m 5 p) (hc : m 5 p = 98) (hm : Cm1 n m G L p q 0 2) : Ex bd' n G m p := by
  obtain ⟨v, -, v2, e0, e1⟩ := hm
  have e1 := e1 hq
  have hC := hB.1
  have hI := hB.2.1
  have h40 := hI.b40
  rw [hc] at g1
  have hs := sg_l hT hp hc
  obtain ⟨e, r9, e2, r18, a2, a3, a5, a6⟩ := rd_1 hn hT hp
  by_cases z : nB (m 1) < 40
  · have q1 : ¬ (40 : Int32) ≤ nI (nB (m 1)) := nI_ge (b := 40) z (by decide)
    have q2 : (nI (nB (m 1)) = (40 : Int32)) ↔ False := by rw [show (40 : Int32) = nI 40 from rfl, nI_eq (by omega) (by decide)]; exact ⟨fun w => by omega, False.elim⟩
    refine ex_st hB hb h4 (op_begin (s := v) hn hC hI z (by omega)) ?_ ?_
    · simp only [sX6_executeCommand, sX6_canExecute, i03, c_0, g1, e0, e98_97, e98_99, e98_114, e98_115, e98_116, e98_119, i10, i20, i30, if_true, if_false, sX2_canBegin, Nat.zero_add, k_b hC hI, q1, bi_s]
    · simp only [sX7_executes, nI_1, e1, a2, a3, a5, a6, hs, bi_s, e98_97, e98_99, e98_114, e98_115, e98_116, e98_119, i10, i20, i30, if_true, sX7_whyNotBegin, isS (show v < 3 by omega), if_false, r_i3, c_3, hI.r3, q2]
  · have q1 : (40 : Int32) ≤ nI (nB (m 1)) := nI_le (a := 40) (by omega) (by omega)
    have q2 : nI (nB (m 1)) = (40 : Int32) := by rw [show nB (m 1) = 40 by omega]; rfl
    refine ex_no hB hb h4 ?_ ?_
    · simp only [sX6_executeCommand, sX6_canExecute, i03, c_0, g1, e98_97, e98_99, e98_114, e98_115, e98_116, e98_119, i10, i20, i30, if_true, if_false, sX2_canBegin, Nat.zero_add, k_b hC hI, q1, bi_s]
    · simp only [sX7_executes, nI_1, e1, a2, a3, a5, a6, hs, bi_s, e98_97, e98_99, e98_114, e98_115, e98_116, e98_119, i10, i20, i30, if_true, sX7_whyNotBegin, isS (show v < 3 by omega), if_false, r_i3, c_3, hI.r3, q2]
theorem ex_t (hn : 10010 ≤ n) (hB : RelB bd G m) (hb : bd ≤ bd') (h4 : bd' ≤ 4000000) (hT : TxR G m L) (hp : p < L) (hq : dgt m L q = none) (g1 : G 157 1 = m 5 p) (hc : m 5 p = 116) (hm : Cm1 n m G L p q 1 1000) : Ex bd' n G m p := by
  obtain ⟨v, v1, v2, e0, e1⟩ := hm
  have e1 := e1 hq
  have hC := hB.1
  have hI := hB.2.1
  have htm := hI.tm
  rw [hc] at g1
  have hs := sg_l hT hp hc
  obtain ⟨e, r9, e2, r18, a2, a3, a5, a6⟩ := rd_1 hn hT hp
  have l1k : ((1000000 : Int32)).toInt = 1000000 := by decide
  have es := (tm_c hI (c := v) (by omega)).2
  have ev := nI_toInt (n := v) (by omega)
  have hin : sX7_in m (nI v) (1 : Int32) (1000 : Int32) = some 1 := by
    rw [r_in, l_1, l_1000, ev, decide_eq_true (by omega)]
    rfl
  by_cases z : (m 1 0).toInt + v ≤ 1000000
  · have q1 : ¬ (1000000 : Int32) < m 1 0 + nI v := by rw [i_lt, l1k, es]; omega
    have q2 : m 1 0 + nI v ≤ (1000000 : Int32) := by rw [i_le, l1k, es]; omega
    refine ex_st hB hb h4 (op_adv (L := v) hn hC hI v2 z) ?_ ?_
    · simp only [sX6_executeCommand, sX6_canExecute, i03, c_0, g1, e0, e116_97, e116_98, e116_99, e116_114, e116_115, e116_119, i10, i20, i30, if_true, if_false, sX2_canAdvance, k_t0 hC, q1, bi_s]
    · simp only [sX7_executes, nI_1, e1, a2, a3, a5, a6, hs, bi_s, e116_97, e116_98, e116_99, e116_114, e116_115, e116_119, i10, i20, i30, if_true, sX7_whyNotAdvance, hin, if_false, r_i0, c_0, q2]
  · have q1 : (1000000 : Int32) < m 1 0 + nI v := by rw [i_lt, l1k, es]; omega
    have q2 : ¬ m 1 0 + nI v ≤ (1000000 : Int32) := by rw [i_le, l1k, es]; omega
    refine ex_no hB hb h4 ?_ ?_
    · simp only [sX6_executeCommand, sX6_canExecute, i03, c_0, g1, e0, e116_97, e116_98, e116_99, e116_114, e116_115, e116_119, i10, i20, i30, if_true, if_false, sX2_canAdvance, k_t0 hC, q1, bi_s]
    · simp only [sX7_executes, nI_1, e1, a2, a3, a5, a6, hs, bi_s, e116_97, e116_98, e116_99, e116_114, e116_115, e116_119, i10, i20, i30, if_true, sX7_whyNotAdvance, hin, if_false, r_i0, c_0, q2]
theorem ex_s (hn : 10010 ≤ n) (hB : RelB bd G m) (hb : bd ≤ bd') (h4 : bd' ≤ 4000000) (hT : TxR G m L) (hp : p < L) (hq : dgt m L q = none) (g1 : G 157 1 = m 5 p) (hc : m 5 p = 115) (hm : CmS n m G L p q) : Ex bd' n G m p := by
  obtain ⟨v, e, x, v2, x1, x2, he, e0, e3, e1, a2, a3⟩ := hm
  have a3 := a3 hq
  have hC := hB.1
  have hI := hB.2.1
  rw [hc] at g1
  have hs := sg_l hT hp hc
  obtain ⟨e2, r18, a5, a6⟩ := rd_2 hn hT (p := e + 1) (by omega)
  have hin : sX7_in m x (-500 : Int32) (500 : Int32) = some 1 := by
    rw [r_in, l_m500, l_500, decide_eq_true ⟨x1, x2⟩]
    rfl
  refine ex_st hB hb h4 (op_sync (s := v) (x := x) hC hI (by omega) x1 x2) ?_ ?_
  · simp only [sX6_executeCommand, sX6_canExecute, i03, i13, c_0, c_1, g1, e0, e3, e115_97, e115_98, e115_99, e115_114, e115_116, e115_119, i10, i20, i30, if_true, if_false, bi_s]
  · simp only [sX7_executes, nI_1, e1, a2, a3, a5, a6, hs, bi_s, e115_97, e115_98, e115_99, e115_114, e115_116, e115_119, i10, i20, i30, if_true, sX7_whyNotSynchronize, isS (show v < 3 by omega), hin, if_false]
theorem ex_r (hn : 10010 ≤ n) (hB : RelB bd G m) (hb : bd ≤ bd') (h4 : bd' ≤ 4000000) (hT : TxR G m L) (hp : p < L) (hq : dgt m L q = none) (g1 : G 157 1 = m 5 p) (hc : m 5 p = 114) (hm : Cm2 n m G L p q) : Ex bd' n G m p := by
  obtain ⟨v, k, e, v2, k2, he, e0, e3, e1, a2, a3⟩ := hm
  have a3 := a3 hq
  have hC := hB.1
  have hI := hB.2.1
  rw [hc] at g1
  have hs := sg_l hT hp hc
  obtain ⟨e2, r18, a5, a6⟩ := rd_2 hn hT (p := e + 1) (by omega)
  obtain ⟨w, w1, w2⟩ := r_wn (t := v) hI (by omega)
  have hO := k_open2 (t := v) hI hC (by omega)
  by_cases z : v < nB (m 1) ∧ TX (m 1) v 1 = 0
  · have hw : w = 0 := w2.mpr z
    subst hw
    rw [decide_eq_true z, b2_t] at hO
    refine ex_st hB hb h4 (op_read (t := v) (k := k) hn hC hI z.1 z.2 (by omega)) ?_ ?_
    · simp only [sX6_executeCommand, sX6_canExecute, i03, i13, c_0, c_1, g1, e0, e3, e114_97, e114_98, e114_99, e114_115, e114_116, e114_119, i10, i20, i30, if_true, if_false, Nat.zero_add, hO, bi_s]
    · simp only [sX7_executes, nI_1, e1, a2, a3, a5, a6, hs, bi_s, e114_97, e114_98, e114_99, e114_115, e114_116, e114_119, i10, i20, i30, if_true, sX7_whyNotRead, isK (show k < 8 by omega), w1, if_false]
  · have hw : (w = 0) ↔ False := ⟨fun y => z (w2.mp y), False.elim⟩
    rw [decide_eq_false z, b2_f] at hO
    refine ex_no hB hb h4 ?_ ?_
    · simp only [sX6_executeCommand, sX6_canExecute, i03, c_0, g1, e0, e114_97, e114_98, e114_99, e114_115, e114_116, e114_119, i10, i20, i30, if_true, if_false, Nat.zero_add, hO, bi_s]
    · simp only [sX7_executes, nI_1, e1, a2, a3, a5, a6, hs, bi_s, e114_97, e114_98, e114_99, e114_115, e114_116, e114_119, i10, i20, i30, if_true, sX7_whyNotRead, isK (show k < 8 by omega), w1, if_false, hw]
theorem ex_w (hn : 10010 ≤ n) (hB : RelB bd G m) (hb : bd ≤ bd') (h4 : bd' ≤ 4000000) (hT : TxR G m L) (hp : p < L) (hq : dgt m L q = none) (g1 : G 157 1 = m 5 p) (hc : m 5 p = 119) (hm : Cm3 n m G L p q) : Ex bd' n G m p := by
  obtain ⟨v, k, u, e, e2, v2, k2, u2, he, he2, e0, e3, e4, e1, a2, a3, a5, a6⟩ := hm
  have a6 := a6 hq
  have hC := hB.1
  have hI := hB.2.1
  rw [hc] at g1
  have hs := sg_l hT hp hc
  have eu := nI_toInt (n := u) (by omega)
  have hin : sX7_in m (nI u) (0 : Int32) (9999 : Int32) = some 1 := by
    rw [r_in, l_0, show ((9999 : Int32)).toInt = 9999 by decide, eu, decide_eq_true (by omega)]
    rfl
  have hO := k_open2 (t := v) hI hC (by omega)
  have hV := isT (t := v) hI (by omega)
  by_cases z : v < nB (m 1) ∧ TX (m 1) v 1 = 0
  · rw [decide_eq_true z, b2_t] at hO
    rw [decide_eq_true z.1, b2_t] at hV
    refine ex_st hB hb h4 (op_write (t := v) (k := k) (x := nI u) hn hC hI z.1 z.2 (by omega) (by rw [eu]; omega)) ?_ ?_
    · simp only [sX6_executeCommand, sX6_canExecute, i03, i13, i23, c_0, c_1, c_2, g1, e0, e3, e4, e119_97, e119_98, e119_99, e119_114, e119_115, e119_116, i10, i20, i30, if_true, if_false, Nat.zero_add, hO, bi_s]
    · simp only [sX7_executes, nI_1, e1, a2, a3, a5, a6, hs, bi_s, e119_97, e119_98, e119_99, e119_114, e119_115, e119_116, i10, i20, i30, if_true, sX7_whyNotWrite, hV, isK (show k < 8 by omega), hin, r_of1 (show v < 40 by omega), z.2, if_false]
  · rw [decide_eq_false z, b2_f] at hO
    refine ex_no hB hb h4 ?_ ?_
    · simp only [sX6_executeCommand, sX6_canExecute, i03, c_0, g1, e0, e119_97, e119_98, e119_99, e119_114, e119_115, e119_116, i10, i20, i30, if_true, if_false, Nat.zero_add, hO, bi_s]
    · by_cases y : v < nB (m 1)
      · have y2 : ¬ TX (m 1) v 1 = 0 := fun w => z ⟨y, w⟩
        rw [decide_eq_true y, b2_t] at hV
        simp only [sX7_executes, nI_1, e1, a2, a3, a5, a6, hs, bi_s, e119_97, e119_98, e119_99, e119_114, e119_115, e119_116, i10, i20, i30, if_true, sX7_whyNotWrite, hV, isK (show k < 8 by omega), hin, r_of1 (show v < 40 by omega), y2, if_false]
      · rw [decide_eq_false y, b2_f] at hV
        simp only [sX7_executes, nI_1, e1, a2, a3, a5, a6, hs, bi_s, e119_97, e119_98, e119_99, e119_114, e119_115, e119_116, i10, i20, i30, if_true, sX7_whyNotWrite, hV, if_false]
theorem ex_a (hn : 10010 ≤ n) (hB : RelB bd G m) (hb : bd ≤ bd') (h4 : bd' ≤ 4000000) (hT : TxR G m L) (hp : p < L) (hq : dgt m L q = none) (g1 : G 157 1 = m 5 p) (hc : m 5 p = 97) (hm : Cm1 n m G L p q 0 39) : Ex bd' n G m p := by
  obtain ⟨v, -, v2, e0, e1⟩ := hm
  have e1 := e1 hq
  have hC := hB.1
  have hI := hB.2.1
  rw [hc] at g1
  have hs := sg_l hT hp hc
  obtain ⟨e, r9, e2, r18, a2, a3, a5, a6⟩ := rd_1 hn hT hp
  obtain ⟨w, w1, w2⟩ := r_wn (t := v) hI (by omega)
  have hO := k_open2 (t := v) hI hC (by omega)
  by_cases z : v < nB (m 1) ∧ TX (m 1) v 1 = 0
  · have hw : w = 0 := w2.mpr z
    subst hw
    rw [decide_eq_true z, b2_t] at hO
    obtain ⟨G', m', b1, b2', b3, b4, b5, b6, b7⟩ := op_abort (t := v) hn hC hI z.1 z.2
    refine ⟨true, G', m', ?_, ?_, (hB.st (Int.le_refl _) b3 b4 b5 b6).mono hb h4, b5, b6⟩
    · simp only [sX6_executeCommand, sX6_canExecute, i03, c_0, g1, e0, e97_98, e97_99, e97_114, e97_115, e97_116, e97_119, i10, i20, i30, if_true, if_false, Nat.zero_add, hO, bi_s, b1, bi2_s]
      rfl
    · simp only [sX7_executes, nI_1, e1, a2, a3, a5, a6, hs, bi_s, e97_98, e97_99, e97_114, e97_115, e97_116, e97_119, i10, i20, i30, if_true, w1, if_false, sX7_ends, b2']
      rfl
  · have hw : (w = 0) ↔ False := ⟨fun y => z (w2.mp y), False.elim⟩
    rw [decide_eq_false z, b2_f] at hO
    refine ex_no hB hb h4 ?_ ?_
    · simp only [sX6_executeCommand, sX6_canExecute, i03, c_0, g1, e0, e97_98, e97_99, e97_114, e97_115, e97_116, e97_119, i10, i20, i30, if_true, if_false, Nat.zero_add, hO, bi_s]
    · simp only [sX7_executes, nI_1, e1, a2, a3, a5, a6, hs, bi_s, e97_98, e97_99, e97_114, e97_115, e97_116, e97_119, i10, i20, i30, if_true, w1, if_false, sX7_ends, hw]
theorem ex_c (hn : 10010 ≤ n) (hB : RelB bd G m) (hb : bd + 1 ≤ bd') (hlo : 3100000 ≤ bd) (h4 : bd' ≤ 4000000) (hT : TxR G m L) (hp : p < L) (hq : dgt m L q = none) (g1 : G 157 1 = m 5 p) (hc : m 5 p = 99) (hm : Cm1 n m G L p q 0 39) : Ex bd' n G m p := by
  obtain ⟨v, -, v2, e0, e1⟩ := hm
  have e1 := e1 hq
  have hC := hB.1
  have hI := hB.2.1
  rw [hc] at g1
  have hs := sg_l hT hp hc
  obtain ⟨e, r9, e2, r18, a2, a3, a5, a6⟩ := rd_1 hn hT hp
  obtain ⟨w, w1, w2⟩ := r_wn (t := v) hI (by omega)
  have hO := k_open2 (t := v) hI hC (by omega)
  by_cases z : v < nB (m 1) ∧ TX (m 1) v 1 = 0
  · have hw : w = 0 := w2.mpr z
    subst hw
    rw [decide_eq_true z, b2_t] at hO
    have o1 := k_oc (t := v) hn hI hC z.1
    have o2 := r_oc (t := v) hn hI hC z.1
    by_cases y : oc G (m 1) v = -3
    · rw [y] at o1 o2
      refine ⟨true, G, m, ?_, ?_, hB.mono (by omega) h4, fun _ _ => rfl, fun _ _ => rfl⟩
      · simp only [sX6_executeCommand, sX6_canExecute, i03, c_0, g1, e0, e99_97, e99_98, e99_114, e99_115, e99_116, e99_119, i10, i20, i30, if_true, if_false, Nat.zero_add, hO, bi_s, o1, sX2_carryOut]
        rfl
      · simp only [sX7_executes, nI_1, e1, a2, a3, a5, a6, hs, bi_s, e99_97, e99_98, e99_114, e99_115, e99_116, e99_119, i10, i20, i30, if_true, w1, if_false, sX7_ends, o2]
        rfl
    · have y' : (oc G (m 1) v = -3) ↔ False := ⟨y, False.elim⟩
      obtain ⟨G', m', b1, b2', b3, b4, b5, b6⟩ := op_req (t := v) hn hC hI hlo (by omega) z.1 z.2 y
      refine ⟨true, G', m', ?_, ?_, (hB.st (by omega) b3 b4 b5 b6).mono hb h4, b5, b6⟩
      · simp only [sX6_executeCommand, sX6_canExecute, i03, c_0, g1, e0, e99_97, e99_98, e99_114, e99_115, e99_116, e99_119, i10, i20, i30, if_true, if_false, Nat.zero_add, hO, bi_s, o1, b1]
        rfl
      · simp only [sX7_executes, nI_1, e1, a2, a3, a5, a6, hs, bi_s, e99_97, e99_98, e99_114, e99_115, e99_116, e99_119, i10, i20, i30, if_true, w1, if_false, sX7_ends, o2, y', b2']
        rfl
  · have hw : (w = 0) ↔ False := ⟨fun y => z (w2.mp y), False.elim⟩
    rw [decide_eq_false z, b2_f] at hO
    refine ex_no hB (by omega) h4 ?_ ?_
    · simp only [sX6_executeCommand, sX6_canExecute, i03, c_0, g1, e0, e99_97, e99_98, e99_114, e99_115, e99_116, e99_119, i10, i20, i30, if_true, if_false, Nat.zero_add, hO, bi_s]
    · simp only [sX7_executes, nI_1, e1, a2, a3, a5, a6, hs, bi_s, e99_97, e99_98, e99_114, e99_115, e99_116, e99_119, i10, i20, i30, if_true, w1, if_false, sX7_ends, hw]
theorem ex_all (hn : 10010 ≤ n) (hB : RelB bd G m) (hlo : 3100000 ≤ bd) (h4 : bd + 1 ≤ 4000000) (hT : TxR G m L) (hp : p < L) (hq : dgt m L q = none) (g1 : G 157 1 = m 5 p) (hm : Cmd n m G L p q) : Ex (bd + 1) n G m p := by
  rcases hm with ⟨hc, hm⟩ | ⟨hc, hm⟩ | ⟨hc, hm⟩ | ⟨hc, hm⟩ | ⟨hc, hm⟩ | ⟨hc, hm⟩ | ⟨hc, hm⟩
  · exact ex_a hn hB (by omega) h4 hT hp hq g1 hc hm
  · exact ex_b hn hB (by omega) h4 hT hp hq g1 hc hm
  · exact ex_c hn hB (Int.le_refl _) hlo h4 hT hp hq g1 hc hm
  · exact ex_r hn hB (by omega) h4 hT hp hq g1 hc hm
  · exact ex_s hn hB (by omega) h4 hT hp hq g1 hc hm
  · exact ex_t hn hB (by omega) h4 hT hp hq g1 hc hm
  · exact ex_w hn hB (by omega) h4 hT hp hq g1 hc hm
end QI
