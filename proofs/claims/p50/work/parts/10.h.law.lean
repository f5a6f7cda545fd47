/-! the law's helpers that call: does, clocks, isRead -/
theorem and_nn (x : Int32) : 0 ≤ (x &&& (2147483647 : Int32)).toInt := by
  have key : ∀ y : Int32, y.toBitVec.msb = false → 0 ≤ y.toInt := by
    intro y h
    have e : y.toBitVec.msb = decide (y.toBitVec.toInt < 0) := BitVec.msb_eq_toInt
    rw [e] at h
    have q := of_decide_eq_false h
    show 0 ≤ y.toBitVec.toInt
    omega
  refine key _ ?_
  rw [Int32.toBitVec_and, BitVec.msb_and, show (Int32.toBitVec 2147483647).msb = false by decide, Bool.and_false]
theorem z_low (g : Mem) (x : Int32) {m : Nat} (h0 : 0 < m) (hm : m < 2147483648) : ∃ i, i < m ∧ sL_low g x (nI m) = some (nI i) := by
  have h1 := and_nn x
  have h2 := i_hi (x &&& (2147483647 : Int32))
  obtain ⟨a, a1, a2⟩ := ofN (x := x &&& (2147483647 : Int32)) (n := 2147483648) h1 (by omega)
  have hne : ¬ nI m = 0 := fun z => by
    have e := nI_toInt (n := m) (by omega)
    rw [z, l_0] at e
    omega
  refine ⟨a % m, Nat.mod_lt _ h0, ?_⟩
  unfold sL_low
  rw [if_neg hne, a2, pk_rem (by omega) h0 (by omega)]
section VH
variable {bd ub tb : Int} {g g' : Mem} {r r' : Nat → Int32} {n t k s q : Nat} {x v y x5 : Int32}
def Res (bd ub tb : Int) (k : Nat) (x v : Int32) (o : Option (Int32 × Mem)) : Prop := ∃ g1 r1, o = some (1, g1) ∧ Oh (bd + 1) (ub + 40) (tb + 30) g1 r1 k x v
theorem Oh.res (h : Oh bd ub tb g r k x v) (hb : bd + 1 ≤ 4000000) : Oh (bd + 1) (ub + 40) (tb + 30) g r k x v := h.up (by omega) hb (by omega) (by omega)
theorem z_101 (hn : 10010 ≤ n) (hO : Oh bd ub tb g r k x v) (hb : bd + 1 ≤ 4000000) : Res bd ub tb k x v (sL_does_101 n g y (nI (nB r))) := by
  have h40 := hO.1.2.1.b40
  obtain ⟨s, hs, e⟩ := z_low g (y >>> ((5 : Int32) &&& 31)) (m := 3) (by decide) (by decide)
  obtain ⟨g', r', e1, e2⟩ := z_begins hn hO hs
  refine ⟨g', r', ?_, e2.res hb⟩
  unfold sL_does_101
  rw [show sL_low g (y >>> ((5 : Int32) &&& 31)) (3 : Int32) = some (nI s) from e, bi_s, e1, bi2_s]
  by_cases z : nB r = 40
  · have q : nI (nB r) = (40 : Int32) := by rw [z]; rfl
    rw [if_pos z, if_pos q, if_pos rfl]
  · have q : ¬ nI (nB r) = (40 : Int32) := fun e => z ((nI_eq (b := 40) (by omega) (by decide)).mp e)
    rw [if_neg z, if_neg q, if_pos rfl]
/-- whether the transaction is open, as the law has it -/
def Isop (r : Nat → Int32) (t : Nat) (x5 : Int32) : Prop := (x5 = 1 ∧ TX r t 1 = 0) ∨ (x5 = 0 ∧ ¬ TX r t 1 = 0)
theorem c10 : ¬ ((1 : Int32) = 0) := by decide
theorem z_467 (hn : 10010 ≤ n) (hO : Oh bd ub tb g r k x v) (hb : bd + 1 ≤ 4000000) (hub : ub ≤ 1000000) (hT : tb ≤ 900000) : Res bd ub tb k x v (sL_does_467 n g y) := by
  have hC := hO.1.1
  have key : ∀ i, i < 30 → Res bd ub tb k x v (sL_does_499 n g (r 0) ((1 : Int32) + nI i)) := by
    intro i hi
    have e1 : (1 : Int32) + nI i = nI (1 + i) := nI_add 1 i
    obtain ⟨g', r', a, c, a1, a2, a3, a4, a5⟩ := z_adv (L := 1 + i) hn hO hub (by omega) (by omega) (by omega)
    refine ⟨g', r', ?_, a2.up (by omega) hb (by omega) (by omega)⟩
    unfold sL_does_499
    rw [e1, a4, ok1_s, a1, ok2_s, a3, bi_s, if_pos rfl, a5, ok1_s, pk_sub (by omega), Nat.add_sub_cancel_left, if_pos rfl]
  unfold sL_does_467
  rw [x_tm hC, bi_s]
  by_cases z : ((y >>> ((9 : Int32) &&& 31)) &&& (1 : Int32)) = 0
  · obtain ⟨i, hi, e⟩ := z_low g (y >>> ((5 : Int32) &&& 31)) (m := 6) (by decide) (by decide)
    rw [if_pos z, show sL_low g (y >>> ((5 : Int32) &&& 31)) (6 : Int32) = some (nI i) from e, bi_s]
    exact key i (by omega)
  · obtain ⟨i, hi, e⟩ := z_low g (y >>> ((5 : Int32) &&& 31)) (m := 30) (by decide) (by decide)
    rw [if_neg z, show sL_low g (y >>> ((5 : Int32) &&& 31)) (30 : Int32) = some (nI i) from e, bi_s]
    exact key i hi
theorem z_413 (hn : 10010 ≤ n) (hO : Oh bd ub tb g r k x v) (hb : bd + 1 ≤ 4000000) (hub : ub ≤ 1000000) (hT : tb ≤ 900000) (ht : t < nB r) (h5 : Isop r t x5) (x6 : Int32) : Res bd ub tb k x v (sL_does_413 n g y (nI t) x5 x6) := by
  unfold sL_does_413
  by_cases z : x6 = (16 : Int32)
  · rw [if_pos z]
    rcases h5 with ⟨a, b⟩ | ⟨a, b⟩
    · obtain ⟨w, g', r', e1, e2, e3, e4⟩ := z_abortsO hn hO ht b
      refine ⟨g', r', ?_, e2.res hb⟩
      rw [e1, bi2_s, a, if_neg c10, if_neg (by rw [i_lt, l_0]; omega), e4, ok1_s, if_pos rfl]
    · obtain ⟨e1, e2, e3, e4⟩ := z_notO n (q := 0) 0 hO ht (by decide) b (by decide) (by decide)
      refine ⟨g, r, ?_, hO.res hb⟩
      rw [e4, bi2_s, if_pos a, if_pos rfl]
  · rw [if_neg z]
    exact z_467 hn hO hb hub hT
theorem z_311 (hn : 10010 ≤ n) (hO : Oh bd ub tb g r k x v) (hb0 : 3100000 ≤ bd) (hb : bd + 1 ≤ 4000000) (hub : ub ≤ 1000000) (hT : tb ≤ 900000) (ht : t < nB r) (h5 : Isop r t x5) (x6 : Int32) : Res bd ub tb k x v (sL_does_311 n g y (nI t) x5 x6) := by
  have hC := hO.1.1
  have hI := hO.1.2.1
  unfold sL_does_311
  by_cases z : (16 : Int32) ≤ x6
  · rw [if_pos z]
    exact z_413 hn hO hb hub hT ht h5 x6
  · rw [if_neg z, x_ifc hn hI hC ht, ok1_s]
    rcases h5 with ⟨a, b⟩ | ⟨a, b⟩
    · obtain ⟨w, st, g', r', e1, e2, e3, e4, e5⟩ := z_commitsO hn hO hb0 hb hub ht b
      refine ⟨g', r', ?_, e3.up (by omega) (by omega) (by omega) (by omega)⟩
      have m4 : ((-4 : Int32)).toInt = -4 := by decide
      have m2 : ((-2 : Int32)).toInt = -2 := by decide
      have m3 : ((-3 : Int32)).toInt = -3 := by decide
      rw [if_pos b, e1, bi2_s, e4, ok1_s, a, if_neg c10, if_pos e2]
      rcases e5 with ⟨f1, f2⟩ | ⟨f1, f2⟩ | ⟨f1, f2⟩
      · rw [if_pos f1, if_pos f2, if_neg (by rw [f1]; decide)]
      · rw [if_neg (by rw [f1]; decide), if_pos f1, if_pos f2, if_neg (by rw [f1]; decide)]
      · have n2 : ¬ w = -2 := fun q => by rw [q, m2] at f1; omega
        have n3 : ¬ w = -3 := fun q => by rw [q, m3] at f1; omega
        rw [if_neg n2, if_neg n3, if_pos f2, if_neg (by rw [i_le, m4]; omega)]
    · obtain ⟨e1, e2, e3, e4⟩ := z_notO n (q := 0) 0 hO ht (by decide) b (by decide) (by decide)
      refine ⟨g, r, ?_, hO.res hb⟩
      rw [if_neg b, e3, bi2_s, x_st hI hC ht, ok1_s, if_pos a, if_pos rfl, if_pos rfl]
theorem z_234 (hn : 10010 ≤ n) (hO : Oh bd ub tb g r k x v) (hb0 : 3100000 ≤ bd) (hb : bd + 1 ≤ 4000000) (hub : ub ≤ 1000000) (hT : tb ≤ 900000) (ht : t < nB r) (hq : q < 8) (h5 : Isop r t x5) (x6 : Int32) : Res bd ub tb k x v (sL_does_234 n g y (nI t) (nI q) x5 x6) := by
  unfold sL_does_234
  by_cases z : (12 : Int32) ≤ x6
  · rw [if_pos z]
    exact z_311 hn hO hb0 hb hub hT ht h5 x6
  · obtain ⟨i, hi, e⟩ := z_low g (y >>> ((13 : Int32) &&& 31)) (m := 10000) (by decide) (by decide)
    have ei := nI_toInt (n := i) (by omega)
    rw [if_neg z, show sL_low g (y >>> ((13 : Int32) &&& 31)) (10000 : Int32) = some (nI i) from e, bi_s]
    rcases h5 with ⟨a, b⟩ | ⟨a, b⟩
    · obtain ⟨w, g', r', e1, e2, e3, e4⟩ := z_writesO (y := nI i) hn hO ht hq b (by omega) (by omega)
      refine ⟨g', r', ?_, e2.res hb⟩
      have e' : sL_low g' (y >>> ((13 : Int32) &&& 31)) (10000 : Int32) = some (nI i) := e
      rw [e1, bi2_s, a, if_neg c10, if_neg (by rw [i_le, l_0]; omega), e4, ok1_s, e', bi_s, if_pos rfl]
    · obtain ⟨e1, e2, e3, e4⟩ := z_notO n (q := q) (nI i) hO ht hq b (by omega) (by omega)
      refine ⟨g, r, ?_, hO.res hb⟩
      rw [e2, bi2_s, if_pos a, if_pos rfl]
theorem z_216 (hn : 10010 ≤ n) (hO : Oh bd ub tb g r k x v) (hb : bd + 1 ≤ 4000000) (ht : t < nB r) (hq : q < 8) (h0 : TX r t 1 = 0) {due : Int32} (hd : ∀ w : Int32, (if wr r t q = true then w = TX r t (5 + q) else if rd r t q = true then WV r q (TX r t (13 + q)) w else ∀ z : Int32, (g 7 (q * 41 + cv r q)).toInt ≤ z.toInt → WV r q z w) → w = due) : Res bd ub tb k x v (sL_does_216 n g (nI t) (nI q) due) := by
  obtain ⟨w, g', r', e1, e2, e3⟩ := z_readsO hn hO ht hq h0
  refine ⟨g', r', ?_, e2.res hb⟩
  unfold sL_does_216
  rw [e1, bi2_s, if_pos (hd w e3)]
theorem z_133 (hn : 10010 ≤ n) (hO : Oh bd ub tb g r k x v) (hb0 : 3100000 ≤ bd) (hb : bd + 1 ≤ 4000000) (hub : ub ≤ 1000000) (hT : tb ≤ 900000) (ht : t < nB r) (hq : q < 8) (h5 : Isop r t x5) (x6 : Int32) : Res bd ub tb k x v (sL_does_133 n g y (nI t) (nI q) x5 x6) := by
  have hC := hO.1.1
  have hI := hO.1.2.1
  have hV := hC.2.2.1 q hq
  unfold sL_does_133
  by_cases z : (8 : Int32) ≤ x6
  · rw [if_pos z]
    exact z_234 hn hO hb0 hb hub hT ht hq h5 x6
  · rw [if_neg z]
    rcases h5 with ⟨a, b⟩ | ⟨a, b⟩
    · have nw := neg_m1 ((hI.tx ht).2.2.2.2.2 q hq).1
      have nr := neg_m1 ((hI.tx ht).2.2.2.2.2 q hq).2
      rw [a, if_neg c10, x_buf hI hC ht hq, ok1_s]
      unfold sL_does_158
      rw [if_neg c10, x_rec hI hC ht hq, ok1_s]
      unfold sL_does_176
      rw [if_neg c10]
      by_cases ew : TX r t (5 + q) = -1
      · have fw : wr r t q = false := by
          cases e : wr r t q with
          | false => rfl
          | true => exact absurd ew (wr_iff.mp e)
        rw [if_pos (nw.mpr ew)]
        by_cases er : TX r t (13 + q) = -1
        · have fr : rd r t q = false := by
            cases e : rd r t q with
            | false => rfl
            | true => exact absurd er (rd_iff.mp e)
          have l2 : ((2000000000 : Int32)).toInt = 2000000000 := by decide
          obtain ⟨u, u1, u2⟩ := x_val (x := 2000000000) hn hI hC hq (by rw [l2]; decide)
          have vb := vt_b hI hV (Nat.le_refl (cv r q)) hI.bd0
          have vl := hI.bdl
          rw [if_pos (nr.mpr er), u2, ok1_s]
          refine z_216 hn hO hb ht hq b (fun w hw => ?_)
          rw [fw, fr, if_neg (by decide), if_neg (by decide)] at hw
          exact WV_uq hV (hw 2000000000 (by rw [l2]; omega)) u1
        · have fr : rd r t q = true := rd_iff.mpr er
          have e0 : 0 ≤ (TX r t (13 + q)).toInt := ((hI.tx ht).2.2.2.2.2 q hq).2.resolve_left er
          obtain ⟨u, u1, u2⟩ := x_val (x := TX r t (13 + q)) hn hI hC hq e0
          rw [if_neg (fun z => er (nr.mp z)), u2, ok1_s]
          refine z_216 hn hO hb ht hq b (fun w hw => ?_)
          rw [fw, fr, if_neg (by decide), if_pos rfl] at hw
          exact WV_uq hV hw u1
      · have fw : wr r t q = true := wr_iff.mpr ew
        rw [if_neg (fun z => ew (nw.mp z))]
        refine z_216 hn hO hb ht hq b (fun w hw => ?_)
        rw [fw, if_pos rfl] at hw
        exact hw
    · obtain ⟨e1, e2, e3, e4⟩ := z_notO n (q := q) 0 hO ht hq b (by decide) (by decide)
      rw [if_pos a]
      unfold sL_does_158
      rw [if_pos a]
      unfold sL_does_176
      rw [if_pos a]
      refine ⟨g, r, ?_, hO.res hb⟩
      unfold sL_does_216
      rw [e1, bi2_s, if_pos rfl]
theorem z_54 (hn : 10010 ≤ n) (hO : Oh bd ub tb g r k x v) (hb0 : 3100000 ≤ bd) (hb : bd + 1 ≤ 4000000) (hub : ub ≤ 1000000) (hT : tb ≤ 900000) (ht : t < nB r ∨ (nB r = 0 ∧ t = 0)) : Res bd ub tb k x v (sL_does_54 n g y (nI (nB r)) (nI t)) := by
  have hC := hO.1.1
  have hI := hO.1.2.1
  have h40 := hI.b40
  obtain ⟨q, hq, e⟩ := z_low g (y >>> ((11 : Int32) &&& 31)) (m := 4) (by decide) (by decide)
  obtain ⟨h, hh, eh⟩ := z_low g y (m := 20) (by decide) (by decide)
  have eh' : sL_low g y (20 : Int32) = some (nI h) := eh
  unfold sL_does_54 sL_does_80
  rw [show sL_low g (y >>> ((11 : Int32) &&& 31)) (4 : Int32) = some (nI q) from e, bi_s]
  have key : ∀ x5, nB r ≠ 0 → t < nB r → Isop r t x5 → Res bd ub tb k x v (sL_does_83 n g y (nI (nB r)) (nI t) (nI q) x5) := by
    intro x5 hz ht5 h5
    unfold sL_does_83
    rw [eh', bi_s]
    by_cases z : nI h < (4 : Int32)
    · rw [if_pos z]
      exact z_101 hn hO hb
    · have z2 : ¬ nI (nB r) = 0 := fun e => hz ((nI_eq (b := 0) (by omega) (by decide)).mp e)
      rw [if_neg z, if_neg z2]
      exact z_133 hn hO hb0 hb hub hT ht5 (by omega) h5 (nI h)
  rcases ht with ht | ⟨hz, ht⟩
  · have z : ¬ nI (nB r) ≤ 0 := nI_ge (b := nB r) (a := 0) (by omega) (by omega)
    rw [if_neg z, x_st hI hC ht, ok1_s]
    by_cases z2 : TX r t 1 = 0
    · rw [if_pos z2]
      exact key 1 (by omega) ht (Or.inl ⟨rfl, z2⟩)
    · rw [if_neg z2]
      exact key 0 (by omega) ht (Or.inr ⟨rfl, z2⟩)
  · have z : nI (nB r) ≤ 0 := by rw [hz]; decide
    rw [if_pos z]
    unfold sL_does_83
    rw [eh', bi_s]
    have z2 : nI (nB r) = 0 := by rw [hz]; rfl
    by_cases z3 : nI h < (4 : Int32)
    · rw [if_pos z3]
      exact z_101 hn hO hb
    · rw [if_neg z3, if_pos z2]
      exact z_101 hn hO hb
theorem z_does (hn : 10010 ≤ n) (hO : Oh bd ub tb g r k x v) (hb0 : 3100000 ≤ bd) (hb : bd + 1 ≤ 4000000) (hub : ub ≤ 1000000) (hT : tb ≤ 900000) (y : Int32) : Res bd ub tb k x v (sL_does n g y) := by
  have hC := hO.1.1
  have hI := hO.1.2.1
  have h40 := hI.b40
  unfold sL_does
  rw [x_many hI hC, bi_s]
  by_cases z : nB r = 0
  · have z1 : nI (nB r) = 0 := by rw [z]; rfl
    rw [if_pos z1]
    exact z_54 (t := 0) hn hO hb0 hb hub hT (Or.inr ⟨z, rfl⟩)
  · have z1 : ¬ nI (nB r) = 0 := fun e => z ((nI_eq (b := 0) (by omega) (by decide)).mp e)
    rw [if_neg z1]
    have sub : ∀ i, i < nB r → (nI (nB r) - (1 : Int32)) - nI i = nI (nB r - 1 - i) := fun i hi => by
      rw [show nI (nB r) - (1 : Int32) = nI (nB r - 1) from pk_sub (b := 1) (by omega), pk_sub (by omega)]
    by_cases z2 : ((y >>> ((5 : Int32) &&& 31)) &&& (3 : Int32)) = 0
    · obtain ⟨i, hi, e⟩ := z_low g (y >>> ((7 : Int32) &&& 31)) (m := nB r) (by omega) (by omega)
      rw [if_pos z2, e, bi_s]
      exact z_54 hn hO hb0 hb hub hT (Or.inl hi)
    · rw [if_neg z2]
      by_cases z3 : (4 : Int32) ≤ nI (nB r)
      · have z4 : 4 ≤ nB r := (nI_leI (a := 4) (by decide) (by omega)).mp z3
        obtain ⟨i, hi, e⟩ := z_low g (y >>> ((7 : Int32) &&& 31)) (m := 4) (by decide) (by decide)
        rw [if_pos z3, show sL_low g (y >>> ((7 : Int32) &&& 31)) (4 : Int32) = some (nI i) from e, bi_s, sub i (by omega)]
        exact z_54 hn hO hb0 hb hub hT (Or.inl (by omega))
      · obtain ⟨i, hi, e⟩ := z_low g (y >>> ((7 : Int32) &&& 31)) (m := nB r) (by omega) (by omega)
        rw [if_neg z3, e, bi_s, sub i hi]
        exact z_54 hn hO hb0 hb hub hT (Or.inl (by omega))
/-! clocks -/
theorem z_clocks (hn : 10010 ≤ n) (hO : Oh bd ub tb g r k x v) (y : Int32) : ∃ g' r', sL_clocks n g y = some (1, g') ∧ Oh bd ub tb g' r' k x v := by
  obtain ⟨s, hs, es⟩ := z_low g (y >>> ((4 : Int32) &&& 31)) (m := 3) (by decide) (by decide)
  unfold sL_clocks
  rw [show sL_low g (y >>> ((4 : Int32) &&& 31)) (3 : Int32) = some (nI s) from es, bi_s]
  by_cases z0 : (y &&& (15 : Int32)) = 0
  · obtain ⟨i, hi, ei⟩ := z_low g (y >>> ((6 : Int32) &&& 31)) (m := 13) (by decide) (by decide)
    have e1 : (nI i - (6 : Int32)).toInt = (i : Int) - 6 := pk_sub_toInt (b := 6) (by omega) (by decide)
    obtain ⟨g', r', a, b, w, a1, a2, a3, a4, a5, a6, a7⟩ := z_sync (y := nI i - 6) hn hO hs (by omega) (by omega)
    refine ⟨g', r', ?_, a3⟩
    rw [if_pos z0, a1, ok1_s, show sL_low g (y >>> ((6 : Int32) &&& 31)) (13 : Int32) = some (nI i) from ei, bi_s, a2, ok2_s, a4, ok1_s, if_pos a5, ok1_s, a6, bi_s, if_pos a7]
  · rw [if_neg z0]
    by_cases z1 : (y &&& (15 : Int32)) = 1
    · obtain ⟨i, hi, ei⟩ := z_low g (y >>> ((6 : Int32) &&& 31)) (m := 101) (by decide) (by decide)
      have e1 : (nI i - (50 : Int32)).toInt = (i : Int) - 50 := pk_sub_toInt (b := 50) (by omega) (by decide)
      obtain ⟨g', r', a, w, a1, a2, a3, a4, a5, a6⟩ := z_drift (y := nI i - 50) hn hO hs (by omega) (by omega)
      refine ⟨g', r', ?_, a3⟩
      rw [if_pos z1, a1, ok1_s, show sL_low g (y >>> ((6 : Int32) &&& 31)) (101 : Int32) = some (nI i) from ei, bi_s, a2, ok2_s, if_neg (by rw [i_lt, l_m100]; omega), if_neg (by rw [i_lt, l_100]; omega), a4, ok1_s, if_pos rfl]
    · rw [if_neg z1]
      by_cases z2 : (y &&& (15 : Int32)) = 2
      · obtain ⟨i, hi, ei⟩ := z_low g (y >>> ((6 : Int32) &&& 31)) (m := 20) (by decide) (by decide)
        obtain ⟨j, hj, ej⟩ := z_low g (y >>> ((11 : Int32) &&& 31)) (m := 20) (by decide) (by decide)
        have e1 := nI_toInt (n := i) (by omega)
        have e2 := nI_toInt (n := j) (by omega)
        obtain ⟨g', r', w, la, ea, sd, a1, a2, a3, a4, a5, a6, a7, a8⟩ := z_unc (y := nI i) (z := nI j) hn hO hs (by omega) (by omega) (by omega) (by omega)
        refine ⟨g', r', ?_, a2⟩
        rw [if_pos z2, show sL_low g (y >>> ((6 : Int32) &&& 31)) (20 : Int32) = some (nI i) from ei, bi_s, show sL_low g (y >>> ((11 : Int32) &&& 31)) (20 : Int32) = some (nI j) from ej, bi_s, a1, ok2_s, a3, ok1_s, a4, ok1_s, if_pos a5, a6, ok1_s, ok1_s, a7, bi_s]
        by_cases q1 : r 0 < ea
        · have f : sd = false := by
            cases e : sd with
            | false => rfl
            | true => rw [i_lt] at q1; have := a8.mp e; omega
          rw [if_pos q1, f, if_pos (by decide)]
        · rw [if_neg q1, ok1_s, bi_s]
          by_cases q2 : la < r 0
          · have f : sd = false := by
              cases e : sd with
              | false => rfl
              | true => rw [i_lt] at q2; have := a8.mp e; omega
            rw [if_pos q2, f, if_pos (by decide)]
          · have f : sd = true := a8.mpr (by rw [i_lt] at q1 q2; omega)
            rw [if_neg q2, f, if_pos (by decide)]
      · rw [if_neg z2]
        exact ⟨g, r, rfl, hO⟩
/-! a key is read at a timestamp -/
theorem z_isRead (hn : 10010 ≤ n) (hO : Oh bd ub tb g r k x v) (hb0 : 3100000 ≤ bd) (y : Int32) : ∃ g' r' k' x' v', sL_isRead n g y = some (1, g') ∧ Oh bd ub tb g' r' k' x' v' ∧ g' 161 0 = nI k' ∧ g' 161 1 = x' ∧ g' 161 2 = v' := by
  have hC := hO.1.1
  have hI := hO.1.2.1
  have hbd := hI.bdl
  have hsb := sfN_b hI hb0
  have hsg := sf_ge hI hO.2.1.f6
  have hfl := hI.fl
  have hs0 : 0 ≤ (sfN r).toInt := by omega
  have z0 : (0 : Int32) ≤ sfN r := by rw [i_le, l_0]; exact hs0
  obtain ⟨q, hq, eq⟩ := z_low g y (m := 8) (by decide) (by decide)
  have e1 : (sfN r + 1).toInt = (sfN r).toInt + 1 := by rw [i_add (by rw [l_1]; omega) (by rw [l_1]; omega), l_1]
  have eno := z_snapNo (y := sfN r + 1) hn hO hq (by omega) (by omega)
  have key : ∀ p : Nat, (p : Int) ≤ (sfN r).toInt → ∃ g' r' k' x' v', sL_isRead_101 n g (nI q) (r 1) (sfN r - nI p) = some (1, g') ∧ Oh bd ub tb g' r' k' x' v' ∧ g' 161 0 = nI k' ∧ g' 161 1 = x' ∧ g' 161 2 = v' := by
    intro p hp
    have ep := nI_toInt (n := p) (by omega)
    have et : (sfN r - nI p).toInt = (sfN r).toInt - p := by rw [i_sub (by rw [ep]; omega) (by rw [ep]; omega), ep]
    obtain ⟨T, hT⟩ : ∃ z, z = sfN r - nI p := ⟨_, rfl⟩
    rw [← hT] at et ⊢
    obtain ⟨d, d1, d2⟩ := x_val (x := T) hn hI hC hq (by omega)
    have w0 : (0 : Int32).toNatClampNeg = 0 := rfl
    have w1 : (1 : Int32).toNatClampNeg = 1 := rfl
    have w2 : (2 : Int32).toNatClampNeg = 2 := rfl
    have ix : ∀ {α : Type} (j : Nat) (i : Int32) (f : Nat → Option α), i = nI j → j < 3 → sIdx i 3 f = f j := fun j i f hi hj => ix_l j hi hj (by decide)
    obtain ⟨G, hG⟩ : ∃ z, z = mput (mput (mput g 161 0 (nI q)) 161 1 T) 161 2 d := ⟨_, rfl⟩
    have hOG : Oh bd ub tb G r k x v := hO.cg (fun k hk => by rw [hG, mput_ne (by omega), mput_ne (by omega), mput_ne (by omega)])
    obtain ⟨g', r', s1, s2, s3⟩ := z_snap (y := T) hn hOG hb0 hq (by omega) (by omega) d1
    refine ⟨m161 g' G, r', q, T, d, ?_, s2.cg (fun k hk => m161_ne (by omega)), ?_, ?_, ?_⟩
    · unfold sL_isRead_101
      have f1 : sX6_readFloor (m161 g' G) = some (sMax (r 1) T) := by
        rw [← s3]
        unfold sX6_readFloor
        rw [m161_ne (by decide)]
      rw [d2, ok1_s, ix 0 0 _ rfl (by decide), w0, let_s, ix 1 1 _ rfl (by decide), w1, let_s, ix 2 2 _ rfl (by decide), w2, let_s, ← hG, s1, bi2_s, let_s, if_pos rfl, f1, bi_s]
      by_cases z : T ≤ r 1
      · have e : sMax (r 1) T = r 1 := by rw [i_eq, sMax_i]; rw [i_le] at z; omega
        rw [if_pos z, if_pos e]
      · have e : sMax (r 1) T = T := by rw [i_eq, sMax_i]; rw [i_le] at z; omega
        rw [if_neg z, if_pos e]
    · rw [m161_at, hG, mp_at (by decide), mp_at (by decide), mp_eq]
    · rw [m161_at, hG, mp_at (by decide), mp_eq]
    · rw [m161_at, hG, mp_eq]
  have key67 : ∃ g' r' k' x' v', sL_isRead_67 n g y (nI q) (sfN r) (r 1) = some (1, g') ∧ Oh bd ub tb g' r' k' x' v' ∧ g' 161 0 = nI k' ∧ g' 161 1 = x' ∧ g' 161 2 = v' := by
    unfold sL_isRead_67
    rw [if_pos z0]
    by_cases z9 : (9 : Int32) ≤ sfN r
    · obtain ⟨p, hp, ep⟩ := z_low g (y >>> ((3 : Int32) &&& 31)) (m := 9) (by decide) (by decide)
      rw [if_pos z9, show sL_low g (y >>> ((3 : Int32) &&& 31)) (9 : Int32) = some (nI p) from ep, bi_s]
      rw [i_le, show ((9 : Int32)).toInt = 9 by decide] at z9
      exact key p (by omega)
    · obtain ⟨c, c1, c2⟩ := ofN (x := sfN r) (n := 4000001) hs0 (by omega)
      have ec := nI_toInt (n := c) (by omega)
      obtain ⟨p, hp, ep⟩ := z_low g (y >>> ((3 : Int32) &&& 31)) (m := c + 1) (by omega) (by omega)
      have e9 : sfN r + (1 : Int32) = nI (c + 1) := by rw [c2, nI_1]
      rw [if_neg z9, e9, ep, bi_s]
      exact key p (by rw [c2, ec]; omega)
  unfold sL_isRead
  rw [show sL_low g y (8 : Int32) = some (nI q) from eq, bi_s, x_safe hn hI hC, bi_s, x_floor hC, bi_s, eno, bi2_s, let_s, m161_self, if_pos rfl, if_pos z0, x_tus hn hI hC hs0 (Int.le_refl _), ok1_s, if_pos z0, if_pos rfl]
  exact key67
end VH
