/-! the pure part: the calls that change the state -/
section QC
variable {g m : Mem} {n t k s j : Nat}
/-- the state before the call is saved on both sides -/
theorem sv_both (hn : 10010 ≤ n) (hR : Rel j g m) : ∃ g1 m2, sX0_push n g 0 = some g1 ∧ sX7_saves n (mput m 0 7 0) = some m2 ∧ RelB (bdj j) g1 m2 ∧ m2 1 = m 1 ∧ m2 0 7 = 0 ∧ ∀ k, k < 17 → g1 k = g k := by
  obtain ⟨g1, m2, a1, a2, a3, a4, a5, a6, a7⟩ := op_push hn (hR.thr (v := 0)).1
  exact ⟨g1, m2, a1, a2, a3, by rw [a5 1 (by decide) (by decide), th_m (by decide)], by rw [a4 7 (by decide), th_q], a6⟩
theorem bdj_lo : 3100000 ≤ bdj j := by unfold bdj; omega
theorem bdj_1 : bdj j + 1 ≤ bdj (j + 1) := by unfold bdj; omega
theorem Rel.to {bd : Int} (h : RelB bd g m) (hb : bd ≤ bdj (j + 1)) (hj : j ≤ 512) : Rel (j + 1) g m := ⟨h.mono hb (bdj_le (by omega)), by omega⟩
theorem q_begin (hn : 10010 ≤ n) (hj : j ≤ 512) : sim_begin (Rel j) (Rel (j + 1)) n := by
  intro g m x hR
  rcases srv_c x g m with ⟨s, hs, rfl, e1, e2⟩ | ⟨e1, e2⟩
  · have hC0 := hR.1.1
    have hI0 := hR.1.2.1
    have hb := hI0.b40
    by_cases z : nB (m 1) < 40
    · obtain ⟨g1, m2, a1, a2, a3, a4, a5, a6⟩ := sv_both hn hR
      obtain ⟨v, g2, m3, b1, b2, b3, b4, b5, b6⟩ := op_begin (s := s) hn a3.1 a3.2.1 (by rw [a4]; exact z) hs
      have q1 : ¬ (40 : Int32) ≤ nI (nB (m 1)) := nI_ge (b := 40) z (by decide)
      have q2 : ¬ nI (nB (m 1)) = (40 : Int32) := by rw [show (40 : Int32) = nI 40 from rfl, nI_eq (by omega) (by decide)]; omega
      refine ⟨(0, v, g2), (v, m3), ?_, ?_, Rel.of (a3.st (Int.le_refl _) b3 b4 b5 b6) hj, Or.inl ⟨rfl, (congrFun (b6 0 (by decide)) 7).trans a5, rfl⟩⟩
      · simp only [sX6_begin, e1, rq_0, sX2_canBegin, Nat.zero_add, k_b hC0 hI0, q1, if_false, bi_s, i10, a1, b1, bi2_s]
      · simp only [sX7_begin, sX7_whyNotBegin, e2, bi_s, i10, if_false, r_i3, c_3, hI0.r3, q2, th_0, bi2_s, if_true, a2, b2]
    · have q1 : (40 : Int32) ≤ nI (nB (m 1)) := nI_le (a := 40) (by omega) (by omega)
      have q2 : nI (nB (m 1)) = (40 : Int32) := by rw [show nB (m 1) = 40 by omega]; rfl
      obtain ⟨m1, hm⟩ : ∃ z, z = mput m 0 7 2 := ⟨_, rfl⟩
      refine ⟨(3, 0, g), (0, m1), ?_, ?_, by rw [hm]; exact hR.mono hj 2, Or.inr (Or.inr ⟨rfl, th_e hm⟩)⟩
      · simp only [sX6_begin, e1, rq_0, sX2_canBegin, Nat.zero_add, k_b hC0 hI0, q1, if_true, bi_s]
      · simp only [sX7_begin, sX7_whyNotBegin, e2, bi_s, i10, if_false, r_i3, c_3, hI0.r3, q2, if_true, th_2, bi2_s, ← hm]
  · obtain ⟨m1, hm⟩ : ∃ z, z = mput m 0 7 1 := ⟨_, rfl⟩
    refine ⟨(1, 0, g), (0, m1), ?_, ?_, by rw [hm]; exact hR.mono hj 1, Or.inr (Or.inl ⟨rfl, th_e hm⟩)⟩
    · simp only [sX6_begin, e1, rq_1]
    · simp only [sX7_begin, sX7_whyNotBegin, e2, bi_s, if_true, th_1, bi2_s, i10, if_false, ← hm]
theorem op_open (hR : Rel j g m) (ht : t < nB (m 1)) : sX6_requireOpen g (nI t) = some (if TX (m 1) t 1 = 0 then 0 else 3) := by
  unfold sX6_requireOpen
  rw [Nat.zero_add, k_open hR.1.2.1 hR.1.1 ht, bi_s, b2_ite]
  by_cases z : TX (m 1) t 1 = 0
  · rw [if_pos z, decide_eq_true z, if_pos rfl]
  · rw [if_neg z, decide_eq_false z, if_neg (by decide)]
theorem q_read (hn : 10010 ≤ n) (hj : j ≤ 512) : sim_read (Rel j) (Rel (j + 1)) n := by
  intro g m x y hR
  have hC0 := hR.1.1
  have hI0 := hR.1.2.1
  have hb := hI0.b40
  rcases tr_c x hI0 hC0 with ⟨t, ht, rfl, e1, e2⟩ | ⟨e1, e2⟩
  · rcases key_c y g m with ⟨k, hk, rfl, f1, f2⟩ | ⟨f1, f2⟩
    · by_cases z : TX (m 1) t 1 = 0
      · obtain ⟨g1, m2, a1, a2, a3, a4, a5, a6⟩ := sv_both hn hR
        obtain ⟨v, g2, m3, b1, b2, b3, b4, b5, b6⟩ := op_read (t := t) (k := k) hn a3.1 a3.2.1 (by rw [a4]; exact ht) (by rw [a4]; exact z) hk
        refine ⟨(0, v, g2), (v, m3), ?_, ?_, Rel.of (a3.st (Int.le_refl _) b3 b4 b5 b6) hj, Or.inl ⟨rfl, (congrFun (b6 0 (by decide)) 7).trans a5, rfl⟩⟩
        · simp only [sX6_read, e1, f1, rq_0, op_open hR ht, z, if_true, a1, b1, bi_s, bi2_s]
        · simp only [sX7_read, sX7_whyNotRead, sX7_whyNot, e2, f2, bi_s, i10, if_false, r_of1 (show t < 40 by omega), z, if_true, th_0, bi2_s, a2, b2]
      · obtain ⟨m1, hm⟩ : ∃ z, z = mput m 0 7 2 := ⟨_, rfl⟩
        refine ⟨(3, 0, g), (0, m1), ?_, ?_, by rw [hm]; exact hR.mono hj 2, Or.inr (Or.inr ⟨rfl, th_e hm⟩)⟩
        · simp only [sX6_read, e1, f1, rq_0, op_open hR ht, z, if_false, rq_3]
        · simp only [sX7_read, sX7_whyNotRead, sX7_whyNot, e2, f2, bi_s, i10, if_false, r_of1 (show t < 40 by omega), z, th_2, bi2_s, ← hm]
    · obtain ⟨m1, hm⟩ : ∃ z, z = mput m 0 7 1 := ⟨_, rfl⟩
      refine ⟨(1, 0, g), (0, m1), ?_, ?_, by rw [hm]; exact hR.mono hj 1, Or.inr (Or.inl ⟨rfl, th_e hm⟩)⟩
      · simp only [sX6_read, e1, f1, rq_0, rq_1]
      · simp only [sX7_read, sX7_whyNotRead, f2, bi_s, if_true, th_1, bi2_s, i10, if_false, ← hm]
  · obtain ⟨m1, hm⟩ : ∃ z, z = mput m 0 7 1 := ⟨_, rfl⟩
    refine ⟨(1, 0, g), (0, m1), ?_, ?_, by rw [hm]; exact hR.mono hj 1, Or.inr (Or.inl ⟨rfl, th_e hm⟩)⟩
    · simp only [sX6_read, e1, rq_1]
    · rcases key_c y g m with ⟨k, hk, rfl, f1, f2⟩ | ⟨f1, f2⟩
      · simp only [sX7_read, sX7_whyNotRead, sX7_whyNot, e2, f2, bi_s, i10, if_false, if_true, th_1, bi2_s, ← hm]
      · simp only [sX7_read, sX7_whyNotRead, f2, bi_s, if_true, th_1, bi2_s, i10, if_false, ← hm]
theorem q_write (hn : 10010 ≤ n) (hj : j ≤ 512) : sim_write (Rel j) (Rel (j + 1)) n := by
  intro g m x y v hR
  have hC0 := hR.1.1
  have hI0 := hR.1.2.1
  have hb := hI0.b40
  rcases tr_c x hI0 hC0 with ⟨t, ht, rfl, e1, e2⟩ | ⟨e1, e2⟩
  · rcases key_c y g m with ⟨k, hk, rfl, f1, f2⟩ | ⟨f1, f2⟩
    · rcases rng_c v g m 0 9999 with ⟨w0, w9, d1, d2⟩ | ⟨w0, d1, d2⟩
      · by_cases z : TX (m 1) t 1 = 0
        · obtain ⟨g1, m2, a1, a2, a3, a4, a5, a6⟩ := sv_both hn hR
          rw [l_0] at w0
          obtain ⟨u, g2, m3, b1, b2, b3, b4, b5, b6⟩ := op_write (t := t) (k := k) (x := v) hn a3.1 a3.2.1 (by rw [a4]; exact ht) (by rw [a4]; exact z) hk w0
          refine ⟨(0, u, g2), (u, m3), ?_, ?_, Rel.of (a3.st (Int.le_refl _) b3 b4 b5 b6) hj, Or.inl ⟨rfl, (congrFun (b6 0 (by decide)) 7).trans a5, rfl⟩⟩
          · simp only [sX6_write, e1, f1, d1, rq_0, op_open hR ht, z, if_true, a1, b1, bi_s, bi2_s]
          · simp only [sX7_write, sX7_whyNotWrite, e2, f2, d2, bi_s, i10, if_false, r_of1 (show t < 40 by omega), z, if_true, th_0, bi2_s, a2, b2]
        · obtain ⟨m1, hm⟩ : ∃ z, z = mput m 0 7 3 := ⟨_, rfl⟩
          refine ⟨(3, 0, g), (0, m1), ?_, ?_, by rw [hm]; exact hR.mono hj 3, Or.inr (Or.inr (Or.inr ⟨rfl, th_e hm⟩))⟩
          · simp only [sX6_write, e1, f1, d1, rq_0, op_open hR ht, z, if_false, rq_3]
          · simp only [sX7_write, sX7_whyNotWrite, e2, f2, d2, bi_s, i10, if_false, r_of1 (show t < 40 by omega), z, th_3, bi2_s, ← hm]
      · obtain ⟨m1, hm⟩ : ∃ z, z = mput m 0 7 2 := ⟨_, rfl⟩
        refine ⟨(2, 0, g), (0, m1), ?_, ?_, by rw [hm]; exact hR.mono hj 2, Or.inr (Or.inr (Or.inl ⟨rfl, th_e hm⟩))⟩
        · simp only [sX6_write, e1, f1, d1, rq_0, rq_2]
        · simp only [sX7_write, sX7_whyNotWrite, e2, f2, d2, bi_s, i10, if_false, if_true, th_2, bi2_s, ← hm]
    · obtain ⟨m1, hm⟩ : ∃ z, z = mput m 0 7 1 := ⟨_, rfl⟩
      refine ⟨(1, 0, g), (0, m1), ?_, ?_, by rw [hm]; exact hR.mono hj 1, Or.inr (Or.inl ⟨rfl, th_e hm⟩)⟩
      · simp only [sX6_write, e1, f1, rq_0, rq_1]
      · simp only [sX7_write, sX7_whyNotWrite, e2, f2, bi_s, if_true, th_1, bi2_s, i10, if_false, ← hm]
  · obtain ⟨m1, hm⟩ : ∃ z, z = mput m 0 7 1 := ⟨_, rfl⟩
    refine ⟨(1, 0, g), (0, m1), ?_, ?_, by rw [hm]; exact hR.mono hj 1, Or.inr (Or.inl ⟨rfl, th_e hm⟩)⟩
    · simp only [sX6_write, e1, rq_1]
    · simp only [sX7_write, sX7_whyNotWrite, e2, bi_s, if_true, th_1, bi2_s, i10, if_false, ← hm]
theorem q_abort (hn : 10010 ≤ n) (hj : j ≤ 512) : sim_abort (Rel j) (Rel (j + 1)) n := by
  intro g m x hR
  have hC0 := hR.1.1
  have hI0 := hR.1.2.1
  have hb := hI0.b40
  rcases tr_c x hI0 hC0 with ⟨t, ht, rfl, e1, e2⟩ | ⟨e1, e2⟩
  · by_cases z : TX (m 1) t 1 = 0
    · obtain ⟨g1, m2, a1, a2, a3, a4, a5, a6⟩ := sv_both hn hR
      obtain ⟨g2, m3, b1, b2, b3, b4, b5, b6, b7⟩ := op_abort (t := t) hn a3.1 a3.2.1 (by rw [a4]; exact ht) (by rw [a4]; exact z)
      refine ⟨(0, wk (m3 1) t, g2), (wk (m3 1) t, m3), ?_, ?_, Rel.of (a3.st (Int.le_refl _) b3 b4 b5 b6) hj, Or.inl ⟨rfl, (congrFun (b6 0 (by decide)) 7).trans a5, rfl⟩⟩
      · simp only [sX6_abort, e1, rq_0, op_open hR ht, z, if_true, a1, b1, bi_s, bi2_s]
      · simp only [sX7_abort, sX7_whyNot, e2, bi_s, i10, if_false, r_of1 (show t < 40 by omega), z, if_true, th_0, bi2_s, a2, b2, r_wk hn b4 b7]
    · obtain ⟨m1, hm⟩ : ∃ z, z = mput m 0 7 2 := ⟨_, rfl⟩
      refine ⟨(3, 0, g), (0, m1), ?_, ?_, by rw [hm]; exact hR.mono hj 2, Or.inr (Or.inr ⟨rfl, th_e hm⟩)⟩
      · simp only [sX6_abort, e1, rq_0, op_open hR ht, z, if_false, rq_3]
      · simp only [sX7_abort, sX7_whyNot, e2, bi_s, i10, if_false, r_of1 (show t < 40 by omega), z, th_2, bi2_s, ← hm]
  · obtain ⟨m1, hm⟩ : ∃ z, z = mput m 0 7 1 := ⟨_, rfl⟩
    refine ⟨(1, 0, g), (0, m1), ?_, ?_, by rw [hm]; exact hR.mono hj 1, Or.inr (Or.inl ⟨rfl, th_e hm⟩)⟩
    · simp only [sX6_abort, e1, rq_1]
    · simp only [sX7_abort, sX7_whyNot, e2, bi_s, if_true, th_1, bi2_s, i10, if_false, ← hm]
theorem cls_ix {r : Nat → Int32} (h : Inv (bdj j) r) (e : ∀ k, k < 17 → g k = m k) (t : Nat) : oc g r t = oc m r t := by
  unfold oc ocN
  have e7 : g 7 = m 7 := e 7 (by decide)
  have h1 : cfB g r t = cfB m r t := by funext k; unfold cfB; rw [e7]
  have h2 : ocS g r t = ocS m r t := by funext k s; unfold ocS; rw [e7]
  rw [h1, h2]
theorem q_commit (hn : 10010 ≤ n) (hj : j ≤ 512) : sim_commit (Rel j) (Rel (j + 1)) n := by
  intro g m x hR
  have hC0 := hR.1.1
  have hI0 := hR.1.2.1
  have hb := hI0.b40
  rcases tr_c x hI0 hC0 with ⟨t, ht, rfl, e1, e2⟩ | ⟨e1, e2⟩
  · by_cases z : TX (m 1) t 1 = 0
    · have hT : (mput m 0 7 0) 1 = m 1 := th_m (by decide)
      have ho : sX7_outcome n (mput m 0 7 0) (nI t) = some (oc g (m 1) t) := by
        have := r_oc (g := g) (m := mput m 0 7 0) (t := t) (bd := bdj j) hn (by rw [hT]; exact hI0) (by rw [hT]; exact hC0) (by rw [hT]; exact ht)
        rw [hT] at this
        exact this
      by_cases y : oc g (m 1) t = -3
      · obtain ⟨m1, hm⟩ : ∃ z, z = mput m 0 7 0 := ⟨_, rfl⟩
        rw [← hm] at ho
        refine ⟨(0, oc g (m 1) t, g), (oc g (m 1) t, m1), ?_, ?_, by rw [hm]; exact hR.mono hj 0, Or.inl ⟨rfl, th_e hm, rfl⟩⟩
        · simp only [sX6_commit, e1, rq_0, op_open hR ht, z, if_true, k_oc hn hI0 hC0 ht, bi_s, y]
        · simp only [sX7_commit, sX7_whyNot, e2, bi_s, i10, if_false, r_of1 (show t < 40 by omega), z, if_true, th_0, bi2_s, ho, y, ← hm]
      · obtain ⟨g1, m2, a1, a2, a3, a4, a5, a6⟩ := sv_both hn hR
        have eo : oc g1 (m2 1) t = oc g (m 1) t := by rw [a4]; exact cls_ix (j := j) hI0 a6 t
        obtain ⟨g2, m3, b1, b2, b3, b4, b5, b6⟩ := op_req (t := t) hn a3.1 a3.2.1 bdj_lo (Int.le_trans bdj_1 (bdj_le (by omega))) (by rw [a4]; exact ht) (by rw [a4]; exact z) (by rw [eo]; exact y)
        rw [eo] at b1 b2
        refine ⟨(0, oc g (m 1) t, g2), (oc g (m 1) t, m3), ?_, ?_, Rel.to (a3.st (by omega) b3 b4 b5 b6) bdj_1 hj, Or.inl ⟨rfl, (congrFun (b6 0 (by decide)) 7).trans a5, rfl⟩⟩
        · simp only [sX6_commit, e1, rq_0, op_open hR ht, z, if_true, k_oc hn hI0 hC0 ht, bi_s, y, if_false, a1, b1]
        · simp only [sX7_commit, sX7_whyNot, e2, bi_s, i10, if_false, r_of1 (show t < 40 by omega), z, if_true, th_0, bi2_s, ho, y, a2, b2]
    · obtain ⟨m1, hm⟩ : ∃ z, z = mput m 0 7 2 := ⟨_, rfl⟩
      refine ⟨(3, 0, g), (0, m1), ?_, ?_, by rw [hm]; exact hR.mono hj 2, Or.inr (Or.inr ⟨rfl, th_e hm⟩)⟩
      · simp only [sX6_commit, e1, rq_0, op_open hR ht, z, if_false, rq_3]
      · simp only [sX7_commit, sX7_whyNot, e2, bi_s, i10, if_false, r_of1 (show t < 40 by omega), z, th_2, bi2_s, ← hm]
  · obtain ⟨m1, hm⟩ : ∃ z, z = mput m 0 7 1 := ⟨_, rfl⟩
    refine ⟨(1, 0, g), (0, m1), ?_, ?_, by rw [hm]; exact hR.mono hj 1, Or.inr (Or.inl ⟨rfl, th_e hm⟩)⟩
    · simp only [sX6_commit, e1, rq_1]
    · simp only [sX7_commit, sX7_whyNot, e2, bi_s, if_true, th_1, bi2_s, i10, if_false, ← hm]
theorem l_m500 : ((-500 : Int32)).toInt = -500 := by decide
theorem l_500 : ((500 : Int32)).toInt = 500 := by decide
theorem l_m100 : ((-100 : Int32)).toInt = -100 := by decide
theorem l_100 : ((100 : Int32)).toInt = 100 := by decide
theorem q_synchronize (hn : 10010 ≤ n) (hj : j ≤ 512) : sim_synchronize (Rel j) (Rel (j + 1)) n := by
  intro g m x y hR
  rcases srv_c x g m with ⟨s, hs, rfl, e1, e2⟩ | ⟨e1, e2⟩
  · rcases rng_c y g m (-500) 500 with ⟨w0, w9, d1, d2⟩ | ⟨w0, d1, d2⟩
    · rw [l_m500] at w0
      rw [l_500] at w9
      obtain ⟨g1, m2, a1, a2, a3, a4, a5, a6⟩ := sv_both hn hR
      obtain ⟨v, g2, m3, b1, b2, b3, b4, b5, b6⟩ := op_sync (s := s) (x := y) a3.1 a3.2.1 hs w0 w9
      refine ⟨(0, v, g2), (v, m3), ?_, ?_, Rel.of (a3.st (Int.le_refl _) b3 b4 b5 b6) hj, Or.inl ⟨rfl, (congrFun (b6 0 (by decide)) 7).trans a5, rfl⟩⟩
      · simp only [sX6_synchronize, e1, d1, rq_0, a1, b1, bi_s, bi2_s]
      · simp only [sX7_synchronize, sX7_whyNotSynchronize, e2, d2, bi_s, i10, if_false, th_0, bi2_s, if_true, a2, b2]
    · obtain ⟨m1, hm⟩ : ∃ z, z = mput m 0 7 2 := ⟨_, rfl⟩
      refine ⟨(2, 0, g), (0, m1), ?_, ?_, by rw [hm]; exact hR.mono hj 2, Or.inr (Or.inr ⟨rfl, th_e hm⟩)⟩
      · simp only [sX6_synchronize, e1, d1, rq_0, rq_2]
      · simp only [sX7_synchronize, sX7_whyNotSynchronize, e2, d2, bi_s, i10, if_false, if_true, th_2, bi2_s, ← hm]
  · obtain ⟨m1, hm⟩ : ∃ z, z = mput m 0 7 1 := ⟨_, rfl⟩
    refine ⟨(1, 0, g), (0, m1), ?_, ?_, by rw [hm]; exact hR.mono hj 1, Or.inr (Or.inl ⟨rfl, th_e hm⟩)⟩
    · simp only [sX6_synchronize, e1, rq_1]
    · simp only [sX7_synchronize, sX7_whyNotSynchronize, e2, bi_s, if_true, th_1, bi2_s, i10, if_false, ← hm]
theorem q_setDrift (hn : 10010 ≤ n) (hj : j ≤ 512) : sim_setDrift (Rel j) (Rel (j + 1)) n := by
  intro g m x y hR
  rcases srv_c x g m with ⟨s, hs, rfl, e1, e2⟩ | ⟨e1, e2⟩
  · rcases rng_c y g m (-100) 100 with ⟨w0, w9, d1, d2⟩ | ⟨w0, d1, d2⟩
    · rw [l_m100] at w0
      rw [l_100] at w9
      obtain ⟨g1, m2, a1, a2, a3, a4, a5, a6⟩ := sv_both hn hR
      obtain ⟨v, g2, m3, b1, b2, b3, b4, b5, b6⟩ := op_drift (s := s) (x := y) a3.1 a3.2.1 hs w0 w9
      have hbs : (nI s).toNatClampNeg = s := nI_clamp (by omega)
      refine ⟨(0, v, g2), (v, m3), ?_, ?_, Rel.of (a3.st (Int.le_refl _) b3 b4 b5 b6) hj, Or.inl ⟨rfl, (congrFun (b6 0 (by decide)) 7).trans a5, rfl⟩⟩
      · simp only [sX6_setDrift, e1, d1, rq_0, a1, bi_s, ix3 hs, hbs, Nat.zero_add, Nat.reduceAdd, k_t0 a3.1, b1, bi2_s]
      · simp only [sX7_setDrift, e2, d2, bi_s, i10, if_false, th_0, bi2_s, if_true, a2]
        exact b2
    · obtain ⟨m1, hm⟩ : ∃ z, z = mput m 0 7 2 := ⟨_, rfl⟩
      refine ⟨(2, 0, g), (0, m1), ?_, ?_, by rw [hm]; exact hR.mono hj 2, Or.inr (Or.inr ⟨rfl, th_e hm⟩)⟩
      · simp only [sX6_setDrift, e1, d1, rq_0, rq_2]
      · simp only [sX7_setDrift, e2, d2, bi_s, i10, if_false, if_true, th_2, bi2_s, ← hm]
  · obtain ⟨m1, hm⟩ : ∃ z, z = mput m 0 7 1 := ⟨_, rfl⟩
    refine ⟨(1, 0, g), (0, m1), ?_, ?_, by rw [hm]; exact hR.mono hj 1, Or.inr (Or.inl ⟨rfl, th_e hm⟩)⟩
    · simp only [sX6_setDrift, e1, rq_1]
    · simp only [sX7_setDrift, e2, bi_s, if_true, th_1, bi2_s, i10, if_false, ← hm]
theorem q_setUncertainty (hn : 10010 ≤ n) (hj : j ≤ 512) : sim_setUncertainty (Rel j) (Rel (j + 1)) n := by
  intro g m x y v hR
  rcases srv_c x g m with ⟨s, hs, rfl, e1, e2⟩ | ⟨e1, e2⟩
  · rcases rng_c y g m 0 500 with ⟨w0, w9, d1, d2⟩ | ⟨w0, d1, d2⟩
    · rcases rng_c v g m 0 100 with ⟨z0, z9, c1, c2⟩ | ⟨z0, c1, c2⟩
      · rw [l_0] at w0 z0
        rw [l_500] at w9
        rw [l_100] at z9
        obtain ⟨g1, m2, a1, a2, a3, a4, a5, a6⟩ := sv_both hn hR
        obtain ⟨u, g2, m3, b1, b2, b3, b4, b5, b6⟩ := op_unc (s := s) (x := y) (y := v) a3.1 a3.2.1 hs w0 w9 z0 z9
        have hbs : (nI s).toNatClampNeg = s := nI_clamp (by omega)
        obtain ⟨g3, h3, b1'⟩ := sBi_some b1
        obtain ⟨u3, h4, b1''⟩ := sBi_some b1'
        injection b1'' with b1''
        injection b1'' with b11 b12
        subst b11
        subst b12
        refine ⟨(0, u3, g3), (u3, m3), ?_, ?_, Rel.of (a3.st (Int.le_refl _) b3 b4 b5 b6) hj, Or.inl ⟨rfl, (congrFun (b6 0 (by decide)) 7).trans a5, rfl⟩⟩
        · simp only [sX6_setUncertainty, e1, d1, c1, rq_0, a1, bi_s, ix3 hs, hbs, Nat.zero_add, Nat.reduceAdd, h3, h4]
        · simp only [sX7_setUncertainty, e2, d2, c2, bi_s, i10, if_false, th_0, bi2_s, if_true, a2]
          exact b2
      · obtain ⟨m1, hm⟩ : ∃ z, z = mput m 0 7 2 := ⟨_, rfl⟩
        refine ⟨(2, 0, g), (0, m1), ?_, ?_, by rw [hm]; exact hR.mono hj 2, Or.inr (Or.inr ⟨rfl, th_e hm⟩)⟩
        · simp only [sX6_setUncertainty, e1, d1, c1, rq_0, rq_2]
        · simp only [sX7_setUncertainty, sX7_setUncertainty_25, e2, d2, c2, bi_s, i10, if_false, if_true, th_2, bi2_s, ← hm]
    · obtain ⟨m1, hm⟩ : ∃ z, z = mput m 0 7 2 := ⟨_, rfl⟩
      refine ⟨(2, 0, g), (0, m1), ?_, ?_, by rw [hm]; exact hR.mono hj 2, Or.inr (Or.inr ⟨rfl, th_e hm⟩)⟩
      · simp only [sX6_setUncertainty, e1, d1, rq_0, rq_2]
      · simp only [sX7_setUncertainty, sX7_setUncertainty_25, e2, d2, bi_s, i10, if_false, if_true, th_2, bi2_s, ← hm]
  · obtain ⟨m1, hm⟩ : ∃ z, z = mput m 0 7 1 := ⟨_, rfl⟩
    refine ⟨(1, 0, g), (0, m1), ?_, ?_, by rw [hm]; exact hR.mono hj 1, Or.inr (Or.inl ⟨rfl, th_e hm⟩)⟩
    · simp only [sX6_setUncertainty, e1, rq_1]
    · have e25 : sX7_setUncertainty_25 n m x y v = some (0, m1) := by
        simp only [sX7_setUncertainty_25, e2, bi_s, if_true, th_1, bi2_s, i10, if_false, ← hm]
      rcases rng_c y g m 0 500 with ⟨w0, w9, d1, d2⟩ | ⟨w0, d1, d2⟩
      · rcases rng_c v g m 0 100 with ⟨z0, z9, c1, c2⟩ | ⟨z0, c1, c2⟩
        · simp only [sX7_setUncertainty, e2, d2, c2, bi_s, i10, if_false, if_true, th_1, bi2_s, ← hm]
        · simp only [sX7_setUncertainty, d2, c2, bi_s, i10, if_false, if_true, e25]
      · simp only [sX7_setUncertainty, d2, bi_s, if_true, e25]
theorem q_snapshotRead (hn : 10010 ≤ n) (hj : j ≤ 512) : sim_snapshotRead (Rel j) (Rel (j + 1)) n := by
  intro g m x y hR
  have hC0 := hR.1.1
  have hI0 := hR.1.2.1
  rcases key_c x g m with ⟨k, hk, rfl, e1, e2⟩ | ⟨e1, e2⟩
  · rcases nn_c y g with ⟨w0, d0, d1⟩ | ⟨d0, d1⟩
    · by_cases z : y ≤ sfN (m 1)
      · obtain ⟨g1, m2, a1, a2, a3, a4, a5, a6⟩ := sv_both hn hR
        have hy : y.toInt ≤ bdj j := by
          have := sfN_b hI0 bdj_lo
          rw [i_le] at z
          omega
        obtain ⟨v, b1, b2, b3, b4⟩ := op_floor (k := k) (x := y) hn a3.1 a3.2.1 hk w0 hy
        have e7 : mput m2 1 1 (sMax (m2 1 1) y) 0 7 = 0 := by rw [mput_ne (by decide)]; exact a5
        refine ⟨(0, v, mput g1 0 1 (sMax (g1 0 1) y)), (v, mput m2 1 1 (sMax (m2 1 1) y)), ?_, ?_, Rel.of (a3.st (Int.le_refl _) b3 b4 (fun k hk => mput_ne (by omega)) (fun k hk => mput_ne hk)) hj, Or.inl ⟨rfl, e7, rfl⟩⟩
        · simp only [sX6_snapshotRead, e1, d1, rq_0, k_sfN hn hI0 hC0, bi_s, z, if_true, a1, let_s, Nat.zero_add, b1]
        · simp only [sX7_snapshotRead, e2, bi_s, i10, if_false, d0, if_true, r_sfN hn hI0, z, th_0, bi2_s, a2, r_i1, c_1, r_gt, let_s, b2]
      · obtain ⟨m1, hm⟩ : ∃ z, z = mput m 0 7 3 := ⟨_, rfl⟩
        refine ⟨(3, 0, g), (0, m1), ?_, ?_, by rw [hm]; exact hR.mono hj 3, Or.inr (Or.inr (Or.inr ⟨rfl, th_e hm⟩))⟩
        · simp only [sX6_snapshotRead, e1, d1, rq_0, k_sfN hn hI0 hC0, bi_s, z, if_false]
        · simp only [sX7_snapshotRead, e2, bi_s, i10, if_false, d0, if_true, r_sfN hn hI0, z, th_3, bi2_s, ← hm]
    · obtain ⟨m1, hm⟩ : ∃ z, z = mput m 0 7 2 := ⟨_, rfl⟩
      refine ⟨(2, 0, g), (0, m1), ?_, ?_, by rw [hm]; exact hR.mono hj 2, Or.inr (Or.inr (Or.inl ⟨rfl, th_e hm⟩))⟩
      · simp only [sX6_snapshotRead, e1, d1, rq_0, rq_2]
      · simp only [sX7_snapshotRead, e2, bi_s, i10, if_false, d0, th_2, bi2_s, ← hm]
  · obtain ⟨m1, hm⟩ : ∃ z, z = mput m 0 7 1 := ⟨_, rfl⟩
    refine ⟨(1, 0, g), (0, m1), ?_, ?_, by rw [hm]; exact hR.mono hj 1, Or.inr (Or.inl ⟨rfl, th_e hm⟩)⟩
    · simp only [sX6_snapshotRead, e1, rq_1]
    · simp only [sX7_snapshotRead, e2, bi_s, if_true, th_1, bi2_s, i10, if_false, ← hm]
theorem q_clearText (hn : 10010 ≤ n) (hj : j ≤ 512) : sim_clearText (Rel j) (Rel (j + 1)) n := by
  intro g m hR
  obtain ⟨⟨hC, hI, hS, hL, L, hT⟩, -⟩ := hR.thr (v := 0)
  obtain ⟨m1, hm⟩ : ∃ z, z = mput m 0 7 0 := ⟨_, rfl⟩
  rw [← hm] at hC hI hS hL hT
  have mk' : ∀ k, k ≠ 0 → mput m1 0 6 0 k = m1 k := fun k hk => mput_ne hk
  have gk : ∀ k, k ≠ 157 → mput g 157 0 0 k = g k := fun k hk => mput_ne hk
  have hB : RelB (bdj j) (mput g 157 0 0) (mput m1 0 6 0) := by
    refine ⟨?_, by rw [mk' 1 (by decide)]; exact hI, hS.tr (fun k k1 k2 => gk k (by omega)) (gk 153 (by decide)) (mp_at (by decide)) (mk' 2 (by decide)), hL.tr (fun k k1 k2 => gk k (by omega)) (gk 156 (by decide)) (mk' 4 (by decide)) (mk' 3 (by decide)), 0, by omega, mp_eq, mp_eq, fun i hi => by omega⟩
    rw [mk' 1 (by decide)]
    exact hC.fr (fun k _ k2 => gk k (by omega))
  refine ⟨(nI L, mput g 157 0 0), (nI L, mput m1 0 6 0), ?_, ?_, Rel.of hB hj, rfl⟩
  · simp only [sX6_clearText, let_s, hT.2.1]
  · simp only [sX7_clearText, let_s, ← hm, hT.2.2.1]
theorem q_appendText (hn : 10010 ≤ n) (hj : j ≤ 512) : sim_appendText (Rel j) (Rel (j + 1)) n := by
  intro g m x hR
  rcases rng_c x g m 32 126 with ⟨w0, w9, d1, d2⟩ | ⟨w0, d1, d2⟩
  · have hR0 := hR
    obtain ⟨⟨hC, hI, hS, hL, L, t1, t2, t3, t4⟩, -⟩ := hR0
    by_cases z : L < 80
    · obtain ⟨⟨hC, hI, hS, hL, -⟩, -⟩ := hR.thr (v := 0)
      obtain ⟨m1, hm⟩ : ∃ z, z = mput m 0 7 0 := ⟨_, rfl⟩
      rw [← hm] at hC hI hS hL
      have q6 : m1 0 6 = nI L := by rw [hm, th_n (by decide)]; exact t3
      have q5 : m1 5 = m 5 := by rw [hm, th_m (by decide)]
      have hcl : (nI L).toNatClampNeg = L := nI_clamp (by omega)
      have ix : ∀ {α : Type} {x : Option α}, (sIdx (nI L) 80 fun _ => x) = x := ix_e L rfl z (by decide)
      have z1 : nI L < (80 : Int32) := nI_lt (b := 80) z (by decide)
      have z2 : ¬ m 0 6 = (80 : Int32) := by rw [t3, show (80 : Int32) = nI 80 from rfl, nI_eq (by omega) (by decide)]; omega
      have ex : vp_nar .char ((x.toUInt32 % 65536).toInt32) = x := by
        rw [show ((32 : Int32)).toInt = 32 by decide] at w0
        rw [show ((126 : Int32)).toInt = 126 by decide] at w9
        obtain ⟨q, q1, q2⟩ := ofN (x := x) (n := 127) (by omega) (by omega)
        rw [pk_vc, pk_char, q2, pk_tn (by omega), Nat.mod_eq_of_lt (by omega)]
      obtain ⟨G, hG⟩ : ∃ z, z = mput (mput g 159 L x) 157 0 (nI (L + 1)) := ⟨_, rfl⟩
      obtain ⟨M, hM⟩ : ∃ z, z = mput (mput m1 5 L x) 0 6 (nI (L + 1)) := ⟨_, rfl⟩
      have gk : ∀ k, k ≠ 157 → k ≠ 159 → G k = g k := fun k h1 h2 => by rw [hG, mput_ne h1, mput_ne h2]
      have mk' : ∀ k, k ≠ 0 → k ≠ 5 → M k = m1 k := fun k h1 h2 => by rw [hM, mput_ne h1, mput_ne h2]
      have m0 : ∀ b, b ≠ 6 → M 0 b = m1 0 b := fun b hb => by rw [hM, mp_at hb, mput_ne (by decide)]
      have hB : RelB (bdj j) G M := by
        refine ⟨?_, by rw [mk' 1 (by decide) (by decide)]; exact hI, hS.tr (fun k k1 k2 => gk k (by omega) (by omega)) (gk 153 (by decide) (by decide)) (m0 2 (by decide)) (mk' 2 (by decide) (by decide)), hL.tr (fun k k1 k2 => gk k (by omega) (by omega)) (gk 156 (by decide) (by decide)) (mk' 4 (by decide) (by decide)) (mk' 3 (by decide) (by decide)), L + 1, by omega, by rw [hG, mp_eq], by rw [hM, mp_eq], fun i hi => ?_⟩
        · rw [mk' 1 (by decide) (by decide)]
          exact hC.fr (fun k _ k2 => gk k (by omega) (by omega))
        · have e1 : G 159 i = if i = L then x else g 159 i := by
            rw [hG, mput_ne (by decide)]
            by_cases y : i = L
            · rw [if_pos y, y, mp_eq]
            · rw [if_neg y, mp_at y]
          have e2 : M 5 i = if i = L then x else m 5 i := by
            rw [hM, mput_ne (by decide)]
            by_cases y : i = L
            · rw [if_pos y, y, mp_eq]
            · rw [if_neg y, mp_at y, q5]
          rw [e1, e2]
          by_cases y : i = L
          · rw [if_pos y, if_pos y]
            exact ⟨rfl, w0, w9⟩
          · rw [if_neg y, if_neg y]
            exact t4 i (by omega)
      refine ⟨(0, nI (L + 1), G), (nI (L + 1), M), ?_, ?_, Rel.of hB hj, Or.inl ⟨rfl, (m0 7 (by decide)).trans (th_e hm), rfl⟩⟩
      · have g7 : mput g 159 L x 157 0 = nI L := by rw [mput_ne (by decide)]; exact t2
        have g8 : G 157 0 = nI (L + 1) := by rw [hG, mp_eq]
        simp only [sX6_appendText, d1, rq_0, sX3_isFull, t2, z1, if_true, bi_s, sX3_append, ix, hcl, let_s, ex, g7, nI_1, ← hG, g8]
      · have g7 : mput m1 5 L x 0 6 = nI L := by rw [mput_ne (by decide)]; exact q6
        have g8 : M 0 6 = nI (L + 1) := by rw [hM, mp_eq]
        simp only [sX7_appendText, d2, bi_s, i10, if_false, z2, th_0, bi2_s, ← hm, if_true, q6, ix, hcl, let_s, g7, nI_1, ← hM, g8]
    · obtain ⟨m1, hm⟩ : ∃ z, z = mput m 0 7 2 := ⟨_, rfl⟩
      have z1 : ¬ nI L < (80 : Int32) := nI_nlt (b := 80) (by omega) (by omega)
      have z2 : m 0 6 = (80 : Int32) := by rw [t3, show L = 80 by omega]; rfl
      refine ⟨(3, 0, g), (0, m1), ?_, ?_, by rw [hm]; exact hR.mono hj 2, Or.inr (Or.inr ⟨rfl, th_e hm⟩)⟩
      · simp only [sX6_appendText, d1, rq_0, sX3_isFull, t2, z1, if_false, bi_s, i10]
      · simp only [sX7_appendText, d2, bi_s, i10, if_false, z2, if_true, th_2, bi2_s, ← hm]
  · obtain ⟨m1, hm⟩ : ∃ z, z = mput m 0 7 1 := ⟨_, rfl⟩
    refine ⟨(2, 0, g), (0, m1), ?_, ?_, by rw [hm]; exact hR.mono hj 1, Or.inr (Or.inl ⟨rfl, th_e hm⟩)⟩
    · simp only [sX6_appendText, d1, rq_2]
    · simp only [sX7_appendText, d2, bi_s, if_true, th_1, bi2_s, i10, if_false, ← hm]
end QC
