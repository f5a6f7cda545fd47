/-! the pure part: the queries -/
theorem tc_ix {s : Nat} (h : s < 40) : (nI s).toNatClampNeg = s := nI_clamp (by omega)
theorem th_e {m m1 : Mem} {v : Int32} (h : m1 = mput m 0 7 v) : m1 0 7 = v := by rw [h]; exact th_q
theorem bb_m {b : Bool} {m : Mem} : (if b = true then some ((1 : Int32), m) else some ((0 : Int32), m)) = some (b2 b, m) := by cases b <;> rfl
section QS
variable {j n : Nat}
theorem q_trueTime (hn : 10010 ≤ n) (hj : j ≤ 512) : sim_trueTime (Rel j) (Rel (j + 1)) n := by
  intro g m hR
  obtain ⟨⟨hC, h, hS, hL, L, hT⟩, -⟩ := hR.thr (v := 0)
  obtain ⟨m1, hm⟩ : ∃ z, z = mput m 0 7 0 := ⟨_, rfl⟩
  rw [← hm] at hC h hS hL hT
  refine ⟨m1 1 0, (m1 1 0, m1), ?_, ?_, by rw [hm]; exact hR.mono hj 0, rfl⟩
  · simp only [sX6_trueTime, Nat.zero_add, Nat.reduceAdd, k_t0 hC, k_t1 hC, k_t2 hC, k_b hC h]
  · simp only [sX7_trueTime, let_s, ← hm, r_i0, c_0]
theorem q_transactions (hn : 10010 ≤ n) (hj : j ≤ 512) : sim_transactions (Rel j) (Rel (j + 1)) n := by
  intro g m hR
  obtain ⟨⟨hC, h, hS, hL, L, hT⟩, -⟩ := hR.thr (v := 0)
  obtain ⟨m1, hm⟩ : ∃ z, z = mput m 0 7 0 := ⟨_, rfl⟩
  rw [← hm] at hC h hS hL hT
  refine ⟨nI (nB (m1 1)), (nI (nB (m1 1)), m1), ?_, ?_, by rw [hm]; exact hR.mono hj 0, rfl⟩
  · simp only [sX6_transactions, Nat.zero_add, Nat.reduceAdd, k_t0 hC, k_t1 hC, k_t2 hC, k_b hC h]
  · simp only [sX7_transactions, let_s, ← hm, r_i3, c_3, h.r3]
theorem q_readFloor (hn : 10010 ≤ n) (hj : j ≤ 512) : sim_readFloor (Rel j) (Rel (j + 1)) n := by
  intro g m hR
  obtain ⟨⟨hC, h, hS, hL, L, hT⟩, -⟩ := hR.thr (v := 0)
  obtain ⟨m1, hm⟩ : ∃ z, z = mput m 0 7 0 := ⟨_, rfl⟩
  rw [← hm] at hC h hS hL hT
  refine ⟨m1 1 1, (m1 1 1, m1), ?_, ?_, by rw [hm]; exact hR.mono hj 0, rfl⟩
  · simp only [sX6_readFloor, Nat.zero_add, Nat.reduceAdd, k_t0 hC, k_t1 hC, k_t2 hC, k_b hC h]
  · simp only [sX7_readFloor, let_s, ← hm, r_i1, c_1]
theorem q_unsoundUses (hn : 10010 ≤ n) (hj : j ≤ 512) : sim_unsoundUses (Rel j) (Rel (j + 1)) n := by
  intro g m hR
  obtain ⟨⟨hC, h, hS, hL, L, hT⟩, -⟩ := hR.thr (v := 0)
  obtain ⟨m1, hm⟩ : ∃ z, z = mput m 0 7 0 := ⟨_, rfl⟩
  rw [← hm] at hC h hS hL hT
  refine ⟨m1 1 2, (m1 1 2, m1), ?_, ?_, by rw [hm]; exact hR.mono hj 0, rfl⟩
  · simp only [sX6_unsoundUses, Nat.zero_add, Nat.reduceAdd, k_t0 hC, k_t1 hC, k_t2 hC, k_b hC h]
  · simp only [sX7_unsoundUses, let_s, ← hm, r_i2, c_2]
theorem q_textLength (hn : 10010 ≤ n) (hj : j ≤ 512) : sim_textLength (Rel j) (Rel (j + 1)) n := by
  intro g m hR
  obtain ⟨⟨hC, h, hS, hL, L, hT⟩, -⟩ := hR.thr (v := 0)
  obtain ⟨m1, hm⟩ : ∃ z, z = mput m 0 7 0 := ⟨_, rfl⟩
  rw [← hm] at hC h hS hL hT
  refine ⟨nI L, (nI L, m1), ?_, ?_, by rw [hm]; exact hR.mono hj 0, rfl⟩
  · simp only [sX6_textLength, Nat.zero_add, Nat.reduceAdd, k_t0 hC, k_t1 hC, k_t2 hC, k_b hC h, hT.2.1]
  · simp only [sX7_textLength, let_s, ← hm, hT.2.2.1]
theorem q_safeTime (hn : 10010 ≤ n) (hj : j ≤ 512) : sim_safeTime (Rel j) (Rel (j + 1)) n := by
  intro g m hR
  obtain ⟨⟨hC, h, hS, hL, L, hT⟩, -⟩ := hR.thr (v := 0)
  obtain ⟨m1, hm⟩ : ∃ z, z = mput m 0 7 0 := ⟨_, rfl⟩
  rw [← hm] at hC h hS hL hT
  refine ⟨sfN (m1 1), (sfN (m1 1), m1), ?_, ?_, by rw [hm]; exact hR.mono hj 0, rfl⟩
  · simp only [sX6_safeTime, Nat.zero_add, Nat.reduceAdd, k_t0 hC, k_t1 hC, k_t2 hC, k_b hC h, k_sfN hn h hC, bi_s]
  · simp only [sX7_safeTime, let_s, ← hm, r_sfN hn h, bi_s]
theorem q_totalWait (hn : 10010 ≤ n) (hj : j ≤ 512) : sim_totalWait (Rel j) (Rel (j + 1)) n := by
  intro g m hR
  obtain ⟨⟨hC, h, hS, hL, L, hT⟩, -⟩ := hR.thr (v := 0)
  obtain ⟨m1, hm⟩ : ∃ z, z = mput m 0 7 0 := ⟨_, rfl⟩
  rw [← hm] at hC h hS hL hT
  refine ⟨sw (m1 1), (sw (m1 1), m1), ?_, ?_, by rw [hm]; exact hR.mono hj 0, rfl⟩
  · simp only [sX6_totalWait, Nat.zero_add, Nat.reduceAdd, k_t0 hC, k_t1 hC, k_t2 hC, k_b hC h, k_sw hn h hC, bi_s]
  · simp only [sX7_totalWait, let_s, ← hm, r_sw hn h]
theorem q_inversions (hn : 10010 ≤ n) (hj : j ≤ 512) : sim_inversions (Rel j) (Rel (j + 1)) n := by
  intro g m hR
  obtain ⟨⟨hC, h, hS, hL, L, hT⟩, -⟩ := hR.thr (v := 0)
  obtain ⟨m1, hm⟩ : ∃ z, z = mput m 0 7 0 := ⟨_, rfl⟩
  rw [← hm] at hC h hS hL hT
  refine ⟨iv (m1 1), (iv (m1 1), m1), ?_, ?_, by rw [hm]; exact hR.mono hj 0, rfl⟩
  · simp only [sX6_inversions, Nat.zero_add, Nat.reduceAdd, k_t0 hC, k_t1 hC, k_t2 hC, k_b hC h, k_iv hn h hC, bi_s]
  · simp only [sX7_inversions, let_s, ← hm, r_iv hn h]
theorem q_savedStates (hn : 10010 ≤ n) (hj : j ≤ 512) : sim_savedStates (Rel j) (Rel (j + 1)) n := by
  intro g m hR
  obtain ⟨⟨hC, h, ⟨c, p, s1, s2, s3, s4, s5, s6⟩, hL, L, hT⟩, -⟩ := hR.thr (v := 0)
  obtain ⟨m1, hm⟩ : ∃ z, z = mput m 0 7 0 := ⟨_, rfl⟩
  rw [← hm] at s3
  refine ⟨nI c, (nI c, m1), ?_, ?_, by rw [hm]; exact hR.mono hj 0, rfl⟩
  · simp only [sX6_savedStates, s4]
  · simp only [sX7_savedStates, let_s, ← hm, s3]
theorem q_reading (hn : 10010 ≤ n) (hj : j ≤ 512) : sim_reading (Rel j) (Rel (j + 1)) n := by
  intro g m x hR
  rcases srv_c x g m with ⟨s, hs, rfl, e1, e2⟩ | ⟨e1, e2⟩
  · obtain ⟨⟨hC, h, hS, hL, L, hT⟩, -⟩ := hR.thr (v := 0)
    obtain ⟨m1, hm⟩ : ∃ z, z = mput m 0 7 0 := ⟨_, rfl⟩
    rw [← hm] at hC h hS hL hT
    have hb := h.b40
    refine ⟨(0, m1 1 0 + iI (offI (m1 1) s (m1 1 0).toInt)), (m1 1 0 + iI (offI (m1 1) s (m1 1 0).toInt), m1), ?_, ?_, by rw [hm]; exact hR.mono hj 0, Or.inl ⟨rfl, th_e hm, rfl⟩⟩
    · simp only [sX6_reading, e1, rq_0, ix3 hs, tc_ix (show s < 40 by omega), bi_s, k_off (h.ck hs) hC hs (tm_r h), Nat.zero_add, Nat.reduceAdd, k_t0 hC, k_t1 hC, k_t2 hC, k_b hC h]
    · simp only [sX7_reading, e2, r_i0, c_0, r_off (h.ck hs) hs (tm_r h), bi_s, bi2_s, let_s, th_0, th_1, th_2, th_3, ← hm, i00, i10, i20, i30, if_true, if_false]
  · obtain ⟨m1, hm⟩ : ∃ z, z = mput m 0 7 1 := ⟨_, rfl⟩
    refine ⟨(1, 0), (0, m1), ?_, ?_, by rw [hm]; exact hR.mono hj 1, Or.inr ⟨rfl, th_e hm⟩⟩
    · simp only [sX6_reading, e1, rq_1]
    · simp only [sX7_reading, e2, bi_s, bi2_s, let_s, th_0, th_1, th_2, th_3, ← hm, i00, i10, i20, i30, if_true, if_false]
theorem q_earliest (hn : 10010 ≤ n) (hj : j ≤ 512) : sim_earliest (Rel j) (Rel (j + 1)) n := by
  intro g m x hR
  rcases srv_c x g m with ⟨s, hs, rfl, e1, e2⟩ | ⟨e1, e2⟩
  · obtain ⟨⟨hC, h, hS, hL, L, hT⟩, -⟩ := hR.thr (v := 0)
    obtain ⟨m1, hm⟩ : ∃ z, z = mput m 0 7 0 := ⟨_, rfl⟩
    rw [← hm] at hC h hS hL hT
    have hb := h.b40
    refine ⟨(0, iI (earI (m1 1) s (m1 1 0).toInt)), (iI (earI (m1 1) s (m1 1 0).toInt), m1), ?_, ?_, by rw [hm]; exact hR.mono hj 0, Or.inl ⟨rfl, th_e hm, rfl⟩⟩
    · simp only [sX6_earliest, e1, rq_0, ix3 hs, tc_ix (show s < 40 by omega), bi_s, k_ear (h.ck hs) hC hs (tm_r h), Nat.zero_add, Nat.reduceAdd, k_t0 hC, k_t1 hC, k_t2 hC, k_b hC h]
    · simp only [sX7_earliest, e2, r_i0, c_0, r_ear (h.ck hs) hs (tm_r h), bi_s, bi2_s, let_s, th_0, th_1, th_2, th_3, ← hm, i00, i10, i20, i30, if_true, if_false]
  · obtain ⟨m1, hm⟩ : ∃ z, z = mput m 0 7 1 := ⟨_, rfl⟩
    refine ⟨(1, 0), (0, m1), ?_, ?_, by rw [hm]; exact hR.mono hj 1, Or.inr ⟨rfl, th_e hm⟩⟩
    · simp only [sX6_earliest, e1, rq_1]
    · simp only [sX7_earliest, e2, bi_s, bi2_s, let_s, th_0, th_1, th_2, th_3, ← hm, i00, i10, i20, i30, if_true, if_false]
theorem q_latest (hn : 10010 ≤ n) (hj : j ≤ 512) : sim_latest (Rel j) (Rel (j + 1)) n := by
  intro g m x hR
  rcases srv_c x g m with ⟨s, hs, rfl, e1, e2⟩ | ⟨e1, e2⟩
  · obtain ⟨⟨hC, h, hS, hL, L, hT⟩, -⟩ := hR.thr (v := 0)
    obtain ⟨m1, hm⟩ : ∃ z, z = mput m 0 7 0 := ⟨_, rfl⟩
    rw [← hm] at hC h hS hL hT
    have hb := h.b40
    refine ⟨(0, iI (latI (m1 1) s (m1 1 0).toInt)), (iI (latI (m1 1) s (m1 1 0).toInt), m1), ?_, ?_, by rw [hm]; exact hR.mono hj 0, Or.inl ⟨rfl, th_e hm, rfl⟩⟩
    · simp only [sX6_latest, e1, rq_0, ix3 hs, tc_ix (show s < 40 by omega), bi_s, k_lat (h.ck hs) hC hs (tm_r h), Nat.zero_add, Nat.reduceAdd, k_t0 hC, k_t1 hC, k_t2 hC, k_b hC h]
    · simp only [sX7_latest, e2, r_i0, c_0, r_lat (h.ck hs) hs (tm_r h), bi_s, bi2_s, let_s, th_0, th_1, th_2, th_3, ← hm, i00, i10, i20, i30, if_true, if_false]
  · obtain ⟨m1, hm⟩ : ∃ z, z = mput m 0 7 1 := ⟨_, rfl⟩
    refine ⟨(1, 0), (0, m1), ?_, ?_, by rw [hm]; exact hR.mono hj 1, Or.inr ⟨rfl, th_e hm⟩⟩
    · simp only [sX6_latest, e1, rq_1]
    · simp only [sX7_latest, e2, bi_s, bi2_s, let_s, th_0, th_1, th_2, th_3, ← hm, i00, i10, i20, i30, if_true, if_false]
theorem q_nextTimestamp (hn : 10010 ≤ n) (hj : j ≤ 512) : sim_nextTimestamp (Rel j) (Rel (j + 1)) n := by
  intro g m x hR
  rcases srv_c x g m with ⟨s, hs, rfl, e1, e2⟩ | ⟨e1, e2⟩
  · obtain ⟨⟨hC, h, hS, hL, L, hT⟩, -⟩ := hR.thr (v := 0)
    obtain ⟨m1, hm⟩ : ∃ z, z = mput m 0 7 0 := ⟨_, rfl⟩
    rw [← hm] at hC h hS hL hT
    have hb := h.b40
    refine ⟨(0, nx (m1 1) s (m1 1 0).toInt), (nx (m1 1) s (m1 1 0).toInt, m1), ?_, ?_, by rw [hm]; exact hR.mono hj 0, Or.inl ⟨rfl, th_e hm, rfl⟩⟩
    · simp only [sX6_nextTimestamp, e1, rq_0, ix3 hs, tc_ix (show s < 40 by omega), bi_s, k_nx h hC hs (tm_r h), Nat.zero_add, Nat.reduceAdd, k_t0 hC, k_t1 hC, k_t2 hC, k_b hC h]
    · simp only [sX7_nextTimestamp, e2, r_i0, c_0, r_nx h hs (tm_r h), bi_s, bi2_s, let_s, th_0, th_1, th_2, th_3, ← hm, i00, i10, i20, i30, if_true, if_false]
  · obtain ⟨m1, hm⟩ : ∃ z, z = mput m 0 7 1 := ⟨_, rfl⟩
    refine ⟨(1, 0), (0, m1), ?_, ?_, by rw [hm]; exact hR.mono hj 1, Or.inr ⟨rfl, th_e hm⟩⟩
    · simp only [sX6_nextTimestamp, e1, rq_1]
    · simp only [sX7_nextTimestamp, e2, bi_s, bi2_s, let_s, th_0, th_1, th_2, th_3, ← hm, i00, i10, i20, i30, if_true, if_false]
theorem q_isSound (hn : 10010 ≤ n) (hj : j ≤ 512) : sim_isSound (Rel j) (Rel (j + 1)) n := by
  intro g m x hR
  rcases srv_c x g m with ⟨s, hs, rfl, e1, e2⟩ | ⟨e1, e2⟩
  · obtain ⟨⟨hC, h, hS, hL, L, hT⟩, -⟩ := hR.thr (v := 0)
    obtain ⟨m1, hm⟩ : ∃ z, z = mput m 0 7 0 := ⟨_, rfl⟩
    rw [← hm] at hC h hS hL hT
    have hb := h.b40
    refine ⟨(0, b2 (sndI (m1 1) s (m1 1 0).toInt)), (b2 (sndI (m1 1) s (m1 1 0).toInt), m1), ?_, ?_, by rw [hm]; exact hR.mono hj 0, Or.inl ⟨rfl, th_e hm, Iff.rfl⟩⟩
    · simp only [sX6_isSound, e1, rq_0, ix3 hs, tc_ix (show s < 40 by omega), bi_s, k_snd (h.ck hs) hC hs (tm_r h), Nat.zero_add, Nat.reduceAdd, k_t0 hC, k_t1 hC, k_t2 hC, k_b hC h]
    · simp only [sX7_isSound, e2, r_i0, c_0, r_snd (h.ck hs) hs (tm_r h), b2_ite, bb_m, bi_s, bi2_s, let_s, th_0, th_1, th_2, th_3, ← hm, i00, i10, i20, i30, if_true, if_false]
  · obtain ⟨m1, hm⟩ : ∃ z, z = mput m 0 7 1 := ⟨_, rfl⟩
    refine ⟨(1, 0), (0, m1), ?_, ?_, by rw [hm]; exact hR.mono hj 1, Or.inr ⟨rfl, th_e hm⟩⟩
    · simp only [sX6_isSound, e1, rq_1]
    · simp only [sX7_isSound, e2, bi_s, bi2_s, let_s, th_0, th_1, th_2, th_3, ← hm, i00, i10, i20, i30, if_true, if_false]
theorem q_state (hn : 10010 ≤ n) (hj : j ≤ 512) : sim_state (Rel j) (Rel (j + 1)) n := by
  intro g m x hR
  have hE : ∃ hC : Cls g 0 (m 1), ∃ h : Inv (bdj j) (m 1), True := ⟨hR.1.1, hR.1.2.1, trivial⟩
  obtain ⟨hC0, h0, -⟩ := hE
  rcases tr_c x h0 hC0 with ⟨t, ht0, rfl, e1, e2⟩ | ⟨e1, e2⟩
  · obtain ⟨⟨hC, h, hS, hL, L, hT⟩, -⟩ := hR.thr (v := 0)
    obtain ⟨m1, hm⟩ : ∃ z, z = mput m 0 7 0 := ⟨_, rfl⟩
    rw [← hm] at hC h hS hL hT
    have hb := h.b40
    have ht : t < nB (m1 1) := by rw [hm, th_m (by decide)]; exact ht0
    have ht40 : t < 40 := by omega
    refine ⟨(0, TX (m1 1) t 1), (TX (m1 1) t 1, m1), ?_, ?_, by rw [hm]; exact hR.mono hj 0, Or.inl ⟨rfl, th_e hm, rfl⟩⟩
    · simp only [sX6_state, e1, rq_0, ix40 ht40, tc_ix ht40, bi_s, k_f1 hC ht, Nat.zero_add, Nat.reduceAdd, k_t0 hC, k_t1 hC, k_t2 hC, k_b hC h]
    · simp only [sX7_state, sX7_throwsFor, e2, r_of1 ht40, bi_s, bi2_s, let_s, th_0, th_1, th_2, th_3, ← hm, i00, i10, i20, i30, if_true, if_false]
  · obtain ⟨m1, hm⟩ : ∃ z, z = mput m 0 7 1 := ⟨_, rfl⟩
    refine ⟨(1, 0), (0, m1), ?_, ?_, by rw [hm]; exact hR.mono hj 1, Or.inr ⟨rfl, th_e hm⟩⟩
    · simp only [sX6_state, e1, rq_1]
    · simp only [sX7_state, sX7_throwsFor, e2, bi_s, bi2_s, let_s, th_0, th_1, th_2, th_3, ← hm, i00, i10, i20, i30, if_true, if_false]
theorem q_timestamp (hn : 10010 ≤ n) (hj : j ≤ 512) : sim_timestamp (Rel j) (Rel (j + 1)) n := by
  intro g m x hR
  have hE : ∃ hC : Cls g 0 (m 1), ∃ h : Inv (bdj j) (m 1), True := ⟨hR.1.1, hR.1.2.1, trivial⟩
  obtain ⟨hC0, h0, -⟩ := hE
  rcases tr_c x h0 hC0 with ⟨t, ht0, rfl, e1, e2⟩ | ⟨e1, e2⟩
  · obtain ⟨⟨hC, h, hS, hL, L, hT⟩, -⟩ := hR.thr (v := 0)
    obtain ⟨m1, hm⟩ : ∃ z, z = mput m 0 7 0 := ⟨_, rfl⟩
    rw [← hm] at hC h hS hL hT
    have hb := h.b40
    have ht : t < nB (m1 1) := by rw [hm, th_m (by decide)]; exact ht0
    have ht40 : t < 40 := by omega
    have e9 : (TX (m1 1) t 1 = 1 ∨ TX (m1 1) t 1 = 2) ∨ (¬ TX (m1 1) t 1 = 1 ∧ ¬ TX (m1 1) t 1 = 2 ∧ TX (m1 1) t 2 = -1 ∧ TX (m1 1) t 3 = -1) := by
      have hx := h.tx ht
      rcases hx.2.1 with e | e | e | e
      · exact Or.inr ⟨by rw [e]; decide, by rw [e]; decide, hx.2.2.2.1 (Or.inl e)⟩
      · exact Or.inl (Or.inl e)
      · exact Or.inl (Or.inr e)
      · exact Or.inr ⟨by rw [e]; decide, by rw [e]; decide, hx.2.2.2.1 (Or.inr e)⟩
    have e8 : sX7_isStamped m1 (nI t) = some (b2 (decide (TX (m1 1) t 1 = 1 ∨ TX (m1 1) t 1 = 2))) := by
      simp only [sX7_isStamped, r_of1 ht40, bi_s]
      by_cases a : TX (m1 1) t 1 = 1 <;> by_cases b : TX (m1 1) t 1 = 2 <;> simp [a, b, b2]
    refine ⟨(0, TX (m1 1) t 2), (TX (m1 1) t 2, m1), ?_, ?_, by rw [hm]; exact hR.mono hj 0, Or.inl ⟨rfl, th_e hm, rfl⟩⟩
    · simp only [sX6_timestamp, e1, rq_0, ix40 ht40, tc_ix ht40, bi_s, k_f2 hC ht, Nat.zero_add, Nat.reduceAdd, k_t0 hC, k_t1 hC, k_t2 hC, k_b hC h]
    · simp only [sX7_timestamp, sX7_throwsFor, e2, e8, b2_ite, r_of2 ht40, bi_s, bi2_s, let_s, th_0, th_1, th_2, th_3, ← hm, i00, i10, i20, i30, if_true, if_false]
      rcases e9 with e | ⟨a, b, c, d⟩
      · simp [e]
      · simp [a, b, c]
  · obtain ⟨m1, hm⟩ : ∃ z, z = mput m 0 7 1 := ⟨_, rfl⟩
    refine ⟨(1, 0), (0, m1), ?_, ?_, by rw [hm]; exact hR.mono hj 1, Or.inr ⟨rfl, th_e hm⟩⟩
    · simp only [sX6_timestamp, e1, rq_1]
    · simp only [sX7_timestamp, sX7_throwsFor, e2, bi_s, bi2_s, let_s, th_0, th_1, th_2, th_3, ← hm, i00, i10, i20, i30, if_true, if_false]
theorem q_requestTime (hn : 10010 ≤ n) (hj : j ≤ 512) : sim_requestTime (Rel j) (Rel (j + 1)) n := by
  intro g m x hR
  have hE : ∃ hC : Cls g 0 (m 1), ∃ h : Inv (bdj j) (m 1), True := ⟨hR.1.1, hR.1.2.1, trivial⟩
  obtain ⟨hC0, h0, -⟩ := hE
  rcases tr_c x h0 hC0 with ⟨t, ht0, rfl, e1, e2⟩ | ⟨e1, e2⟩
  · obtain ⟨⟨hC, h, hS, hL, L, hT⟩, -⟩ := hR.thr (v := 0)
    obtain ⟨m1, hm⟩ : ∃ z, z = mput m 0 7 0 := ⟨_, rfl⟩
    rw [← hm] at hC h hS hL hT
    have hb := h.b40
    have ht : t < nB (m1 1) := by rw [hm, th_m (by decide)]; exact ht0
    have ht40 : t < 40 := by omega
    have e9 : (TX (m1 1) t 1 = 1 ∨ TX (m1 1) t 1 = 2) ∨ (¬ TX (m1 1) t 1 = 1 ∧ ¬ TX (m1 1) t 1 = 2 ∧ TX (m1 1) t 2 = -1 ∧ TX (m1 1) t 3 = -1) := by
      have hx := h.tx ht
      rcases hx.2.1 with e | e | e | e
      · exact Or.inr ⟨by rw [e]; decide, by rw [e]; decide, hx.2.2.2.1 (Or.inl e)⟩
      · exact Or.inl (Or.inl e)
      · exact Or.inl (Or.inr e)
      · exact Or.inr ⟨by rw [e]; decide, by rw [e]; decide, hx.2.2.2.1 (Or.inr e)⟩
    have e8 : sX7_isStamped m1 (nI t) = some (b2 (decide (TX (m1 1) t 1 = 1 ∨ TX (m1 1) t 1 = 2))) := by
      simp only [sX7_isStamped, r_of1 ht40, bi_s]
      by_cases a : TX (m1 1) t 1 = 1 <;> by_cases b : TX (m1 1) t 1 = 2 <;> simp [a, b, b2]
    refine ⟨(0, TX (m1 1) t 3), (TX (m1 1) t 3, m1), ?_, ?_, by rw [hm]; exact hR.mono hj 0, Or.inl ⟨rfl, th_e hm, rfl⟩⟩
    · simp only [sX6_requestTime, e1, rq_0, ix40 ht40, tc_ix ht40, bi_s, k_f3 hC ht, Nat.zero_add, Nat.reduceAdd, k_t0 hC, k_t1 hC, k_t2 hC, k_b hC h]
    · simp only [sX7_requestTime, sX7_throwsFor, e2, e8, b2_ite, r_of3 ht40, bi_s, bi2_s, let_s, th_0, th_1, th_2, th_3, ← hm, i00, i10, i20, i30, if_true, if_false]
      rcases e9 with e | ⟨a, b, c, d⟩
      · simp [e]
      · simp [a, b, d]
  · obtain ⟨m1, hm⟩ : ∃ z, z = mput m 0 7 1 := ⟨_, rfl⟩
    refine ⟨(1, 0), (0, m1), ?_, ?_, by rw [hm]; exact hR.mono hj 1, Or.inr ⟨rfl, th_e hm⟩⟩
    · simp only [sX6_requestTime, e1, rq_1]
    · simp only [sX7_requestTime, sX7_throwsFor, e2, bi_s, bi2_s, let_s, th_0, th_1, th_2, th_3, ← hm, i00, i10, i20, i30, if_true, if_false]
theorem q_commitTime (hn : 10010 ≤ n) (hj : j ≤ 512) : sim_commitTime (Rel j) (Rel (j + 1)) n := by
  intro g m x hR
  have hE : ∃ hC : Cls g 0 (m 1), ∃ h : Inv (bdj j) (m 1), True := ⟨hR.1.1, hR.1.2.1, trivial⟩
  obtain ⟨hC0, h0, -⟩ := hE
  rcases tr_c x h0 hC0 with ⟨t, ht0, rfl, e1, e2⟩ | ⟨e1, e2⟩
  · obtain ⟨⟨hC, h, hS, hL, L, hT⟩, -⟩ := hR.thr (v := 0)
    obtain ⟨m1, hm⟩ : ∃ z, z = mput m 0 7 0 := ⟨_, rfl⟩
    rw [← hm] at hC h hS hL hT
    have hb := h.b40
    have ht : t < nB (m1 1) := by rw [hm, th_m (by decide)]; exact ht0
    have ht40 : t < 40 := by omega
    have e9 := (h.tx ht).2.2.2.2.1
    refine ⟨(0, TX (m1 1) t 4), (TX (m1 1) t 4, m1), ?_, ?_, by rw [hm]; exact hR.mono hj 0, Or.inl ⟨rfl, th_e hm, rfl⟩⟩
    · simp only [sX6_commitTime, e1, rq_0, ix40 ht40, tc_ix ht40, bi_s, k_f4 hC ht, Nat.zero_add, Nat.reduceAdd, k_t0 hC, k_t1 hC, k_t2 hC, k_b hC h]
    · simp only [sX7_commitTime, sX7_throwsFor, e2, r_of1 ht40, r_of4 ht40, bi_s, bi2_s, let_s, th_0, th_1, th_2, th_3, ← hm, i00, i10, i20, i30, if_true, if_false]
      by_cases a : TX (m1 1) t 1 = 2
      · simp [a]
      · simp [a, e9 a]
  · obtain ⟨m1, hm⟩ : ∃ z, z = mput m 0 7 1 := ⟨_, rfl⟩
    refine ⟨(1, 0), (0, m1), ?_, ?_, by rw [hm]; exact hR.mono hj 1, Or.inr ⟨rfl, th_e hm⟩⟩
    · simp only [sX6_commitTime, e1, rq_1]
    · simp only [sX7_commitTime, sX7_throwsFor, e2, bi_s, bi2_s, let_s, th_0, th_1, th_2, th_3, ← hm, i00, i10, i20, i30, if_true, if_false]
theorem q_ifCommitted (hn : 10010 ≤ n) (hj : j ≤ 512) : sim_ifCommitted (Rel j) (Rel (j + 1)) n := by
  intro g m x hR
  have hE : ∃ hC : Cls g 0 (m 1), ∃ h : Inv (bdj j) (m 1), True := ⟨hR.1.1, hR.1.2.1, trivial⟩
  obtain ⟨hC0, h0, -⟩ := hE
  rcases tr_c x h0 hC0 with ⟨t, ht0, rfl, e1, e2⟩ | ⟨e1, e2⟩
  · obtain ⟨⟨hC, h, hS, hL, L, hT⟩, -⟩ := hR.thr (v := 0)
    obtain ⟨m1, hm⟩ : ∃ z, z = mput m 0 7 0 := ⟨_, rfl⟩
    rw [← hm] at hC h hS hL hT
    have hb := h.b40
    have ht : t < nB (m1 1) := by rw [hm, th_m (by decide)]; exact ht0
    have ht40 : t < 40 := by omega
    refine ⟨(0, if TX (m1 1) t 1 = 0 then oc g (m1 1) t else -1), (if TX (m1 1) t 1 = 0 then oc g (m1 1) t else -1, m1), ?_, ?_, by rw [hm]; exact hR.mono hj 0, Or.inl ⟨rfl, th_e hm, rfl⟩⟩
    · simp only [sX6_ifCommitted, e1, rq_0, ix40 ht40, tc_ix ht40, bi_s, k_open h hC ht, b2_ite, k_oc hn h hC ht, bi_s, Nat.zero_add, Nat.reduceAdd, k_t0 hC, k_t1 hC, k_t2 hC, k_b hC h]
      by_cases a : TX (m1 1) t 1 = 0 <;> simp [a]
    · simp only [sX7_ifCommitted, sX7_throwsFor, e2, r_of1 ht40, r_oc hn h hC ht, bi_s, bi2_s, let_s, th_0, th_1, th_2, th_3, ← hm, i00, i10, i20, i30, if_true, if_false]
      by_cases a : TX (m1 1) t 1 = 0 <;> simp [a]
  · obtain ⟨m1, hm⟩ : ∃ z, z = mput m 0 7 1 := ⟨_, rfl⟩
    refine ⟨(1, 0), (0, m1), ?_, ?_, by rw [hm]; exact hR.mono hj 1, Or.inr ⟨rfl, th_e hm⟩⟩
    · simp only [sX6_ifCommitted, e1, rq_1]
    · simp only [sX7_ifCommitted, sX7_throwsFor, e2, bi_s, bi2_s, let_s, th_0, th_1, th_2, th_3, ← hm, i00, i10, i20, i30, if_true, if_false]
theorem q_ticksToCommit (hn : 10010 ≤ n) (hj : j ≤ 512) : sim_ticksToCommit (Rel j) (Rel (j + 1)) n := by
  intro g m x hR
  have hE : ∃ hC : Cls g 0 (m 1), ∃ h : Inv (bdj j) (m 1), True := ⟨hR.1.1, hR.1.2.1, trivial⟩
  obtain ⟨hC0, h0, -⟩ := hE
  rcases tr_c x h0 hC0 with ⟨t, ht0, rfl, e1, e2⟩ | ⟨e1, e2⟩
  · obtain ⟨⟨hC, h, hS, hL, L, hT⟩, -⟩ := hR.thr (v := 0)
    obtain ⟨m1, hm⟩ : ∃ z, z = mput m 0 7 0 := ⟨_, rfl⟩
    rw [← hm] at hC h hS hL hT
    have hb := h.b40
    have ht : t < nB (m1 1) := by rw [hm, th_m (by decide)]; exact ht0
    have ht40 : t < 40 := by omega
    have ett : sX2_ticksUntilCommitted n g 0 (nI t) 10000 = some (nI (tcm (m1 1) t 10000)) := k_tuc hn h hC ht (L := 10000) (by omega)
    have etb := tcm_b (m1 1) t 10000
    have ele : nI (tcm (m1 1) t 10000) ≤ (10000 : Int32) ↔ tcm (m1 1) t 10000 < 10001 := by rw [show (10000 : Int32) = nI 10000 from rfl, nI_leI (by omega) (by omega)]; omega
    refine ⟨(0, if TX (m1 1) t 1 = 2 then 0 else if TX (m1 1) t 1 = 1 then (if tcm (m1 1) t 10000 < 10001 then nI (tcm (m1 1) t 10000) else -1) else -1), (if TX (m1 1) t 1 = 2 then 0 else if TX (m1 1) t 1 = 1 then (if tcm (m1 1) t 10000 < 10001 then nI (tcm (m1 1) t 10000) else -1) else -1, m1), ?_, ?_, by rw [hm]; exact hR.mono hj 0, Or.inl ⟨rfl, th_e hm, rfl⟩⟩
    · simp only [sX6_ticksToCommit, e1, rq_0, ix40 ht40, tc_ix ht40, bi_s, k_f1 hC ht, ett, bi_s, Nat.zero_add, Nat.reduceAdd, k_t0 hC, k_t1 hC, k_t2 hC, k_b hC h]
      by_cases a : TX (m1 1) t 1 = 2
      · simp [a]
      · by_cases b : TX (m1 1) t 1 = 1
        · simp only [b, ele, if_true, show ¬ ((1 : Int32) = 2) by decide, if_false]
          split <;> rfl
        · simp [a, b]
    · simp only [sX7_ticksToCommit, sX7_throwsFor, e2, r_of1 ht40, r_ttc hn h ht, bi_s, bi2_s, let_s, th_0, th_1, th_2, th_3, ← hm, i00, i10, i20, i30, if_true, if_false]
      by_cases a : TX (m1 1) t 1 = 2
      · simp [a]
      · by_cases b : TX (m1 1) t 1 = 1
        · simp only [b, if_true, show ¬ ((1 : Int32) = 2) by decide, if_false]
        · simp [a, b]
  · obtain ⟨m1, hm⟩ : ∃ z, z = mput m 0 7 1 := ⟨_, rfl⟩
    refine ⟨(1, 0), (0, m1), ?_, ?_, by rw [hm]; exact hR.mono hj 1, Or.inr ⟨rfl, th_e hm⟩⟩
    · simp only [sX6_ticksToCommit, e1, rq_1]
    · simp only [sX7_ticksToCommit, sX7_throwsFor, e2, bi_s, bi2_s, let_s, th_0, th_1, th_2, th_3, ← hm, i00, i10, i20, i30, if_true, if_false]
theorem q_bufferedValue (hn : 10010 ≤ n) (hj : j ≤ 512) : sim_bufferedValue (Rel j) (Rel (j + 1)) n := by
  intro g m x y hR
  have hE : ∃ hC : Cls g 0 (m 1), ∃ h : Inv (bdj j) (m 1), True := ⟨hR.1.1, hR.1.2.1, trivial⟩
  obtain ⟨hC0, h0, -⟩ := hE
  rcases tr_c x h0 hC0 with ⟨t, ht0, rfl, e1, e2⟩ | ⟨e1, e2⟩
  · rcases key_c y g m with ⟨k, hk, rfl, f1, f2⟩ | ⟨f1, f2⟩
    · obtain ⟨⟨hC, h, hS, hL, L, hT⟩, -⟩ := hR.thr (v := 0)
      obtain ⟨m1, hm⟩ : ∃ z, z = mput m 0 7 0 := ⟨_, rfl⟩
      rw [← hm] at hC h hS hL hT
      have hb := h.b40
      have ht : t < nB (m1 1) := by rw [hm, th_m (by decide)]; exact ht0
      have ht40 : t < 40 := by omega
      refine ⟨(0, TX (m1 1) t (5 + k)), (TX (m1 1) t (5 + k), m1), ?_, ?_, by rw [hm]; exact hR.mono hj 0, Or.inl ⟨rfl, th_e hm, rfl⟩⟩
      · simp only [sX6_bufferedValue, e1, f1, rq_0, bi_s, k_bf h hC ht hk, Nat.zero_add, Nat.reduceAdd, k_t0 hC, k_t1 hC, k_t2 hC, k_b hC h]
      · simp only [sX7_bufferedValue, e2, f2, r_of5 ht40 hk, bi_s, bi2_s, let_s, th_0, th_1, th_2, th_3, ← hm, i00, i10, i20, i30, if_true, if_false]
    · obtain ⟨m1, hm⟩ : ∃ z, z = mput m 0 7 1 := ⟨_, rfl⟩
      refine ⟨(1, 0), (0, m1), ?_, ?_, by rw [hm]; exact hR.mono hj 1, Or.inr ⟨rfl, th_e hm⟩⟩
      · simp only [sX6_bufferedValue, e1, f1, rq_0, rq_1]
      · simp only [sX7_bufferedValue, sX7_bufferedValue_19, e2, f2, bi_s, bi2_s, let_s, th_0, th_1, th_2, th_3, ← hm, i00, i10, i20, i30, if_true, if_false]
  · obtain ⟨m1, hm⟩ : ∃ z, z = mput m 0 7 1 := ⟨_, rfl⟩
    refine ⟨(1, 0), (0, m1), ?_, ?_, by rw [hm]; exact hR.mono hj 1, Or.inr ⟨rfl, th_e hm⟩⟩
    · simp only [sX6_bufferedValue, e1, rq_1]
    · simp only [sX7_bufferedValue, sX7_bufferedValue_19, e2, bi_s, bi2_s, let_s, th_0, th_1, th_2, th_3, ← hm, i00, i10, i20, i30, if_true, if_false]
theorem q_recordedTimestamp (hn : 10010 ≤ n) (hj : j ≤ 512) : sim_recordedTimestamp (Rel j) (Rel (j + 1)) n := by
  intro g m x y hR
  have hE : ∃ hC : Cls g 0 (m 1), ∃ h : Inv (bdj j) (m 1), True := ⟨hR.1.1, hR.1.2.1, trivial⟩
  obtain ⟨hC0, h0, -⟩ := hE
  rcases tr_c x h0 hC0 with ⟨t, ht0, rfl, e1, e2⟩ | ⟨e1, e2⟩
  · rcases key_c y g m with ⟨k, hk, rfl, f1, f2⟩ | ⟨f1, f2⟩
    · obtain ⟨⟨hC, h, hS, hL, L, hT⟩, -⟩ := hR.thr (v := 0)
      obtain ⟨m1, hm⟩ : ∃ z, z = mput m 0 7 0 := ⟨_, rfl⟩
      rw [← hm] at hC h hS hL hT
      have hb := h.b40
      have ht : t < nB (m1 1) := by rw [hm, th_m (by decide)]; exact ht0
      have ht40 : t < 40 := by omega
      have eR := hC.2.2.2 t ht k hk
      rw [Nat.zero_add] at eR
      have h4 := cv_le (k := k) h
      refine ⟨(0, TX (m1 1) t (13 + k)), (TX (m1 1) t (13 + k), m1), ?_, ?_, by rw [hm]; exact hR.mono hj 0, Or.inl ⟨rfl, th_e hm, rfl⟩⟩
      · simp only [sX6_recordedTimestamp, e1, f1, rq_0, bi_s, k_rc h ht hk, Nat.zero_add, Nat.reduceAdd, k_t0 hC, k_t1 hC, k_t2 hC, k_b hC h]
        rcases eR with ⟨a, b⟩ | ⟨i, i1, i2, i3⟩
        · rw [a, if_pos rfl, b]
        · rw [i2, if_neg (nI_nm1 (by omega)), k_tsOf h hk i1, bi_s, i3]
      · simp only [sX7_recordedTimestamp, e2, f2, r_of13 ht40 hk, bi_s, bi2_s, let_s, th_0, th_1, th_2, th_3, ← hm, i00, i10, i20, i30, if_true, if_false]
    · obtain ⟨m1, hm⟩ : ∃ z, z = mput m 0 7 1 := ⟨_, rfl⟩
      refine ⟨(1, 0), (0, m1), ?_, ?_, by rw [hm]; exact hR.mono hj 1, Or.inr ⟨rfl, th_e hm⟩⟩
      · simp only [sX6_recordedTimestamp, e1, f1, rq_0, rq_1]
      · simp only [sX7_recordedTimestamp, sX7_recordedTimestamp_19, e2, f2, bi_s, bi2_s, let_s, th_0, th_1, th_2, th_3, ← hm, i00, i10, i20, i30, if_true, if_false]
  · obtain ⟨m1, hm⟩ : ∃ z, z = mput m 0 7 1 := ⟨_, rfl⟩
    refine ⟨(1, 0), (0, m1), ?_, ?_, by rw [hm]; exact hR.mono hj 1, Or.inr ⟨rfl, th_e hm⟩⟩
    · simp only [sX6_recordedTimestamp, e1, rq_1]
    · simp only [sX7_recordedTimestamp, sX7_recordedTimestamp_19, e2, bi_s, bi2_s, let_s, th_0, th_1, th_2, th_3, ← hm, i00, i10, i20, i30, if_true, if_false]
theorem q_versions (hn : 10010 ≤ n) (hj : j ≤ 512) : sim_versions (Rel j) (Rel (j + 1)) n := by
  intro g m x hR
  rcases key_c x g m with ⟨k, hk, rfl, e1, e2⟩ | ⟨e1, e2⟩
  · obtain ⟨⟨hC, h, hS, hL, L, hT⟩, -⟩ := hR.thr (v := 0)
    obtain ⟨m1, hm⟩ : ∃ z, z = mput m 0 7 0 := ⟨_, rfl⟩
    rw [← hm] at hC h hS hL hT
    have hb := h.b40
    have eV : g 6 k = nI (cv (m1 1) k + 1) := (hC.2.2.1 k hk).1
    refine ⟨(0, nI (cv (m1 1) k + 1)), (nI (cv (m1 1) k + 1), m1), ?_, ?_, by rw [hm]; exact hR.mono hj 0, Or.inl ⟨rfl, th_e hm, rfl⟩⟩
    · simp only [sX6_versions, e1, rq_0, ix8 hk, tc_ix (show k < 40 by omega), bi_s, eV, Nat.zero_add, Nat.reduceAdd, k_t0 hC, k_t1 hC, k_t2 hC, k_b hC h]
    · simp only [sX7_versions, e2, r_versions hn h hk, bi_s, bi2_s, let_s, th_0, th_1, th_2, th_3, ← hm, i00, i10, i20, i30, if_true, if_false]
  · obtain ⟨m1, hm⟩ : ∃ z, z = mput m 0 7 1 := ⟨_, rfl⟩
    refine ⟨(1, 0), (0, m1), ?_, ?_, by rw [hm]; exact hR.mono hj 1, Or.inr ⟨rfl, th_e hm⟩⟩
    · simp only [sX6_versions, e1, rq_1]
    · simp only [sX7_versions, e2, bi_s, bi2_s, let_s, th_0, th_1, th_2, th_3, ← hm, i00, i10, i20, i30, if_true, if_false]
theorem q_waitingWriter (hn : 10010 ≤ n) (hj : j ≤ 512) : sim_waitingWriter (Rel j) (Rel (j + 1)) n := by
  intro g m x hR
  rcases key_c x g m with ⟨k, hk, rfl, e1, e2⟩ | ⟨e1, e2⟩
  · obtain ⟨⟨hC, h, hS, hL, L, hT⟩, -⟩ := hR.thr (v := 0)
    obtain ⟨m1, hm⟩ : ∃ z, z = mput m 0 7 0 := ⟨_, rfl⟩
    rw [← hm] at hC h hS hL hT
    have hb := h.b40
    obtain ⟨w, w1, w2⟩ := ww_sim hn h hC rfl hk
    refine ⟨(0, w), (w, m1), ?_, ?_, by rw [hm]; exact hR.mono hj 0, Or.inl ⟨rfl, th_e hm, rfl⟩⟩
    · simp only [sX6_waitingWriter, e1, rq_0, ix8 hk, tc_ix (show k < 40 by omega), bi_s, w1, Nat.zero_add, Nat.reduceAdd, k_t0 hC, k_t1 hC, k_t2 hC, k_b hC h]
    · simp only [sX7_waitingWriter, e2, w2, bi_s, bi2_s, let_s, th_0, th_1, th_2, th_3, ← hm, i00, i10, i20, i30, if_true, if_false]
  · obtain ⟨m1, hm⟩ : ∃ z, z = mput m 0 7 1 := ⟨_, rfl⟩
    refine ⟨(1, 0), (0, m1), ?_, ?_, by rw [hm]; exact hR.mono hj 1, Or.inr ⟨rfl, th_e hm⟩⟩
    · simp only [sX6_waitingWriter, e1, rq_1]
    · simp only [sX7_waitingWriter, e2, bi_s, bi2_s, let_s, th_0, th_1, th_2, th_3, ← hm, i00, i10, i20, i30, if_true, if_false]
theorem q_readerMark (hn : 10010 ≤ n) (hj : j ≤ 512) : sim_readerMark (Rel j) (Rel (j + 1)) n := by
  intro g m x hR
  rcases key_c x g m with ⟨k, hk, rfl, e1, e2⟩ | ⟨e1, e2⟩
  · obtain ⟨⟨hC, h, hS, hL, L, hT⟩, -⟩ := hR.thr (v := 0)
    obtain ⟨m1, hm⟩ : ∃ z, z = mput m 0 7 0 := ⟨_, rfl⟩
    rw [← hm] at hC h hS hL hT
    have hb := h.b40
    refine ⟨(0, mk (m1 1) k), (mk (m1 1) k, m1), ?_, ?_, by rw [hm]; exact hR.mono hj 0, Or.inl ⟨rfl, th_e hm, rfl⟩⟩
    · simp only [sX6_readerMark, e1, rq_0, ix8 hk, tc_ix (show k < 40 by omega), bi_s, k_mark hn h hC hk, Nat.zero_add, Nat.reduceAdd, k_t0 hC, k_t1 hC, k_t2 hC, k_b hC h]
    · simp only [sX7_readerMark, e2, r_mark hn h hk, bi_s, bi2_s, let_s, th_0, th_1, th_2, th_3, ← hm, i00, i10, i20, i30, if_true, if_false]
  · obtain ⟨m1, hm⟩ : ∃ z, z = mput m 0 7 1 := ⟨_, rfl⟩
    refine ⟨(1, 0), (0, m1), ?_, ?_, by rw [hm]; exact hR.mono hj 1, Or.inr ⟨rfl, th_e hm⟩⟩
    · simp only [sX6_readerMark, e1, rq_1]
    · simp only [sX7_readerMark, e2, bi_s, bi2_s, let_s, th_0, th_1, th_2, th_3, ← hm, i00, i10, i20, i30, if_true, if_false]
theorem q_valueAt (hn : 10010 ≤ n) (hj : j ≤ 512) : sim_valueAt (Rel j) (Rel (j + 1)) n := by
  intro g m x y hR
  rcases key_c x g m with ⟨k, hk, rfl, e1, e2⟩ | ⟨e1, e2⟩
  · rcases nn_c y g with ⟨f0, f1, f2⟩ | ⟨f1, f2⟩
    · obtain ⟨⟨hC, h, hS, hL, L, hT⟩, -⟩ := hR.thr (v := 0)
      obtain ⟨m1, hm⟩ : ∃ z, z = mput m 0 7 0 := ⟨_, rfl⟩
      rw [← hm] at hC h hS hL hT
      have hb := h.b40
      obtain ⟨v, v1, v2⟩ := value_sim hn h hC hk y
      refine ⟨(0, v), (v, m1), ?_, ?_, by rw [hm]; exact hR.mono hj 0, Or.inl ⟨rfl, th_e hm, rfl⟩⟩
      · simp only [sX6_valueAt, e1, f2, rq_0, bi_s, v1, Nat.zero_add, Nat.reduceAdd, k_t0 hC, k_t1 hC, k_t2 hC, k_b hC h]
      · simp only [sX7_valueAt, sX7_throwsForValue, e2, f1, v2, bi_s, bi2_s, let_s, th_0, th_1, th_2, th_3, ← hm, i00, i10, i20, i30, if_true, if_false]
    · obtain ⟨m1, hm⟩ : ∃ z, z = mput m 0 7 2 := ⟨_, rfl⟩
      refine ⟨(2, 0), (0, m1), ?_, ?_, by rw [hm]; exact hR.mono hj 2, Or.inr (Or.inr ⟨rfl, th_e hm⟩)⟩
      · simp only [sX6_valueAt, e1, f2, rq_0, rq_2]
      · simp only [sX7_valueAt, sX7_throwsForValue, e2, f1, bi_s, bi2_s, let_s, th_0, th_1, th_2, th_3, ← hm, i00, i10, i20, i30, if_true, if_false]
  · obtain ⟨m1, hm⟩ : ∃ z, z = mput m 0 7 1 := ⟨_, rfl⟩
    refine ⟨(1, 0), (0, m1), ?_, ?_, by rw [hm]; exact hR.mono hj 1, Or.inr (Or.inl ⟨rfl, th_e hm⟩)⟩
    · simp only [sX6_valueAt, e1, rq_1]
    · simp only [sX7_valueAt, sX7_throwsForValue, e2, bi_s, bi2_s, let_s, th_0, th_1, th_2, th_3, ← hm, i00, i10, i20, i30, if_true, if_false]
theorem q_replayedValueAt (hn : 10010 ≤ n) (hj : j ≤ 512) : sim_replayedValueAt (Rel j) (Rel (j + 1)) n := by
  intro g m x y hR
  rcases key_c x g m with ⟨k, hk, rfl, e1, e2⟩ | ⟨e1, e2⟩
  · rcases nn_c y g with ⟨f0, f1, f2⟩ | ⟨f1, f2⟩
    · obtain ⟨⟨hC, h, hS, hL, L, hT⟩, -⟩ := hR.thr (v := 0)
      obtain ⟨m1, hm⟩ : ∃ z, z = mput m 0 7 0 := ⟨_, rfl⟩
      rw [← hm] at hC h hS hL hT
      have hb := h.b40
      obtain ⟨v, v1, v2⟩ := replay_sim hn h hC hk y
      refine ⟨(0, v), (v, m1), ?_, ?_, by rw [hm]; exact hR.mono hj 0, Or.inl ⟨rfl, th_e hm, rfl⟩⟩
      · simp only [sX6_replayedValueAt, e1, f2, rq_0, bi_s, v1, Nat.zero_add, Nat.reduceAdd, k_t0 hC, k_t1 hC, k_t2 hC, k_b hC h]
      · simp only [sX7_replayedValueAt, sX7_throwsForValue, e2, f1, v2, bi_s, bi2_s, let_s, th_0, th_1, th_2, th_3, ← hm, i00, i10, i20, i30, if_true, if_false]
    · obtain ⟨m1, hm⟩ : ∃ z, z = mput m 0 7 2 := ⟨_, rfl⟩
      refine ⟨(2, 0), (0, m1), ?_, ?_, by rw [hm]; exact hR.mono hj 2, Or.inr (Or.inr ⟨rfl, th_e hm⟩)⟩
      · simp only [sX6_replayedValueAt, e1, f2, rq_0, rq_2]
      · simp only [sX7_replayedValueAt, sX7_throwsForValue, e2, f1, bi_s, bi2_s, let_s, th_0, th_1, th_2, th_3, ← hm, i00, i10, i20, i30, if_true, if_false]
  · obtain ⟨m1, hm⟩ : ∃ z, z = mput m 0 7 1 := ⟨_, rfl⟩
    refine ⟨(1, 0), (0, m1), ?_, ?_, by rw [hm]; exact hR.mono hj 1, Or.inr (Or.inl ⟨rfl, th_e hm⟩)⟩
    · simp only [sX6_replayedValueAt, e1, rq_1]
    · simp only [sX7_replayedValueAt, sX7_throwsForValue, e2, bi_s, bi2_s, let_s, th_0, th_1, th_2, th_3, ← hm, i00, i10, i20, i30, if_true, if_false]
theorem q_versionTimestamp (hn : 10010 ≤ n) (hj : j ≤ 512) : sim_versionTimestamp (Rel j) (Rel (j + 1)) n := by
  intro g m x y hR
  rcases key_c x g m with ⟨k, hk, rfl, e1, e2⟩ | ⟨e1, e2⟩
  · have hC := hR.1.1
    have h := hR.1.2.1
    have h4 := cv_le (k := k) h
    have hV := hC.2.2.1 k hk
    have eV : g 6 k = nI (cv (m 1) k + 1) := hV.1
    have eW := nI_toInt (n := cv (m 1) k + 1) (by omega)
    obtain ⟨v, v1, v2⟩ := r_stampAt hn h hV hk y
    rcases v2 with ⟨i, i1, i2, i3⟩ | ⟨i1, i2⟩
    · have hnn := vt_nn hV i1
      have hne : (v = -1) ↔ False := ⟨fun z => by rw [← i3, z, nm1] at hnn; omega, False.elim⟩
      have hi0 : ¬ nI i < 0 := nI_pos (by omega)
      have hlt : nI i < nI (cv (m 1) k + 1) := nI_lt (by omega) (by omega)
      obtain ⟨m1, hm⟩ : ∃ z, z = mput m 0 7 0 := ⟨_, rfl⟩
      refine ⟨(0, v), (v, m1), ?_, ?_, by rw [hm]; exact hR.mono hj 0, Or.inl ⟨rfl, th_e hm, rfl⟩⟩
      · simp only [sX6_versionTimestamp, e1, rq_0, i2, hi0, if_false, ix8 hk, tc_ix (show k < 40 by omega), Nat.zero_add, Nat.reduceAdd, eV, hlt, if_true, k_tsOf h hk i1, bi_s, i3]
      · simp only [sX7_versionTimestamp, e2, v1, hne, bi_s, bi2_s, let_s, th_0, th_1, th_2, th_3, ← hm, i00, i10, i20, i30, if_true, if_false]
    · obtain ⟨m1, hm⟩ : ∃ z, z = mput m 0 7 1 := ⟨_, rfl⟩
      refine ⟨(1, 0), (0, m1), ?_, ?_, by rw [hm]; exact hR.mono hj 1, Or.inr ⟨rfl, th_e hm⟩⟩
      · simp only [sX6_versionTimestamp, e1, rq_0]
        by_cases y0 : y < 0
        · rw [if_pos y0]
        · rw [if_neg y0]
          simp only [ix8 hk, tc_ix (show k < 40 by omega), Nat.zero_add, Nat.reduceAdd, eV]
          rw [if_neg]
          intro z
          rw [i_lt] at z y0
          rw [eW] at z
          rw [l_0] at y0
          obtain ⟨q, q1, q2⟩ := ofN (x := y) (n := cv (m 1) k + 1) (by omega) (by omega)
          exact i1 q (by omega) q2
      · simp only [sX7_versionTimestamp, e2, v1, i2, bi_s, bi2_s, let_s, th_0, th_1, th_2, th_3, ← hm, i00, i10, i20, i30, if_true, if_false]
  · obtain ⟨m1, hm⟩ : ∃ z, z = mput m 0 7 1 := ⟨_, rfl⟩
    refine ⟨(1, 0), (0, m1), ?_, ?_, by rw [hm]; exact hR.mono hj 1, Or.inr ⟨rfl, th_e hm⟩⟩
    · simp only [sX6_versionTimestamp, e1, rq_1]
    · simp only [sX7_versionTimestamp, e2, bi_s, bi2_s, let_s, th_0, th_1, th_2, th_3, ← hm, i00, i10, i20, i30, if_true, if_false]
theorem q_ticksUntilSafe (hn : 10010 ≤ n) (hj : j ≤ 512) : sim_ticksUntilSafe (Rel j) (Rel (j + 1)) n := by
  intro g m x hR
  rcases nn_c x g with ⟨f0, f1, f2⟩ | ⟨f1, f2⟩
  · obtain ⟨⟨hC, h, hS, hL, L, hT⟩, -⟩ := hR.thr (v := 0)
    obtain ⟨m1, hm⟩ : ∃ z, z = mput m 0 7 0 := ⟨_, rfl⟩
    rw [← hm] at hC h hS hL hT
    obtain ⟨a, b, a1, a2, a3, a4⟩ := tus_sim hn h hC f0
    refine ⟨(0, if a ≤ 10000 then a else -1), (if a ≤ 10000 then a else -1, m1), ?_, ?_, by rw [hm]; exact hR.mono hj 0, Or.inl ⟨rfl, th_e hm, rfl⟩⟩
    · simp only [sX6_ticksUntilSafe, f2, rq_0, a1, bi_s]
      split <;> rfl
    · simp only [sX7_ticksUntilSafe, f1, a2, bi_s, bi2_s, let_s, th_0, th_1, th_2, th_3, ← hm, i00, i10, i20, i30, if_true, if_false]
      rw [a3]
      by_cases z : b = -1
      · rw [if_pos z, if_pos z]
      · rw [if_neg z, if_neg z, a4 z, bi_s]
  · obtain ⟨m1, hm⟩ : ∃ z, z = mput m 0 7 1 := ⟨_, rfl⟩
    refine ⟨(2, 0), (0, m1), ?_, ?_, by rw [hm]; exact hR.mono hj 1, Or.inr ⟨rfl, th_e hm⟩⟩
    · simp only [sX6_ticksUntilSafe, f2, rq_2]
    · simp only [sX7_ticksUntilSafe, f1, bi_s, bi2_s, let_s, th_0, th_1, th_2, th_3, ← hm, i00, i10, i20, i30, if_true, if_false]
theorem q_countInState (hn : 10010 ≤ n) (hj : j ≤ 512) : sim_countInState (Rel j) (Rel (j + 1)) n := by
  intro g m x hR
  rcases rng_c x g m 0 3 with ⟨f0, f1, e1, e2⟩ | ⟨f0, e1, e2⟩
  · obtain ⟨⟨hC, h, hS, hL, L, hT⟩, -⟩ := hR.thr (v := 0)
    obtain ⟨m1, hm⟩ : ∃ z, z = mput m 0 7 0 := ⟨_, rfl⟩
    rw [← hm] at hC h hS hL hT
    have hb := h.b40
    refine ⟨(0, ct (m1 1) x), (ct (m1 1) x, m1), ?_, ?_, by rw [hm]; exact hR.mono hj 0, Or.inl ⟨rfl, th_e hm, rfl⟩⟩
    · simp only [sX6_countInState, e1, rq_0, k_ct hn h hC x, bi_s, Nat.zero_add, Nat.reduceAdd, k_t0 hC, k_t1 hC, k_t2 hC, k_b hC h]
    · simp only [sX7_countInState, e2, r_ct hn h x, bi_s, bi2_s, let_s, th_0, th_1, th_2, th_3, ← hm, i00, i10, i20, i30, if_true, if_false]
  · obtain ⟨m1, hm⟩ : ∃ z, z = mput m 0 7 1 := ⟨_, rfl⟩
    refine ⟨(2, 0), (0, m1), ?_, ?_, by rw [hm]; exact hR.mono hj 1, Or.inr ⟨rfl, th_e hm⟩⟩
    · simp only [sX6_countInState, e1, rq_2]
    · simp only [sX7_countInState, e2, bi_s, bi2_s, let_s, th_0, th_1, th_2, th_3, ← hm, i00, i10, i20, i30, if_true, if_false]
end QS
