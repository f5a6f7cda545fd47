/-! the class alone, seen by its row: what each query answers -/
section VA
variable {bd : Int} {g : Mem} {r : Nat → Int32} {n t k s i : Nat} {x : Int32}
theorem x_srv (g : Mem) {s : Nat} (hs : s < 3) : sX6_requireServer g (nI s) = some 0 := by
  unfold sX6_requireServer
  have e := nI_toInt (n := s) (by omega)
  simp only [i_lt, l_0, i3, e]
  rw [if_neg (by omega), if_pos (by omega)]
theorem x_key (g : Mem) {k : Nat} (hk : k < 8) : sX6_requireKey g (nI k) = some 0 := by
  unfold sX6_requireKey
  have e := nI_toInt (n := k) (by omega)
  simp only [i_lt, l_0, i8, e]
  rw [if_neg (by omega), if_pos (by omega)]
theorem x_rng (g : Mem) {x a b : Int32} (h1 : a.toInt ≤ x.toInt) (h2 : x.toInt ≤ b.toInt) : sX6_requireRange g x a b = some 0 := by
  unfold sX6_requireRange
  simp only [i_lt, i_le]
  rw [if_neg (by omega), if_pos h2]
theorem x_nn (g : Mem) {x : Int32} (h1 : 0 ≤ x.toInt) : sX6_requireNotNegative g x = some 0 := by
  unfold sX6_requireNotNegative
  simp only [i_le, l_0]
  rw [if_pos h1]
theorem x_tr (h : Inv bd r) (hC : Cls g 0 r) (ht : t < nB r) : sX6_requireTransaction g (nI t) = some 0 := by
  have hb := h.b40
  have e := nI_toInt (n := t) (by omega)
  have e3 := nI_toInt (n := nB r) (by omega)
  unfold sX6_requireTransaction
  simp only [i_lt, l_0, Nat.zero_add, k_b hC h, e3, e]
  rw [if_neg (by omega), if_pos (by omega)]
theorem x_op (h : Inv bd r) (hC : Cls g 0 r) (ht : t < nB r) : sX6_requireOpen g (nI t) = some (if TX r t 1 = 0 then 0 else 3) := by
  unfold sX6_requireOpen
  rw [Nat.zero_add, k_open h hC ht, bi_s, b2_ite]
  by_cases z : TX r t 1 = 0
  · rw [if_pos z, decide_eq_true z, if_pos rfl]
  · rw [if_neg z, decide_eq_false z, if_neg (by decide)]
theorem x_tm (hC : Cls g 0 r) : sX6_trueTime g = some (r 0) := by simp only [sX6_trueTime, k_t0 hC]
theorem x_many (h : Inv bd r) (hC : Cls g 0 r) : sX6_transactions g = some (nI (nB r)) := by simp only [sX6_transactions, Nat.zero_add, k_b hC h]
theorem x_floor (hC : Cls g 0 r) : sX6_readFloor g = some (r 1) := by simp only [sX6_readFloor, k_t1 hC]
theorem x_uns (hC : Cls g 0 r) : sX6_unsoundUses g = some (r 2) := by simp only [sX6_unsoundUses, k_t2 hC]
theorem x_safe (hn : 10010 ≤ n) (h : Inv bd r) (hC : Cls g 0 r) : sX6_safeTime n g = some (sfN r) := by simp only [sX6_safeTime, k_sfN hn h hC, bi_s]
theorem x_tot (hn : 10010 ≤ n) (h : Inv bd r) (hC : Cls g 0 r) : sX6_totalWait n g = some (sw r) := by simp only [sX6_totalWait, Nat.zero_add, k_sw hn h hC, bi_s]
theorem x_inv (hn : 10010 ≤ n) (h : Inv bd r) (hC : Cls g 0 r) : sX6_inversions n g = some (iv r) := by simp only [sX6_inversions, Nat.zero_add, k_iv hn h hC, bi_s]
theorem x_cnt (hn : 10010 ≤ n) (h : Inv bd r) (hC : Cls g 0 r) : sX6_countInState n g 2 = some (0, ct r 2) := by
  simp only [sX6_countInState, x_rng g (x := 2) (a := 0) (b := 3) (by decide) (by decide), rq_0, Nat.zero_add, k_ct hn h hC 2, bi_s]
theorem x_rdg (h : Inv bd r) (hC : Cls g 0 r) (hs : s < 3) : sX6_reading g (nI s) = some (0, r 0 + iI (offI r s (r 0).toInt)) := by
  simp only [sX6_reading, x_srv g hs, rq_0, ix3 hs, tc_ix (show s < 40 by omega), bi_s, k_off (h.ck hs) hC hs (tm_r h), Nat.zero_add, Nat.reduceAdd, k_t0 hC]
theorem x_ear (h : Inv bd r) (hC : Cls g 0 r) (hs : s < 3) : sX6_earliest g (nI s) = some (0, iI (earI r s (r 0).toInt)) := by
  simp only [sX6_earliest, x_srv g hs, rq_0, ix3 hs, tc_ix (show s < 40 by omega), bi_s, k_ear (h.ck hs) hC hs (tm_r h), Nat.zero_add, Nat.reduceAdd, k_t0 hC]
theorem x_lat (h : Inv bd r) (hC : Cls g 0 r) (hs : s < 3) : sX6_latest g (nI s) = some (0, iI (latI r s (r 0).toInt)) := by
  simp only [sX6_latest, x_srv g hs, rq_0, ix3 hs, tc_ix (show s < 40 by omega), bi_s, k_lat (h.ck hs) hC hs (tm_r h), Nat.zero_add, Nat.reduceAdd, k_t0 hC]
theorem x_snd (h : Inv bd r) (hC : Cls g 0 r) (hs : s < 3) : sX6_isSound g (nI s) = some (0, b2 (sndI r s (r 0).toInt)) := by
  simp only [sX6_isSound, x_srv g hs, rq_0, ix3 hs, tc_ix (show s < 40 by omega), bi_s, k_snd (h.ck hs) hC hs (tm_r h), Nat.zero_add, Nat.reduceAdd, k_t0 hC]
theorem x_st (h : Inv bd r) (hC : Cls g 0 r) (ht : t < nB r) : sX6_state g (nI t) = some (0, TX r t 1) := by
  have ht40 : t < 40 := Nat.lt_of_lt_of_le ht h.b40
  simp only [sX6_state, x_tr h hC ht, rq_0, ix40 ht40, tc_ix ht40, k_f1 hC ht, Nat.zero_add, Nat.reduceAdd]
theorem x_ts (h : Inv bd r) (hC : Cls g 0 r) (ht : t < nB r) : sX6_timestamp g (nI t) = some (0, TX r t 2) := by
  have ht40 : t < 40 := Nat.lt_of_lt_of_le ht h.b40
  simp only [sX6_timestamp, x_tr h hC ht, rq_0, ix40 ht40, tc_ix ht40, k_f2 hC ht, Nat.zero_add, Nat.reduceAdd]
theorem x_rt (h : Inv bd r) (hC : Cls g 0 r) (ht : t < nB r) : sX6_requestTime g (nI t) = some (0, TX r t 3) := by
  have ht40 : t < 40 := Nat.lt_of_lt_of_le ht h.b40
  simp only [sX6_requestTime, x_tr h hC ht, rq_0, ix40 ht40, tc_ix ht40, k_f3 hC ht, Nat.zero_add, Nat.reduceAdd]
theorem x_cm (h : Inv bd r) (hC : Cls g 0 r) (ht : t < nB r) : sX6_commitTime g (nI t) = some (0, TX r t 4) := by
  have ht40 : t < 40 := Nat.lt_of_lt_of_le ht h.b40
  simp only [sX6_commitTime, x_tr h hC ht, rq_0, ix40 ht40, tc_ix ht40, k_f4 hC ht, Nat.zero_add, Nat.reduceAdd]
theorem x_buf (h : Inv bd r) (hC : Cls g 0 r) (ht : t < nB r) (hk : k < 8) : sX6_bufferedValue g (nI t) (nI k) = some (0, TX r t (5 + k)) := by
  simp only [sX6_bufferedValue, x_tr h hC ht, x_key g hk, rq_0, bi_s, k_bf h hC ht hk, Nat.zero_add, Nat.reduceAdd]
theorem x_rec (h : Inv bd r) (hC : Cls g 0 r) (ht : t < nB r) (hk : k < 8) : sX6_recordedTimestamp g (nI t) (nI k) = some (0, TX r t (13 + k)) := by
  have eR := hC.2.2.2 t ht k hk
  rw [Nat.zero_add] at eR
  have h4 := cv_le (k := k) h
  simp only [sX6_recordedTimestamp, x_tr h hC ht, x_key g hk, rq_0, bi_s, k_rc h ht hk, Nat.zero_add, Nat.reduceAdd]
  rcases eR with ⟨a, b⟩ | ⟨i, i1, i2, i3⟩
  · rw [a, if_pos rfl, b]
  · rw [i2, if_neg (nI_nm1 (by omega)), k_tsOf h hk i1, bi_s, i3]
theorem x_ifc (hn : 10010 ≤ n) (h : Inv bd r) (hC : Cls g 0 r) (ht : t < nB r) : sX6_ifCommitted n g (nI t) = some (0, if TX r t 1 = 0 then oc g r t else -1) := by
  simp only [sX6_ifCommitted, x_tr h hC ht, rq_0, bi_s, k_open h hC ht, b2_ite, k_oc hn h hC ht, Nat.zero_add, Nat.reduceAdd]
  by_cases a : TX r t 1 = 0 <;> simp [a]
theorem x_ttc (hn : 10010 ≤ n) (h : Inv bd r) (hC : Cls g 0 r) (ht : t < nB r) (h1 : TX r t 1 = 1) : ∃ v : Int32, v ≠ 0 ∧ sX6_ticksToCommit n g (nI t) = some (0, v) := by
  have ht40 : t < 40 := Nat.lt_of_lt_of_le ht h.b40
  have ett : sX2_ticksUntilCommitted n g 0 (nI t) 10000 = some (nI (tcm r t 10000)) := k_tuc hn h hC ht (L := 10000) (by omega)
  have etb := tcm_b r t 10000
  have ele : nI (tcm r t 10000) ≤ (10000 : Int32) ↔ tcm r t 10000 < 10001 := by rw [show (10000 : Int32) = nI 10000 from rfl, nI_leI (by omega) (by omega)]; omega
  refine ⟨if tcm r t 10000 < 10001 then nI (tcm r t 10000) else -1, ?_, ?_⟩
  · by_cases z : tcm r t 10000 < 10001
    · rw [if_pos z]
      intro q
      have e := nI_toInt (n := tcm r t 10000) (by omega)
      rw [q, l_0] at e
      omega
    · rw [if_neg z]; decide
  · simp only [sX6_ticksToCommit, x_tr h hC ht, rq_0, ix40 ht40, tc_ix ht40, k_f1 hC ht, ett, bi_s, Nat.zero_add, Nat.reduceAdd, h1, ele, if_true, show ¬ ((1 : Int32) = 2) by decide, if_false]
    split <;> rfl
theorem x_vs (h : Inv bd r) (hC : Cls g 0 r) (hk : k < 8) : sX6_versions g (nI k) = some (0, nI (cv r k + 1)) := by
  have eV : g 6 k = nI (cv r k + 1) := (hC.2.2.1 k hk).1
  simp only [sX6_versions, x_key g hk, rq_0, ix8 hk, tc_ix (show k < 40 by omega), eV, Nat.zero_add, Nat.reduceAdd]
theorem x_vt (h : Inv bd r) (hC : Cls g 0 r) (hk : k < 8) (hi : i ≤ cv r k) : sX6_versionTimestamp g (nI k) (nI i) = some (0, g 7 (k * 41 + i)) := by
  have h4 := cv_le (k := k) h
  have eV : g 6 k = nI (cv r k + 1) := (hC.2.2.1 k hk).1
  have hi0 : ¬ nI i < 0 := nI_pos (by omega)
  have hlt : nI i < nI (cv r k + 1) := nI_lt (by omega) (by omega)
  simp only [sX6_versionTimestamp, x_key g hk, rq_0, hi0, if_false, ix8 hk, tc_ix (show k < 40 by omega), Nat.zero_add, Nat.reduceAdd, eV, hlt, if_true, k_tsOf h hk hi, bi_s]
theorem x_val (hn : 10010 ≤ n) (h : Inv bd r) (hC : Cls g 0 r) (hk : k < 8) (hx : 0 ≤ x.toInt) : ∃ v, WV r k x v ∧ sX6_valueAt n g (nI k) x = some (0, v) := by
  obtain ⟨v, v1, v2⟩ := k_valueOf hn h (hC.2.2.1 k hk) hk x
  refine ⟨v, v1, ?_⟩
  simp only [sX6_valueAt, x_key g hk, x_nn g hx, rq_0, Nat.zero_add, v2, bi_s]
theorem x_rep (hn : 10010 ≤ n) (h : Inv bd r) (hC : Cls g 0 r) (hk : k < 8) (hx : 0 ≤ x.toInt) : ∃ v, WV r k x v ∧ sX6_replayedValueAt n g (nI k) x = some (0, v) := by
  obtain ⟨v, v1, v2⟩ := k_replay hn h hC hk x
  refine ⟨v, v1, ?_⟩
  simp only [sX6_replayedValueAt, x_key g hk, x_nn g hx, rq_0, Nat.zero_add, Nat.reduceAdd, v2, bi_s]
theorem x_mark (hn : 10010 ≤ n) (h : Inv bd r) (hC : Cls g 0 r) (hk : k < 8) : sX6_readerMark n g (nI k) = some (0, mk r k) := by
  simp only [sX6_readerMark, x_key g hk, rq_0, k_mark hn h hC hk, bi_s, Nat.zero_add, Nat.reduceAdd]
theorem x_ww (hn : 10010 ≤ n) (h : Inv bd r) (hC : Cls g 0 r) (hk : k < 8) (ht : t < nB r) (h1 : TX r t 1 = 1) (hw : wr r t k = true) : sX6_waitingWriter n g (nI k) = some (0, nI t) := by
  have hb := h.b40
  have key : sX4_findWaitingWriter n g 9 (nI k) = some (nI t) := by
    have d1 := lp_ex (fun f i => sX4_findWaitingWriter_2 n g f 9 (nI k) i) (nB r) (wwC r k) (fun i => some (nI i)) (some (-1)) (fun i => by unfold wwC; by_cases q : TX r i 1 = 1 <;> cases wr r i k <;> simp [q]) (fun f i hi hc => ?_) (fun f i hi hc => ?_) (fun f => ?_) (nB r) 0 (by omega) n (by omega)
    · rcases d1 with ⟨j, -, j2, j3, j4, j5⟩ | ⟨j1, j2⟩
      · have e : j = t := ((h.lk t ht h1 k hk hw) j j2).1 j3.1 j3.2
        rw [← e]
        exact j5
      · exact absurd ⟨h1, hw⟩ (j1 t (by omega) ht)
    · have hle : ¬ nI (nB r) ≤ nI i := nI_ge hi (by omega)
      have hcl : (nI i).toNatClampNeg = i := nI_clamp (by omega)
      unfold wwC at hc
      simp only [sX4_findWaitingWriter_2, k_b hC h, hle, if_false, nI_1, bi_s, b2_ite, ix40 (show i < 40 by omega), hcl, k_f1 hC hi, k_wr h hC hi hk]
      by_cases q : TX r i 1 = 1 <;> cases e2 : wr r i k <;> simp [q, e2] at hc ⊢
    · have hle : ¬ nI (nB r) ≤ nI i := nI_ge hi (by omega)
      have hcl : (nI i).toNatClampNeg = i := nI_clamp (by omega)
      unfold wwC at hc
      simp only [sX4_findWaitingWriter_2, k_b hC h, hle, if_false, nI_1, bi_s, b2_ite, ix40 (show i < 40 by omega), hcl, k_f1 hC hi, k_wr h hC hi hk, hc.1, hc.2, if_true]
    · have hle : nI (nB r) ≤ nI (nB r) := nI_le (Nat.le_refl _) (by omega)
      simp only [sX4_findWaitingWriter_2, k_b hC h, hle, if_true]
  simp only [sX6_waitingWriter, x_key g hk, rq_0, key, bi_s, Nat.zero_add, Nat.reduceAdd]
/-- nothing to wait for: the timestamp is safe now -/
theorem x_tus (hn : 10010 ≤ n) (h : Inv bd r) (hC : Cls g 0 r) (hx : 0 ≤ x.toInt) (hs : x.toInt ≤ (sfN r).toInt) : sX6_ticksUntilSafe n g x = some (0, 0) := by
  have hb := h.b40
  have htm := h.tm
  have hmin : ∀ d i (a : Int32), i + d ≤ nB r → (itr (sfS r) i d a).toInt ≤ a.toInt ∧ ∀ t, i ≤ t → t < i + d → TX r t 1 = 1 → (itr (sfS r) i d a).toInt ≤ (TX r t 2).toInt - 1 := by
    intro d
    induction d with
    | zero => intro i a _; exact ⟨Int.le_refl _, fun t h1 h2 => by omega⟩
    | succ d ih =>
      intro i a hd
      obtain ⟨p1, p2⟩ := ih (i + 1) (sfS r i a) (by omega)
      show (itr (sfS r) (i + 1) d (sfS r i a)).toInt ≤ a.toInt ∧ ∀ t, i ≤ t → t < i + (d + 1) → TX r t 1 = 1 → (itr (sfS r) (i + 1) d (sfS r i a)).toInt ≤ (TX r t 2).toInt - 1
      have q : (sfS r i a).toInt ≤ a.toInt ∧ (TX r i 1 = 1 → (sfS r i a).toInt ≤ (TX r i 2).toInt - 1) := by
        unfold sfS
        by_cases z : TX r i 1 = 1
        · rw [if_pos z, sMin_i]
          have hst := st_b h (show i < nB r by omega)
          have e : (TX r i 2 - 1).toInt = (TX r i 2).toInt - 1 := by rw [i_sub (by rw [l_1]; omega) (by rw [l_1]; omega), l_1]
          exact ⟨by omega, fun _ => by omega⟩
        · rw [if_neg z]
          exact ⟨Int.le_refl _, fun z' => absurd z' z⟩
      refine ⟨by omega, fun t h1 h2 h3 => ?_⟩
      by_cases z : t = i
      · rw [z] at h3 ⊢
        have := q.2 h3
        omega
      · exact p2 t (by omega) (by omega) h3
  obtain ⟨m1, m2⟩ := hmin (nB r) 0 (sf3 r (r 0).toInt) (by omega)
  have h3 := sf3_i h (Int.le_refl (r 0).toInt) (by omega)
  have e9 : (sfN r).toInt = (itr (sfS r) 0 (nB r) (sf3 r (r 0).toInt)).toInt := rfl
  have sT0 : ∀ s, s < 3 → sT r s x = 0 := by
    intro s hs3
    unfold sT
    have q : s = 0 ∨ s = 1 ∨ s = 2 := by omega
    rw [if_pos]
    rcases q with rfl | rfl | rfl <;> omega
  have hw : wtN r x 0 = 0 := by
    have key : ∀ d i, i + d ≤ nB r → itr (wtS r x) i d 0 = 0 := by
      intro d
      induction d with
      | zero => intro i _; rfl
      | succ d ih =>
        intro i hd
        show itr (wtS r x) (i + 1) d (wtS r x i 0) = 0
        have e : wtS r x i 0 = 0 := by
          unfold wtS
          by_cases z : TX r i 1 = 1
          · have := m2 i (by omega) (by omega) z
            rw [if_pos z, if_pos (by omega)]
          · rw [if_neg z]
        rw [e]
        exact ih (i + 1) (by omega)
    exact key (nB r) 0 (by omega)
  have e := k_tus hn h hC hx
  rw [sT0 0 (by decide), sT0 1 (by decide), sT0 2 (by decide)] at e
  have e0 : nI (max (max (max 0 0) 0) 0) = 0 := rfl
  rw [e0, hw] at e
  simp only [sX6_ticksUntilSafe, x_nn g hx, rq_0, e, bi_s]
  rfl
end VA
