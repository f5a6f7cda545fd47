/-! the law's calls of the class, by the row -/
section VF
variable {bd ub tb : Int} {g g' : Mem} {r r' : Nat → Int32} {n t k s q : Nat} {x v y : Int32}
theorem w0_begins {x1 : Int32} (h : sX6_begin n g x1 = some (0, v, g')) : sL_begins n g x1 = some (v, g') := by
  unfold sL_begins
  rw [h]
  rfl
theorem w3_begins {x1 : Int32} (h : sX6_begin n g x1 = some (3, 0, g')) : sL_begins n g x1 = some (-1000000, g') := by
  unfold sL_begins
  rw [h]
  rfl
theorem w0_reads {x1 x2 : Int32} (h : sX6_read n g x1 x2 = some (0, v, g')) : sL_reads n g x1 x2 = some (v, g') := by
  unfold sL_reads
  rw [h]
  rfl
theorem w3_reads {x1 x2 : Int32} (h : sX6_read n g x1 x2 = some (3, 0, g')) : sL_reads n g x1 x2 = some (-1000000, g') := by
  unfold sL_reads
  rw [h]
  rfl
theorem w0_writes {x1 x2 x3 : Int32} (h : sX6_write n g x1 x2 x3 = some (0, v, g')) : sL_writes n g x1 x2 x3 = some (v, g') := by
  unfold sL_writes
  rw [h]
  rfl
theorem w3_writes {x1 x2 x3 : Int32} (h : sX6_write n g x1 x2 x3 = some (3, 0, g')) : sL_writes n g x1 x2 x3 = some (-1000000, g') := by
  unfold sL_writes
  rw [h]
  rfl
theorem w0_commits {x1 : Int32} (h : sX6_commit n g x1 = some (0, v, g')) : sL_commits n g x1 = some (v, g') := by
  unfold sL_commits
  rw [h]
  rfl
theorem w3_commits {x1 : Int32} (h : sX6_commit n g x1 = some (3, 0, g')) : sL_commits n g x1 = some (-1000000, g') := by
  unfold sL_commits
  rw [h]
  rfl
theorem w0_aborts {x1 : Int32} (h : sX6_abort n g x1 = some (0, v, g')) : sL_aborts n g x1 = some (v, g') := by
  unfold sL_aborts
  rw [h]
  rfl
theorem w3_aborts {x1 : Int32} (h : sX6_abort n g x1 = some (3, 0, g')) : sL_aborts n g x1 = some (-1000000, g') := by
  unfold sL_aborts
  rw [h]
  rfl
theorem w0_snapshots {x1 x2 : Int32} (h : sX6_snapshotRead n g x1 x2 = some (0, v, g')) : sL_snapshots n g x1 x2 = some (v, g') := by
  unfold sL_snapshots
  rw [h]
  rfl
theorem w3_snapshots {x1 x2 : Int32} (h : sX6_snapshotRead n g x1 x2 = some (3, 0, g')) : sL_snapshots n g x1 x2 = some (-1000000, g') := by
  unfold sL_snapshots
  rw [h]
  rfl
/-- the class and its row, what was read (k, x, v) among it -/
def Oh (bd ub tb : Int) (g : Mem) (r : Nat → Int32) (k : Nat) (x v : Int32) : Prop := KP bd g r ∧ Ser ub r ∧ (r 0).toInt ≤ tb ∧ k < 8 ∧ 0 ≤ x.toInt ∧ x.toInt ≤ (r 1).toInt ∧ WV r k x v
def Kpt (r r' : Nat → Int32) : Prop := Keep r r' ∧ r' 0 = r 0 ∧ r' 1 = r 1 ∧ r' 2 = r 2
theorem Oh.kpt (h : Oh bd ub tb g r k x v) (hP : KP bd g' r') (hK : Kpt r r') : Oh bd ub tb g' r' k x v := by
  obtain ⟨h1, h2, h3, h4, h5, h6, h7⟩ := h
  obtain ⟨k1, k2, k3, k4⟩ := hK
  exact ⟨hP, h2.keep k1 k2 k3 k4, by rw [k2]; exact h3, h4, h5, by rw [k3]; exact h6, k1.wv h4 h7⟩
theorem Oh.up {bd' ub' tb' : Int} (h : Oh bd ub tb g r k x v) (h1 : bd ≤ bd') (h2 : bd' ≤ 4000000) (h3 : ub ≤ ub') (h4 : tb ≤ tb') : Oh bd' ub' tb' g r k x v := ⟨h.1.mono h1 h2, h.2.1.up h3, Int.le_trans h.2.2.1 h4, h.2.2.2⟩
theorem Oh.cg (h : Oh bd ub tb g r k x v) (e : ∀ k, k < 161 → g' k = g k) : Oh bd ub tb g' r k x v := ⟨h.1.cg e, h.2⟩
theorem kpt_up {F : Nat} (hb : nB r ≤ 40) (h0 : ¬ stp r t) (hF : F < 21) (n1 : ¬ stp (upd r (25 + 21 * t + F) y) t) : Kpt r (upd r (25 + 21 * t + F) y) := by
  have eB : nB (upd r (25 + 21 * t + F) y) = nB r := nB_up
  exact ⟨keep_row (T := t) (by rw [eB]; exact hb) (by rw [eB]; exact Nat.le_refl _) (fun u hu _ => by rw [eB] at hu; exact hu) (row_up hF) n1 (fun _ => h0), lo_up (by decide), lo_up (by decide), lo_up (by decide)⟩
theorem kpt_f {F : Nat} (hb : nB r ≤ 40) (h0 : TX r t 1 = 0) (hF : F < 21) (h1 : 1 < F) : Kpt r (upd r (25 + 21 * t + F) y) := by
  have e1 : TX (upd r (25 + 21 * t + F) y) t 1 = 0 := by rw [TX_up hF (by decide), if_neg (by omega), h0]
  refine kpt_up hb (fun z => ?_) hF (fun z => ?_)
  · unfold stp at z; rw [h0] at z; exact absurd z (by decide)
  · unfold stp at z; rw [e1] at z; exact absurd z (by decide)
theorem kpt_rf (r : Nat → Int32) : Kpt r r := ⟨⟨fun t ht hs => ⟨ht, hs, fun _ _ => rfl⟩, fun t ht _ => ⟨ht, fun _ _ => rfl⟩⟩, rfl, rfl, rfl⟩
theorem kpt_hi (hi : ∀ j, j < 7 ∨ 25 ≤ j → r' j = r j) : Kpt r r' := ⟨keep_hi (fun j hj => hi j (Or.inr hj)) (hi 3 (by omega)), hi 0 (by omega), hi 1 (by omega), hi 2 (by omega)⟩
theorem z_begins (hn : 10010 ≤ n) (hO : Oh bd ub tb g r k x v) (hs : s < 3) : ∃ g' r', sL_begins n g (nI s) = some (if nB r = 40 then -1000000 else nI (nB r), g') ∧ Oh bd ub tb g' r' k x v := by
  have hC := hO.1.1
  have hI := hO.1.2.1
  have hb := hI.b40
  by_cases z : nB r < 40
  · obtain ⟨g1, a1, a2, a3⟩ := kp_push hn hO.1
    obtain ⟨w, g2, b1, b2, b3, b4, b5⟩ := y_begin (s := s) hn a2.1 a2.2.1 z hs
    have q1 : ¬ (40 : Int32) ≤ nI (nB r) := nI_ge (b := 40) z (by decide)
    have e : sX6_begin n g (nI s) = some (0, w, g2) := by
      simp only [sX6_begin, x_srv g hs, rq_0, sX2_canBegin, Nat.zero_add, k_b hC hI, q1, if_false, bi_s, i10, a1, b1, bi2_s]
    refine ⟨g2, bgR r s, by rw [w0_begins e, b2, if_neg (by omega)], hO.kpt (a2.st b3 b4 b5) ?_⟩
    have eB : nB (bgR r s) = nB r + 1 := bgR_nB z
    refine ⟨keep_row (T := nB r) (by omega) (by omega) (fun u hu hne => by omega) (fun u f hu hf hne => ?_) (fun y => ?_) (fun y => absurd y (Nat.lt_irrefl _)), bgR_o (by decide) (by omega), bgR_o (by decide) (by omega), bgR_o (by decide) (by omega)⟩
    · exact bgR_o (by omega) (by omega)
    · unfold stp at y; rw [bgR_t1] at y; exact absurd y (by decide)
  · have q1 : (40 : Int32) ≤ nI (nB r) := nI_le (a := 40) (by omega) (by omega)
    have e : sX6_begin n g (nI s) = some (3, 0, g) := by
      simp only [sX6_begin, x_srv g hs, rq_0, sX2_canBegin, Nat.zero_add, k_b hC hI, q1, if_true, bi_s]
    exact ⟨g, r, by rw [w3_begins e, if_pos (by omega)], hO⟩
theorem z_readsO (hn : 10010 ≤ n) (hO : Oh bd ub tb g r k x v) (ht : t < nB r) (hq : q < 8) (h0 : TX r t 1 = 0) : ∃ w g' r', sL_reads n g (nI t) (nI q) = some (w, g') ∧ Oh bd ub tb g' r' k x v ∧ (if wr r t q = true then w = TX r t (5 + q) else if rd r t q = true then WV r q (TX r t (13 + q)) w else ∀ z : Int32, (g 7 (q * 41 + cv r q)).toInt ≤ z.toInt → WV r q z w) := by
  have hC := hO.1.1
  have hI := hO.1.2.1
  obtain ⟨g1, a1, a2, a3⟩ := kp_push hn hO.1
  obtain ⟨R, hR, w, g2, b1, b2, b3, b4, b5⟩ := y_read (t := t) (k := q) hn a2.1 a2.2.1 ht h0 hq
  have e : sX6_read n g (nI t) (nI q) = some (0, w, g2) := by
    simp only [sX6_read, x_tr hI hC ht, x_key g hq, rq_0, x_op hI hC ht, h0, if_true, a1, b1, bi_s, bi2_s]
  refine ⟨w, g2, R, w0_reads e, hO.kpt (a2.st b3 b4 b5) ?_, ?_⟩
  · rcases hR with z | ⟨u, z⟩
    · rw [z]; exact kpt_rf r
    · rw [z]; exact kpt_f hI.b40 h0 (by omega) (by omega)
  · have e7 : g1 7 = g 7 := a3 7 (by decide)
    rw [e7] at b2
    exact b2
theorem z_writesO (hn : 10010 ≤ n) (hO : Oh bd ub tb g r k x v) (ht : t < nB r) (hq : q < 8) (h0 : TX r t 1 = 0) (hy : 0 ≤ y.toInt) (hy2 : y.toInt ≤ 9999) : ∃ w g' r', sL_writes n g (nI t) (nI q) y = some (w, g') ∧ Oh bd ub tb g' r' k x v ∧ 0 < w.toInt ∧ sX6_bufferedValue g' (nI t) (nI q) = some (0, y) := by
  have hC := hO.1.1
  have hI := hO.1.2.1
  have hb := hI.b40
  obtain ⟨g1, a1, a2, a3⟩ := kp_push hn hO.1
  obtain ⟨w, g2, b1, b2, b3, b4, b5⟩ := y_write (t := t) (k := q) hn a2.1 a2.2.1 ht h0 hq hy
  have er : sX6_requireRange g y (0 : Int32) (9999 : Int32) = some 0 := x_rng g (by rw [l_0]; exact hy) (by rw [show ((9999 : Int32)).toInt = 9999 by decide]; exact hy2)
  have e : sX6_write n g (nI t) (nI q) y = some (0, w, g2) := by
    simp only [sX6_write, x_tr hI hC ht, x_key g hq, er, rq_0, x_op hI hC ht, h0, if_true, a1, b1, bi_s, bi2_s]
  have eB : nB (upd r (25 + 21 * t + (5 + q)) y) = nB r := nB_up
  have eT : TX (upd r (25 + 21 * t + (5 + q)) y) t (5 + q) = y := by rw [TX_up (by omega) (by omega), if_pos ⟨rfl, rfl⟩]
  refine ⟨w, g2, _, w0_writes e, hO.kpt (a2.st b3 b4 b5) (kpt_f hb h0 (by omega) (by omega)), ?_, ?_⟩
  · have hw : wr (upd r (25 + 21 * t + (5 + q)) y) t q = true := wr_iff.mpr (by rw [eT]; intro z; rw [z, nm1] at hy; omega)
    have key : ∀ (d i : Nat) (a : Int32), 0 ≤ a.toInt → a.toInt ≤ i → i + d ≤ 8 → a.toInt ≤ (itr (wkS (upd r (25 + 21 * t + (5 + q)) y) t) i d a).toInt ∧ (i ≤ q → q < i + d → a.toInt < (itr (wkS (upd r (25 + 21 * t + (5 + q)) y) t) i d a).toInt) := by
      intro d
      induction d with
      | zero => intro i a _ _ _; exact ⟨Int.le_refl _, fun _ _ => by omega⟩
      | succ d ih =>
        intro i a c1 c2 c3
        have e1 : (a + 1).toInt = a.toInt + 1 := by rw [i_add (by rw [l_1]; omega) (by rw [l_1]; omega), l_1]
        have qs : a.toInt ≤ (wkS (upd r (25 + 21 * t + (5 + q)) y) t i a).toInt ∧ (wkS (upd r (25 + 21 * t + (5 + q)) y) t i a).toInt ≤ a.toInt + 1 ∧ (i = q → a.toInt < (wkS (upd r (25 + 21 * t + (5 + q)) y) t i a).toInt) := by
          unfold wkS
          by_cases z : wr (upd r (25 + 21 * t + (5 + q)) y) t i = true
          · rw [if_pos z, e1]; exact ⟨by omega, by omega, fun _ => by omega⟩
          · rw [if_neg z]; exact ⟨by omega, by omega, fun e => by rw [e] at z; exact absurd hw z⟩
        obtain ⟨p1, p2⟩ := ih (i + 1) (wkS (upd r (25 + 21 * t + (5 + q)) y) t i a) (by omega) (by omega) (by omega)
        show a.toInt ≤ (itr (wkS (upd r (25 + 21 * t + (5 + q)) y) t) (i + 1) d (wkS (upd r (25 + 21 * t + (5 + q)) y) t i a)).toInt ∧ _
        refine ⟨by omega, fun i1 i2 => ?_⟩
        show a.toInt < (itr (wkS (upd r (25 + 21 * t + (5 + q)) y) t) (i + 1) d (wkS (upd r (25 + 21 * t + (5 + q)) y) t i a)).toInt
        by_cases z : i = q
        · have := qs.2.2 z
          omega
        · have := p2 (by omega) (by omega)
          omega
    rw [b2]
    have := (key 8 0 0 (by decide) (by decide) (by decide)).2 (by omega) (by omega)
    rw [l_0] at this
    exact this
  · rw [x_buf b4 b3 (by rw [eB]; exact ht) hq, eT]
theorem wk_nn (r : Nat → Int32) (t : Nat) : 0 ≤ (wk r t).toInt := by
  have key : ∀ (d i : Nat) (a : Int32), 0 ≤ a.toInt → a.toInt ≤ i → i + d ≤ 8 → 0 ≤ (itr (wkS r t) i d a).toInt := by
    intro d
    induction d with
    | zero => intro i a h _ _; exact h
    | succ d ih =>
      intro i a c1 c2 c3
      have e1 : (a + 1).toInt = a.toInt + 1 := by rw [i_add (by rw [l_1]; omega) (by rw [l_1]; omega), l_1]
      show 0 ≤ (itr (wkS r t) (i + 1) d (wkS r t i a)).toInt
      have qs : 0 ≤ (wkS r t i a).toInt ∧ (wkS r t i a).toInt ≤ a.toInt + 1 := by
        unfold wkS
        split
        · rw [e1]; omega
        · omega
      exact ih (i + 1) _ qs.1 (by omega) (by omega)
  exact key 8 0 0 (by decide) (by decide) (by decide)
theorem ab_kpt (hb : nB r ≤ 40) (h0 : TX r t 1 = 0) : Kpt r (upd r (25 + 21 * t + 1) 3) := by
  have e1 : TX (upd r (25 + 21 * t + 1) 3) t 1 = 3 := by rw [TX_up (by decide) (by decide), if_pos ⟨rfl, rfl⟩]
  refine kpt_up hb (fun z => ?_) (by decide) (fun z => ?_)
  · unfold stp at z; rw [h0] at z; exact absurd z (by decide)
  · unfold stp at z; rw [e1] at z; exact absurd z (by decide)
theorem ab_st (hC : Cls g 0 (upd r (25 + 21 * t + 1) 3)) (hI : Inv bd (upd r (25 + 21 * t + 1) 3)) (ht : t < nB r) : sX6_state g (nI t) = some (0, 3) := by
  have eB : nB (upd r (25 + 21 * t + 1) 3) = nB r := nB_up
  rw [x_st hI hC (by rw [eB]; exact ht), TX_up (by decide) (by decide), if_pos ⟨rfl, rfl⟩]
theorem z_abortsO (hn : 10010 ≤ n) (hO : Oh bd ub tb g r k x v) (ht : t < nB r) (h0 : TX r t 1 = 0) : ∃ w g' r', sL_aborts n g (nI t) = some (w, g') ∧ Oh bd ub tb g' r' k x v ∧ 0 ≤ w.toInt ∧ sX6_state g' (nI t) = some (0, 3) := by
  have hC := hO.1.1
  have hI := hO.1.2.1
  obtain ⟨g1, a1, a2, a3⟩ := kp_push hn hO.1
  obtain ⟨w, g2, b1, b2, b3, b4, b5⟩ := y_abort (t := t) hn a2.1 a2.2.1 ht h0
  have e : sX6_abort n g (nI t) = some (0, w, g2) := by
    simp only [sX6_abort, x_tr hI hC ht, rq_0, x_op hI hC ht, h0, if_true, a1, b1, bi_s, bi2_s]
  exact ⟨w, g2, _, w0_aborts e, hO.kpt (a2.st b3 b4 b5) (ab_kpt hI.b40 h0), by rw [b2]; exact wk_nn _ _, ab_st b3 b4 ht⟩
/-- a transaction that isn't open: all four refuse -/
theorem z_notO (n : Nat) (y : Int32) (hO : Oh bd ub tb g r k x v) (ht : t < nB r) (hq : q < 8) (h0 : ¬ TX r t 1 = 0) (hy : 0 ≤ y.toInt) (hy2 : y.toInt ≤ 9999) : sL_reads n g (nI t) (nI q) = some (-1000000, g) ∧ sL_writes n g (nI t) (nI q) y = some (-1000000, g) ∧ sL_commits n g (nI t) = some (-1000000, g) ∧ sL_aborts n g (nI t) = some (-1000000, g) := by
  have hC := hO.1.1
  have hI := hO.1.2.1
  have er : sX6_requireRange g y (0 : Int32) (9999 : Int32) = some 0 := x_rng g (by rw [l_0]; exact hy) (by rw [show ((9999 : Int32)).toInt = 9999 by decide]; exact hy2)
  refine ⟨w3_reads ?_, w3_writes ?_, w3_commits ?_, w3_aborts ?_⟩
  · simp only [sX6_read, x_tr hI hC ht, x_key g hq, rq_0, x_op hI hC ht, h0, if_false, rq_3]
  · simp only [sX6_write, x_tr hI hC ht, x_key g hq, er, rq_0, x_op hI hC ht, h0, if_false, rq_3]
  · simp only [sX6_commit, x_tr hI hC ht, rq_0, x_op hI hC ht, h0, if_false, rq_3]
  · simp only [sX6_abort, x_tr hI hC ht, rq_0, x_op hI hC ht, h0, if_false, rq_3]
theorem oc_cg {m : Mem} (e : ∀ k, k < 17 → g k = m k) (t : Nat) : oc g r t = oc m r t ∧ cfB g r t = cfB m r t ∧ ocN g r t = ocN m r t := by
  have e7 : g 7 = m 7 := e 7 (by decide)
  have h1 : cfB g r t = cfB m r t := by funext k; unfold cfB; rw [e7]
  have h2 : ocS g r t = ocS m r t := by funext k s; unfold ocS; rw [e7]
  have h3 : ocN g r t = ocN m r t := by unfold ocN; rw [h2]
  exact ⟨by unfold oc; rw [h1, h3], h1, h3⟩
theorem z_commitsO (hn : 10010 ≤ n) (hO : Oh bd ub tb g r k x v) (hb : 3100000 ≤ bd) (hb2 : bd + 1 ≤ 4000000) (hub : ub ≤ 1000000) (ht : t < nB r) (h0 : TX r t 1 = 0) : ∃ (w st : Int32) (g' : Mem) (r' : Nat → Int32), sL_commits n g (nI t) = some (w, g') ∧ w = oc g r t ∧ Oh (bd + 1) (ub + 1) tb g' r' k x v ∧ sX6_state g' (nI t) = some (0, st) ∧ ((w = -2 ∧ st = 3) ∨ (w = -3 ∧ st = 0) ∨ (1 ≤ w.toInt ∧ st = 1)) := by
  have hC := hO.1.1
  have hI := hO.1.2.1
  by_cases y3 : oc g r t = -3
  · have e : sX6_commit n g (nI t) = some (0, oc g r t, g) := by
      simp only [sX6_commit, x_tr hI hC ht, rq_0, x_op hI hC ht, h0, if_true, k_oc hn hI hC ht, bi_s, y3]
    exact ⟨_, 0, g, r, w0_commits e, rfl, hO.up (by omega) hb2 (by omega) (Int.le_refl _), by rw [x_st hI hC ht, h0], Or.inr (Or.inl ⟨y3, rfl⟩)⟩
  · obtain ⟨g1, a1, a2, a3⟩ := kp_push hn hO.1
    obtain ⟨c1, c2, c3⟩ := oc_cg (r := r) a3 t
    by_cases y2 : oc g r t = -2
    · obtain ⟨w, g2, b1, b2, b3, b4, b5⟩ := y_abort (t := t) hn a2.1 a2.2.1 ht h0
      have e : sX6_commit n g (nI t) = some (0, oc g r t, g2) := by
        simp only [sX6_commit, x_tr hI hC ht, rq_0, x_op hI hC ht, h0, if_true, k_oc hn hI hC ht, bi_s, y3, if_false, a1, sX2_carryOut, y2, b1, bi2_s]
        rfl
      exact ⟨_, 3, g2, _, w0_commits e, rfl, (hO.kpt (a2.st b3 b4 b5) (ab_kpt hI.b40 h0)).up (by omega) hb2 (by omega) (Int.le_refl _), ab_st b3 b4 ht, Or.inl ⟨y2, rfl⟩⟩
    · rcases oc_cases (g := g) (t := t) hI with q1 | q1 | ⟨q1, q2⟩
      · exact absurd q1 y2
      · exact absurd q1 y3
      · have hcf : anyB (cfB g1 r t) 8 = false := by
          rw [c2]
          cases q : anyB (cfB g r t) 8 with
          | false => rfl
          | true =>
            exfalso
            apply y2
            unfold oc
            rw [q, if_pos rfl]
        have hx : oc g r t = ocN g1 r t := q2.trans c3.symm
        obtain ⟨g2, b1, b2, b3, b4⟩ := y_wait hn a2.1 a2.2.1 hb hb2 ht h0 q1 hx
        obtain ⟨s1, s2⟩ := srv_q hI ht
        have ob := ocN_b a2.2.1 a2.1 hb ht
        rw [← hx] at ob
        have e : sX6_commit n g (nI t) = some (0, oc g r t, g2) := by
          simp only [sX6_commit, x_tr hI hC ht, rq_0, x_op hI hC ht, h0, if_true, k_oc hn hI hC ht, bi_s, y3, if_false, a1, sX2_carryOut, y2, b1]
        have eB : nB (wtR r t (oc g r t)) = nB r := wtR_nB s1
        obtain ⟨h1, h2, h3, h4, h5, h6, h7⟩ := hO
        refine ⟨_, 1, g2, wtR r t (oc g r t), w0_commits e, rfl, ⟨a2.st b2 b3 b4, h2.wait a2.2.1 a2.1 hb hub ht h0 q1 hcf hx, ?_, h4, h5, ?_, wv_wait s1 h0 h4 h7⟩, ?_, Or.inr (Or.inr ⟨ob.1, rfl⟩)⟩
        · rw [wtR_lo s1 (by decide) (by omega) (by decide)]; exact h3
        · rw [wtR_lo s1 (by decide) (by omega) (by decide)]; exact h6
        · rw [x_st b3 b2 (by rw [eB]; exact ht), wtR_TX s1 (by decide), if_pos ⟨rfl, rfl⟩]
end VF
