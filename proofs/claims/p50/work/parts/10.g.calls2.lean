/-! the law's calls of the class: the ticks, the clocks, the snapshot reads -/
section VG
variable {bd ub tb : Int} {g g' : Mem} {r r' R : Nat → Int32} {n t k s q L : Nat} {x v y : Int32}
def gmr (r : Nat → Int32) : Mem := fun k => if k = 1 then r else fun _ => 0
theorem gmr_1 (r : Nat → Int32) : gmr r 1 = r := if_pos rfl
theorem ct_cnt (r : Nat → Int32) (x : Int32) : ct r x = nI (cnt (fun t => decide (TX r t 1 = x)) (nB r)) := by
  have key : ∀ d i, itr (ctS r x) i d (nI (cnt (fun t => decide (TX r t 1 = x)) i)) = nI (cnt (fun t => decide (TX r t 1 = x)) (i + d)) := by
    intro d
    induction d with
    | zero => intro i; rfl
    | succ d ih =>
      intro i
      show itr (ctS r x) (i + 1) d (ctS r x i (nI (cnt (fun t => decide (TX r t 1 = x)) i))) = _
      have e : ctS r x i (nI (cnt (fun t => decide (TX r t 1 = x)) i)) = nI (cnt (fun t => decide (TX r t 1 = x)) (i + 1)) := by
        unfold ctS
        show _ = nI (cnt (fun t => decide (TX r t 1 = x)) i + if decide (TX r i 1 = x) = true then 1 else 0)
        by_cases z : TX r i 1 = x
        · rw [if_pos z, decide_eq_true z, if_pos rfl, nI_1]
        · rw [if_neg z, decide_eq_false z, if_neg (by decide), Nat.add_zero]
      rw [e, ih (i + 1), show i + 1 + d = i + (d + 1) by omega]
  have := key (nB r) 0
  rw [Nat.zero_add] at this
  exact this
theorem cnt_or {p a b : Nat → Bool} : ∀ n, (∀ i, i < n → p i = (a i || b i)) → (∀ i, i < n → ¬ (a i = true ∧ b i = true)) → cnt p n = cnt a n + cnt b n
  | 0, _, _ => rfl
  | n + 1, h1, h2 => by
    have ih := cnt_or n (fun i hi => h1 i (by omega)) (fun i hi => h2 i (by omega))
    have e1 := h1 n (by omega)
    have e2 := h2 n (by omega)
    show cnt p n + (if p n = true then 1 else 0) = (cnt a n + (if a n = true then 1 else 0)) + (cnt b n + (if b n = true then 1 else 0))
    rw [ih, e1]
    cases ea : a n <;> cases eb : b n <;> simp [ea, eb] at e2 ⊢ <;> omega
theorem z_adv (hn : 10010 ≤ n) (hO : Oh bd ub tb g r k x v) (hub : ub ≤ 1000000) (hT : tb + L ≤ 1000000) (h1 : 1 ≤ L) (hL : L ≤ 1000) : ∃ (g' : Mem) (r' : Nat → Int32) (a c : Nat), sX6_advance n g (nI L) = some (0, nI c, g') ∧ Oh bd (ub + 40) (tb + L) g' r' k x v ∧ sX6_trueTime g' = some (r 0 + nI L) ∧ sX6_countInState n g 2 = some (0, nI a) ∧ sX6_countInState n g' 2 = some (0, nI (a + c)) := by
  have hC := hO.1.1
  have hI := hO.1.2.1
  obtain ⟨hP, h2, h3, h4, h5, h6, h7⟩ := hO
  have hb := hI.b40
  obtain ⟨g1, a1, a2, a3⟩ := kp_push hn hP
  obtain ⟨g2, R, b1, b2, b3, b4⟩ := k_adv hn a2.1 a2.2.1 hL
  have er : sX6_requireRange g (nI L) (1 : Int32) (1000 : Int32) = some 0 := x_rng g (by rw [l_1, nI_toInt (by omega)]; omega) (by rw [l_1000, nI_toInt (by omega)]; omega)
  have es := (tm_c hI (c := L) (by omega)).2
  have l1k : ((1000000 : Int32)).toInt = 1000000 := by decide
  have z1 : ¬ (1000000 : Int32) < r 0 + nI L := by rw [i_lt, l1k, es]; omega
  have e : sX6_advance n g (nI L) = some (0, nI (cnt (cA r L (nB r)) (nB r)), g2) := by
    simp only [sX6_advance, er, rq_0, sX2_canAdvance, k_t0 hC, z1, if_false, bi_s, i10, a1, b1, bi2_s]
  have hIR : Inv bd R := by
    obtain ⟨m', c1, c2, c3, c4⟩ := r_adv (m := gmr r) (L := L) hn (by rw [gmr_1]; exact hI) hL (by rw [gmr_1]; omega)
    rw [gmr_1] at c3
    rw [b2.eq c3]
    exact c2
  have eB : nB R = nB r := b2.eqB
  have hP' : KP bd g2 R := a2.st b3 hIR b4
  have hct : cnt (fun t => decide (TX R t 1 = 2)) (nB r) = cnt (fun t => decide (TX r t 1 = 2)) (nB r) + cnt (cA r L (nB r)) (nB r) := by
    refine cnt_or (nB r) (fun i hi => ?_) (fun i hi z => ?_)
    · have q := (rc_st b2 hi).2
      by_cases z : TX R i 1 = 2
      · rw [decide_eq_true z]
        rcases q.mp z with y | y
        · rw [decide_eq_true y]; rfl
        · rw [cA_iff.mpr ⟨hi, y⟩, Bool.or_true]
      · rw [decide_eq_false z]
        have y1 : ¬ TX r i 1 = 2 := fun y => z (q.mpr (Or.inl y))
        have y2 : cA r L (nB r) i = false := by
          cases w : cA r L (nB r) i with
          | false => rfl
          | true => exact absurd (q.mpr (Or.inr (cA_iff.mp w).2)) z
        rw [decide_eq_false y1, y2]; rfl
    · have q1 := of_decide_eq_true z.1
      have q2 := (cA_iff.mp z.2).2.1
      rw [q1] at q2
      exact absurd q2 (by decide)
  refine ⟨g2, R, cnt (fun t => decide (TX r t 1 = 2)) (nB r), cnt (cA r L (nB r)) (nB r), e, ⟨hP', h2.adv b2 hI hL hub, ?_, h4, h5, ?_, wv_adv b2 h2.f6 h6 h4 h7⟩, ?_, ?_, ?_⟩
  · rw [b2.1, es]; omega
  · rw [b2.lo (by decide) (by decide) (by decide)]; exact h6
  · rw [x_tm b3, b2.1]
  · rw [x_cnt hn hI hC, ct_cnt]
  · rw [x_cnt hn hIR b3, ct_cnt, eB, hct]
/-! clocks -/
theorem iI_self (x : Int32) : iI x.toInt = x := (iI_of rfl).symm
theorem off_0 (r : Nat → Int32) (s : Nat) (T : Int) (h : (CK r s 1).toInt = T) : offI r s T = (CK r s 0).toInt := by
  unfold offI
  rw [h, Int.sub_self, Int.mul_zero]
  omega
theorem z_sync (hn : 10010 ≤ n) (hO : Oh bd ub tb g r k x v) (hs : s < 3) (h1 : -500 ≤ y.toInt) (h2 : y.toInt ≤ 500) : ∃ (g' : Mem) (r' : Nat → Int32) (a b w : Int32), sX6_reading g (nI s) = some (0, a) ∧ sX6_synchronize n g (nI s) y = some (0, w, g') ∧ Oh bd ub tb g' r' k x v ∧ sX6_reading g' (nI s) = some (0, b) ∧ w = b - a ∧ sX6_trueTime g' = some (r 0) ∧ b = r 0 + y := by
  have hC := hO.1.1
  have hI := hO.1.2.1
  have htm := hI.tm
  have ho := off_b (hI.ck hs) (Int.le_refl (r 0).toInt)
  obtain ⟨g1, a1, a2, a3⟩ := kp_push hn hO.1
  obtain ⟨w, g2, b1, b2, b3, b4, b5⟩ := y_sync (s := s) (x := y) a2.1 a2.2.1 hs h1 h2
  have er : sX6_requireRange g y (-500 : Int32) (500 : Int32) = some 0 := x_rng g (by rw [l_m500]; exact h1) (by rw [l_500]; exact h2)
  have e : sX6_synchronize n g (nI s) y = some (0, w, g2) := by
    simp only [sX6_synchronize, x_srv g hs, er, rq_0, a1, b1, bi_s, bi2_s]
  have eh : ∀ j, j < 7 ∨ 25 ≤ j → syR r s y j = r j := fun j hj => by
    unfold syR
    rw [st_hi hs (by decide) hj, st_hi hs (by decide) hj, st_hi hs (by decide) hj]
  have c0 : CK (syR r s y) s 0 = y := by
    unfold syR
    rw [CK_st (by decide) (by decide), if_neg (by omega), CK_st (by decide) (by decide), if_neg (by omega), CK_st (by decide) (by decide), if_pos ⟨rfl, rfl⟩]
  have c1 : CK (syR r s y) s 1 = r 0 := by
    unfold syR
    rw [CK_st (by decide) (by decide), if_neg (by omega), CK_st (by decide) (by decide), if_pos ⟨rfl, rfl⟩]
  have e0 : syR r s y 0 = r 0 := eh 0 (by omega)
  have eo : offI (syR r s y) s (r 0).toInt = y.toInt := by rw [off_0 _ _ _ (by rw [c1]), c0]
  have ei : (iI (offI r s (r 0).toInt)).toInt = offI r s (r 0).toInt := iI_toInt (by omega) (by omega)
  refine ⟨g2, _, _, r 0 + y, w, x_rdg hI hC hs, e, hO.kpt (a2.st b3 b4 b5) (kpt_hi eh), ?_, ?_, by rw [x_tm b3, e0], rfl⟩
  · rw [x_rdg b4 b3 hs, e0, eo, iI_self]
  · have q1 : (r 0 + y).toInt = (r 0).toInt + y.toInt := i_add (by omega) (by omega)
    have q2 : (r 0 + iI (offI r s (r 0).toInt)).toInt = (r 0).toInt + offI r s (r 0).toInt := by rw [i_add (by rw [ei]; omega) (by rw [ei]; omega), ei]
    rw [b2, i_eq, i_sub (by rw [ei]; omega) (by rw [ei]; omega), i_sub (by rw [q1, q2]; omega) (by rw [q1, q2]; omega), q1, q2, ei]
    omega
theorem z_drift (hn : 10010 ≤ n) (hO : Oh bd ub tb g r k x v) (hs : s < 3) (h1 : -100 ≤ y.toInt) (h2 : y.toInt ≤ 100) : ∃ (g' : Mem) (r' : Nat → Int32) (a w : Int32), sX6_reading g (nI s) = some (0, a) ∧ sX6_setDrift n g (nI s) y = some (0, w, g') ∧ Oh bd ub tb g' r' k x v ∧ sX6_reading g' (nI s) = some (0, a) ∧ -100 ≤ w.toInt ∧ w.toInt ≤ 100 := by
  have hC := hO.1.1
  have hI := hO.1.2.1
  have htm := hI.tm
  have ho := off_b (hI.ck hs) (Int.le_refl (r 0).toInt)
  have hck := hI.ck hs
  obtain ⟨g1, a1, a2, a3⟩ := kp_push hn hO.1
  obtain ⟨w, g2, b1, b2, b3, b4, b5⟩ := y_drift (s := s) (x := y) a2.1 a2.2.1 hs h1 h2
  have er : sX6_requireRange g y (-100 : Int32) (100 : Int32) = some 0 := x_rng g (by rw [l_m100]; exact h1) (by rw [l_100]; exact h2)
  have hbs : (nI s).toNatClampNeg = s := nI_clamp (by omega)
  have e : sX6_setDrift n g (nI s) y = some (0, w, g2) := by
    simp only [sX6_setDrift, x_srv g hs, er, rq_0, a1, bi_s, ix3 hs, hbs, Nat.zero_add, Nat.reduceAdd, k_t0 a2.1, b1, bi2_s]
  have eh : ∀ j, j < 7 ∨ 25 ≤ j → drR r s y j = r j := fun j hj => by
    unfold drR
    rw [st_hi hs (by decide) hj, st_hi hs (by decide) hj, st_hi hs (by decide) hj]
  have c0 : CK (drR r s y) s 0 = iI (offI r s (r 0).toInt) := by
    unfold drR
    rw [CK_st (by decide) (by decide), if_neg (by omega), CK_st (by decide) (by decide), if_neg (by omega), CK_st (by decide) (by decide), if_pos ⟨rfl, rfl⟩]
  have c1 : CK (drR r s y) s 1 = r 0 := by
    unfold drR
    rw [CK_st (by decide) (by decide), if_neg (by omega), CK_st (by decide) (by decide), if_pos ⟨rfl, rfl⟩]
  have e0 : drR r s y 0 = r 0 := eh 0 (by omega)
  have ei : (iI (offI r s (r 0).toInt)).toInt = offI r s (r 0).toInt := iI_toInt (by omega) (by omega)
  have eo : offI (drR r s y) s (r 0).toInt = offI r s (r 0).toInt := by rw [off_0 _ _ _ (by rw [c1]), c0, ei]
  unfold ckok at hck
  refine ⟨g2, _, _, w, x_rdg hI hC hs, e, hO.kpt (a2.st b3 b4 b5) (kpt_hi eh), ?_, by rw [b2]; omega, by rw [b2]; omega⟩
  rw [x_rdg b4 b3 hs, e0, eo]
theorem z_unc (hn : 10010 ≤ n) (hO : Oh bd ub tb g r k x v) (hs : s < 3) {z : Int32} (h1 : 0 ≤ y.toInt) (h2 : y.toInt ≤ 500) (h3 : 0 ≤ z.toInt) (h4 : z.toInt ≤ 100) : ∃ (g' : Mem) (r' : Nat → Int32) (w la ea : Int32) (sd : Bool), sX6_setUncertainty n g (nI s) y z = some (0, w, g') ∧ Oh bd ub tb g' r' k x v ∧ sX6_latest g' (nI s) = some (0, la) ∧ sX6_earliest g' (nI s) = some (0, ea) ∧ la - ea = 2 * w ∧ sX6_isSound g' (nI s) = some (0, b2 sd) ∧ sX6_trueTime g' = some (r 0) ∧ (sd = true ↔ ea.toInt ≤ (r 0).toInt ∧ (r 0).toInt ≤ la.toInt) := by
  have hC := hO.1.1
  have hI := hO.1.2.1
  have htm := hI.tm
  obtain ⟨g1, a1, a2, a3⟩ := kp_push hn hO.1
  obtain ⟨w, g2, b1, b2', b3, b4, b5⟩ := y_unc (s := s) (x := y) (y := z) a2.1 a2.2.1 hs h1 h2 h3 h4
  have er : sX6_requireRange g y (0 : Int32) (500 : Int32) = some 0 := x_rng g (by rw [l_0]; exact h1) (by rw [l_500]; exact h2)
  have er2 : sX6_requireRange g z (0 : Int32) (100 : Int32) = some 0 := x_rng g (by rw [l_0]; exact h3) (by rw [l_100]; exact h4)
  have hbs : (nI s).toNatClampNeg = s := nI_clamp (by omega)
  obtain ⟨g3, d3, b1'⟩ := sBi_some b1
  obtain ⟨u3, d4, b1''⟩ := sBi_some b1'
  injection b1'' with b1''
  injection b1'' with b11 b12
  subst b11
  subst b12
  have e : sX6_setUncertainty n g (nI s) y z = some (0, u3, g3) := by
    simp only [sX6_setUncertainty, x_srv g hs, er, er2, rq_0, a1, bi_s, ix3 hs, hbs, Nat.zero_add, Nat.reduceAdd, d3, d4]
  have eh : ∀ j, j < 7 ∨ 25 ≤ j → unR r s y z j = r j := fun j hj => by
    unfold unR
    rw [st_hi hs (by decide) hj, st_hi hs (by decide) hj]
  have e0 : unR r s y z 0 = r 0 := eh 0 (by omega)
  have hck := b4.ck hs
  have hof := off_b hck (t := (r 0).toInt) (by rw [e0]; exact Int.le_refl _)
  have hun := unc_b hck (t := (r 0).toInt) (by rw [e0]; exact Int.le_refl _)
  have ela : (iI (latI (unR r s y z) s (r 0).toInt)).toInt = latI (unR r s y z) s (r 0).toInt := iI_toInt (by unfold latI; omega) (by unfold latI; omega)
  have eea : (iI (earI (unR r s y z) s (r 0).toInt)).toInt = earI (unR r s y z) s (r 0).toInt := iI_toInt (by unfold earI; omega) (by unfold earI; omega)
  have eun : (iI (uncI (unR r s y z) s (r 0).toInt)).toInt = uncI (unR r s y z) s (r 0).toInt := iI_toInt (by omega) (by omega)
  have l2 : ((2 : Int32)).toInt = 2 := by decide
  refine ⟨g3, _, u3, iI (latI (unR r s y z) s (r 0).toInt), iI (earI (unR r s y z) s (r 0).toInt), sndI (unR r s y z) s (r 0).toInt, e, hO.kpt (a2.st b3 b4 b5) (kpt_hi eh), ?_, ?_, ?_, ?_, by rw [x_tm b3, e0], ?_⟩
  · rw [x_lat b4 b3 hs, e0]
  · rw [x_ear b4 b3 hs, e0]
  · rw [b2', i_eq, i_sub (by rw [ela, eea]; unfold latI earI; omega) (by rw [ela, eea]; unfold latI earI; omega), i_mul (by rw [l2, eun]; omega) (by rw [l2, eun]; omega), ela, eea, eun, l2]
    unfold latI earI
    omega
  · rw [x_snd b4 b3 hs, e0]
  · rw [ela, eea]
    unfold sndI latI earI
    rw [decide_eq_true_iff]
    omega
/-! snapshot reads -/
theorem z_snapNo (hn : 10010 ≤ n) (hO : Oh bd ub tb g r k x v) (hq : q < 8) (h0 : 0 ≤ y.toInt) (h1 : (sfN r).toInt < y.toInt) : sL_snapshots n g (nI q) y = some (-1000000, g) := by
  have hC := hO.1.1
  have hI := hO.1.2.1
  have z : ¬ y ≤ sfN r := by rw [i_le]; omega
  refine w3_snapshots ?_
  simp only [sX6_snapshotRead, x_key g hq, x_nn g h0, rq_0, k_sfN hn hI hC, bi_s, z, if_false]
theorem z_snap (hn : 10010 ≤ n) (hO : Oh bd ub tb g r k x v) (hb : 3100000 ≤ bd) (hq : q < 8) (h0 : 0 ≤ y.toInt) (h1 : y.toInt ≤ (sfN r).toInt) {w : Int32} (hw : WV r q y w) : ∃ g' r', sL_snapshots n g (nI q) y = some (w, g') ∧ Oh bd ub tb g' r' q y w ∧ sX6_readFloor g' = some (sMax (r 1) y) := by
  have hC := hO.1.1
  have hI := hO.1.2.1
  obtain ⟨hP, h2, h3, h4, h5, h6, h7⟩ := hO
  obtain ⟨g1, a1, a2, a3⟩ := kp_push hn hP
  have hsb := sfN_b hI hb
  obtain ⟨u, b1, b2, b3, b4⟩ := y_floor (k := q) (x := y) hn a2.1 a2.2.1 hq h0 (by omega)
  have z : y ≤ sfN r := by rw [i_le]; omega
  have e : sX6_snapshotRead n g (nI q) y = some (0, u, mput g1 0 1 (sMax (g1 0 1) y)) := by
    simp only [sX6_snapshotRead, x_key g hq, x_nn g h0, rq_0, k_sfN hn hI hC, bi_s, z, if_true, a1, let_s, Nat.zero_add, b1]
  have hw2 : WV (upd r 1 (sMax (r 1) y)) q y w := wv_hi (fun j hj => pk_un (by omega)) (pk_un (by decide)) hq hw
  have eu : u = w := WV_uq (b3.2.2.1 q hq) b2 hw2
  have e1 : upd r 1 (sMax (r 1) y) 1 = sMax (r 1) y := pk_us
  rw [eu] at e
  refine ⟨_, upd r 1 (sMax (r 1) y), w0_snapshots e, ⟨a2.st b3 b4 (fun k hk => mput_ne (by omega)), h2.floor hI h1, ?_, hq, h0, ?_, hw2⟩, ?_⟩
  · rw [pk_un (by decide)]; exact h3
  · rw [e1, sMax_i]; omega
  · rw [x_floor b3, e1]
end VG
