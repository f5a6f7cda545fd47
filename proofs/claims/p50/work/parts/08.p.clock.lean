/-! the pure part: clocks are set, the floor rises -/
section QB
variable {bd bd' : Int} {g g' m : Mem} {r r' : Nat → Int32} {n t k s K T B : Nat} {x : Int32}
theorem inv_head (h : Inv bd r) (hbd : bd ≤ bd') (hl : bd' ≤ 4000000) (hi : ∀ j, 25 ≤ j → r' j = r j) (h3 : r' 3 = r 3) (tm : 0 ≤ (r' 0).toInt ∧ (r' 0).toInt ≤ 1000000) (fl : 0 ≤ (r' 1).toInt ∧ (r' 1).toInt ≤ bd') (as : ∀ s, s < 3 → r' (4 + s) = r (4 + s)) (ck : ∀ s, s < 3 → ckok r' s) : Inv bd' r' := by
  have eB : nB r' = nB r := by unfold nB; rw [h3]
  have eT : ∀ t f, TX r' t f = TX r t f := fun t f => hi _ (by omega)
  have ew : ∀ t k, wr r' t k = wr r t k := fun t k => by unfold wr; rw [eT]
  have ev : ∀ t k, ver r' t k = ver r t k := fun t k => by unfold ver; rw [eT, ew]
  refine ⟨⟨by rw [h3, eB]; exact h.r3, by rw [eB]; exact h.b40⟩, tm, fl, fun s hs => by rw [as s hs]; exact ⟨(h.asg hs).1, Int.le_trans (h.asg hs).2 hbd⟩, ck, fun t ht => ?_, fun t ht => ?_, hl⟩
  · rw [eB] at ht
    have hx := txok_mono hbd (h.tx ht)
    unfold txok at hx ⊢
    simp only [eT]
    exact hx
  · rw [eB] at ht
    simp only [eT, ew, ev, eB]
    exact h.lk t ht
theorem cls_head (hC : Cls g 0 r) (hI : Inv bd r) (hi : ∀ j, 25 ≤ j → r' j = r j) (h3 : r' 3 = r 3) (a : ClA g' 0 r') (e : ∀ k, 5 ≤ k → k < 17 → g' k = g k) : Cls g' 0 r' := by
  have eB : nB r' = nB r := by unfold nB; rw [h3]
  have hb := hI.b40
  have eT : ∀ t f, TX r' t f = TX r t f := fun t f => hi _ (by omega)
  have hR : Row1 r r' 40 := fun t f _ _ _ => eT t f
  have ho : ∀ t, t < nB r' → t ≠ 40 → t < nB r := fun t q _ => by rw [eB] at q; exact q
  have hsv : SV r r' := by
    refine ⟨by rw [eB]; exact Nat.le_refl _, fun u hu k hk => ⟨?_, fun _ => ⟨eT u 2, eT u _⟩⟩, fun u h1 h2 => by rw [eB] at h2; omega⟩
    unfold ver wr
    rw [eT, eT]
  refine cls_row (T := 40) hC hsv (by rw [eB]; exact hb) ho hR a ?_ (e 6 (by decide) (by decide)) (e 7 (by decide) (by decide)) (e 8 (by decide) (by decide)) (fun t _ => ?_) (fun q => by rw [eB] at q; omega) (fun q => by rw [eB] at q; omega)
  · rw [e 9 (by decide) (by decide), h3]; exact (k_b hC hI).trans hI.r3.symm
  · rw [e 10 (by decide) (by decide), e 11 (by decide) (by decide), e 12 (by decide) (by decide), e 13 (by decide) (by decide), e 14 (by decide) (by decide), e 15 (by decide) (by decide), e 16 (by decide) (by decide)]
    exact ⟨rfl, rfl, rfl, rfl, rfl, fun _ _ => ⟨rfl, rfl⟩⟩
theorem set_q {F : Nat} {y v : Int32} (hy : y = nI F) (hs : s < 3) (hF : F < 6) : sX7_sets m (nI s) y v = some (mput m 1 (7 + 6 * s + F) v) := by
  unfold sX7_sets
  have e : ((7 : Int32) + ((6 : Int32) * nI s)) + y = nI (7 + 6 * s + F) := by
    rw [hy]
    show nI 7 + nI 6 * nI s + nI F = _
    rw [pk_mul, nI_add, nI_add]
  rw [e, ix_n (by omega) (by omega), let_s, nI_clamp (by omega)]
theorem CK_st {F q f : Nat} {v : Int32} (hF : F < 6) (hf : f < 6) : CK (upd r (7 + 6 * s + F) v) q f = if q = s ∧ f = F then v else CK r q f := by
  unfold CK upd
  by_cases z : q = s ∧ f = F
  · rw [if_pos z, if_pos (by omega)]
  · rw [if_neg z, if_neg (by omega)]
theorem st_hi {F j : Nat} {v : Int32} (hs : s < 3) (hF : F < 6) (hj : j < 7 ∨ 25 ≤ j) : upd r (7 + 6 * s + F) v j = r j := by
  unfold upd
  rw [if_neg (by omega)]
/-- the cells of one server follow the row -/
theorem cla_srv (h : ClA g 0 r) (hs : s < 3) (ek : ∀ k, k ≠ 2 + s → k < 5 → g' k = g k) (er : ∀ j, j < 7 → r' j = r j) (e6 : g' (2 + s) 6 = g (2 + s) 6) (ec : ∀ q, q < 3 → q ≠ s → ∀ f, f < 6 → CK r' q f = CK r q f) (es : ∀ f, f < 6 → g' (2 + s) f = CK r' s f) : ClA g' 0 r' := by
  obtain ⟨a1, a2, a3, a4, a5⟩ := h
  refine ⟨by rw [ek 0 (by omega) (by decide), er 0 (by decide)]; exact a1, by rw [ek 0 (by omega) (by decide), er 1 (by decide)]; exact a2, by rw [ek 0 (by omega) (by decide), er 2 (by decide)]; exact a3, fun q hq f hf => ?_, fun q hq => ?_⟩
  · rw [Nat.zero_add]
    by_cases z : q = s
    · rw [z]; exact es f hf
    · rw [ek _ (by omega) (by omega), ec q hq z f hf]
      have := a4 q hq f hf
      simpa using this
  · rw [Nat.zero_add, er _ (by omega)]
    have := a5 q hq
    rw [Nat.zero_add] at this
    by_cases z : q = s
    · rw [z, e6, ← z]; exact this
    · rw [ek _ (by omega) (by omega)]; exact this
theorem op_sync (hC : Cls g 0 (m 1)) (hI : Inv bd (m 1)) (hs : s < 3) (h1 : -500 ≤ x.toInt) (h2 : x.toInt ≤ 500) : StO bd g m (sX2_synchronizeClock g 0 (nI s) x) (sX7_synchronizes m (nI s) x) := by
  have htm := hI.tm
  have hbs : (nI s).toNatClampNeg = s := nI_clamp (by omega)
  obtain ⟨R, hR⟩ : ∃ z, z = upd (upd (upd (m 1) (7 + 6 * s + 0) x) (7 + 6 * s + 1) (m 1 0)) (7 + 6 * s + 5) (m 1 0) := ⟨_, rfl⟩
  have eC : ∀ q f, q < 3 → f < 6 → CK R q f = if q = s ∧ f = 5 then m 1 0 else if q = s ∧ f = 1 then m 1 0 else if q = s ∧ f = 0 then x else CK (m 1) q f := fun q f hq hf => by
    rw [hR, CK_st (by decide) hf, CK_st (by decide) hf, CK_st (by decide) hf]
  have eh : ∀ j, j < 7 ∨ 25 ≤ j → R j = m 1 j := fun j hj => by rw [hR, st_hi hs (by decide) hj, st_hi hs (by decide) hj, st_hi hs (by decide) hj]
  have ec : ∀ q, q < 3 → q ≠ s → ∀ f, f < 6 → CK R q f = CK (m 1) q f := fun q hq hne f hf => by rw [eC q f hq hf, if_neg (by omega), if_neg (by omega), if_neg (by omega)]
  have c0 : CK R s 0 = x := by rw [eC s 0 hs (by decide), if_neg (by omega), if_neg (by omega), if_pos ⟨rfl, rfl⟩]
  have c1 : CK R s 1 = m 1 0 := by rw [eC s 1 hs (by decide), if_neg (by omega), if_pos ⟨rfl, rfl⟩]
  have c5 : CK R s 5 = m 1 0 := by rw [eC s 5 hs (by decide), if_pos ⟨rfl, rfl⟩]
  have co : ∀ f, f < 6 → f ≠ 0 → f ≠ 1 → f ≠ 5 → CK R s f = CK (m 1) s f := fun f hf h0 h1 h5 => by rw [eC s f hs hf, if_neg (by omega), if_neg (by omega), if_neg (by omega)]
  have hI' : Inv bd R := by
    refine inv_head hI (Int.le_refl _) hI.bdl (fun j hj => eh j (Or.inr hj)) (eh 3 (by omega)) (by rw [eh 0 (by omega)]; exact htm) (by rw [eh 1 (by omega)]; exact hI.fl) (fun q hq => eh _ (by omega)) (fun q hq => ?_)
    by_cases z : q = s
    · rw [z]
      have hk := hI.ck hs
      unfold ckok at hk ⊢
      rw [c0, c1, c5, co 2 (by decide) (by decide) (by decide) (by decide), co 3 (by decide) (by decide) (by decide) (by decide), co 4 (by decide) (by decide) (by decide) (by decide), eh 0 (by omega)]
      omega
    · exact ck_row (hI.ck hq) (eh 0 (by omega)) (ec q hq z)
  have eM : mput (mput (mput m 1 (7 + 6 * s + 0) x) 1 (7 + 6 * s + 1) (m 1 0)) 1 (7 + 6 * s + 5) (m 1 0) 1 = R := by rw [mput_eq, mput_eq, mput_eq, hR]
  refine ⟨x - iI (offI (m 1) s (m 1 0).toInt), mput (mput (mput g (2 + s) 0 x) (2 + s) 1 (m 1 0)) (2 + s) 5 (m 1 0), mput (mput (mput m 1 (7 + 6 * s + 0) x) 1 (7 + 6 * s + 1) (m 1 0)) 1 (7 + 6 * s + 5) (m 1 0), ?_, ?_, ?_, by rw [eM]; exact hI', fun k hk => by rw [mput_ne (by omega), mput_ne (by omega), mput_ne (by omega)], fun k hk => by rw [mput_ne hk, mput_ne hk, mput_ne hk]⟩
  · unfold sX2_synchronizeClock sX1_setOffset
    simp only [Nat.zero_add, Nat.reduceAdd, ix3 hs, hbs, k_t0 hC, k_off (hI.ck hs) hC hs (tm_r hI), bi_s, let_s]
  · unfold sX7_synchronizes
    rw [r_i0, c_0, r_off (hI.ck hs) hs (tm_r hI), bi_s, set_q (F := 0) (y := 0) rfl hs (by decide), bi_s, r_i0, mp_at (by omega), set_q (F := 1) (y := 1) rfl hs (by decide), bi_s, r_i0, mp_at (by omega), mp_at (by omega), set_q (F := 5) (y := 5) rfl hs (by decide), bi_s]
  · rw [eM]
    refine cls_head hC hI (fun j hj => eh j (Or.inr hj)) (eh 3 (by omega)) (cla_srv hC.1 hs (fun k h1 _ => by rw [mput_ne h1, mput_ne h1, mput_ne h1]) (fun j hj => eh j (Or.inl hj)) (by rw [mp_at (by decide), mp_at (by decide), mp_at (by decide)]) ec (fun f hf => ?_)) (fun k h1 h2 => by rw [mput_ne (by omega), mput_ne (by omega), mput_ne (by omega)])
    rcases (show f = 0 ∨ f = 1 ∨ f = 5 ∨ (f ≠ 0 ∧ f ≠ 1 ∧ f ≠ 5) by omega) with z | z | z | ⟨z1, z2, z3⟩
    · rw [z, c0, mp_at (by decide), mp_at (by decide), mp_eq]
    · rw [z, c1, mp_at (by decide), mp_eq]
    · rw [z, c5, mp_eq]
    · rw [mp_at z3, mp_at z2, mp_at z1, co f hf z1 z2 z3]
      exact k_ck hC hs hf
theorem op_drift (hC : Cls g 0 (m 1)) (hI : Inv bd (m 1)) (hs : s < 3) (h1 : -100 ≤ x.toInt) (h2 : x.toInt ≤ 100) : StO bd g m (sX1_changeDrift g (2 + s) x (m 1 0)) (sBi (sX7_clock m (nI s) (2 : Int32)) fun r19 => sIdx (0 : Int32) 865 fun _ => sBi (sX7_offset m (nI s) (m 1 (0 : Int32).toNatClampNeg)) fun r23 => sBi (sX7_sets m (nI s) (0 : Int32) r23) fun g26 => sIdx (0 : Int32) 865 fun _ => sBi (sX7_sets g26 (nI s) (1 : Int32) (g26 1 (0 : Int32).toNatClampNeg)) fun g30 => sBi (sX7_sets g30 (nI s) (2 : Int32) x) fun g33 => some (r19, g33)) := by
  have htm := hI.tm
  have ho := off_b (hI.ck hs) (Int.le_refl _)
  obtain ⟨y, hy⟩ : ∃ z, z = iI (offI (m 1) s (m 1 0).toInt) := ⟨_, rfl⟩
  have yi : y.toInt = offI (m 1) s (m 1 0).toInt := by rw [hy]; exact iI_toInt (by omega) (by omega)
  obtain ⟨R, hR⟩ : ∃ z, z = upd (upd (upd (m 1) (7 + 6 * s + 0) y) (7 + 6 * s + 1) (m 1 0)) (7 + 6 * s + 2) x := ⟨_, rfl⟩
  have eC : ∀ q f, q < 3 → f < 6 → CK R q f = if q = s ∧ f = 2 then x else if q = s ∧ f = 1 then m 1 0 else if q = s ∧ f = 0 then y else CK (m 1) q f := fun q f hq hf => by
    rw [hR, CK_st (by decide) hf, CK_st (by decide) hf, CK_st (by decide) hf]
  have eh : ∀ j, j < 7 ∨ 25 ≤ j → R j = m 1 j := fun j hj => by rw [hR, st_hi hs (by decide) hj, st_hi hs (by decide) hj, st_hi hs (by decide) hj]
  have ec : ∀ q, q < 3 → q ≠ s → ∀ f, f < 6 → CK R q f = CK (m 1) q f := fun q hq hne f hf => by rw [eC q f hq hf, if_neg (by omega), if_neg (by omega), if_neg (by omega)]
  have c0 : CK R s 0 = y := by rw [eC s 0 hs (by decide), if_neg (by omega), if_neg (by omega), if_pos ⟨rfl, rfl⟩]
  have c1 : CK R s 1 = m 1 0 := by rw [eC s 1 hs (by decide), if_neg (by omega), if_pos ⟨rfl, rfl⟩]
  have c5 : CK R s 2 = x := by rw [eC s 2 hs (by decide), if_pos ⟨rfl, rfl⟩]
  have co : ∀ f, f < 6 → f ≠ 0 → f ≠ 1 → f ≠ 2 → CK R s f = CK (m 1) s f := fun f hf h0 h1 h5 => by rw [eC s f hs hf, if_neg (by omega), if_neg (by omega), if_neg (by omega)]
  have hI' : Inv bd R := by
    refine inv_head hI (Int.le_refl _) hI.bdl (fun j hj => eh j (Or.inr hj)) (eh 3 (by omega)) (by rw [eh 0 (by omega)]; exact htm) (by rw [eh 1 (by omega)]; exact hI.fl) (fun q hq => eh _ (by omega)) (fun q hq => ?_)
    by_cases z : q = s
    · rw [z]
      have hk := hI.ck hs
      unfold ckok at hk ⊢
      rw [c0, c1, c5, co 3 (by decide) (by decide) (by decide) (by decide), co 4 (by decide) (by decide) (by decide) (by decide), co 5 (by decide) (by decide) (by decide) (by decide), eh 0 (by omega), yi]
      omega
    · exact ck_row (hI.ck hq) (eh 0 (by omega)) (ec q hq z)
  have eM : mput (mput (mput m 1 (7 + 6 * s + 0) y) 1 (7 + 6 * s + 1) (m 1 0)) 1 (7 + 6 * s + 2) x 1 = R := by rw [mput_eq, mput_eq, mput_eq, hR]
  refine ⟨CK (m 1) s 2, mput (mput (mput g (2 + s) 0 y) (2 + s) 1 (m 1 0)) (2 + s) 2 x, mput (mput (mput m 1 (7 + 6 * s + 0) y) 1 (7 + 6 * s + 1) (m 1 0)) 1 (7 + 6 * s + 2) x, ?_, ?_, ?_, by rw [eM]; exact hI', fun k hk => by rw [mput_ne (by omega), mput_ne (by omega), mput_ne (by omega)], fun k hk => by rw [mput_ne hk, mput_ne hk, mput_ne hk]⟩
  · unfold sX1_changeDrift
    simp only [k_off (hI.ck hs) hC hs (tm_r hI), bi_s, let_s, k_ck hC hs (show 2 < 6 by decide), hy]
  · rw [r_ck2 hs, bi_s, r_i0, c_0, r_off (hI.ck hs) hs (tm_r hI), bi_s, ← hy, set_q (F := 0) (y := 0) rfl hs (by decide), bi_s, r_i0, mp_at (by omega), set_q (F := 1) (y := 1) rfl hs (by decide), bi_s, set_q (F := 2) (y := 2) rfl hs (by decide), bi_s]
  · rw [eM]
    refine cls_head hC hI (fun j hj => eh j (Or.inr hj)) (eh 3 (by omega)) (cla_srv hC.1 hs (fun k h1 _ => by rw [mput_ne h1, mput_ne h1, mput_ne h1]) (fun j hj => eh j (Or.inl hj)) (by rw [mp_at (by decide), mp_at (by decide), mp_at (by decide)]) ec (fun f hf => ?_)) (fun k h1 h2 => by rw [mput_ne (by omega), mput_ne (by omega), mput_ne (by omega)])
    rcases (show f = 0 ∨ f = 1 ∨ f = 2 ∨ (f ≠ 0 ∧ f ≠ 1 ∧ f ≠ 2) by omega) with z | z | z | ⟨z1, z2, z3⟩
    · rw [z, c0, mp_at (by decide), mp_at (by decide), mp_eq]
    · rw [z, c1, mp_at (by decide), mp_eq]
    · rw [z, c5, mp_eq]
    · rw [mp_at z3, mp_at z2, mp_at z1, co f hf z1 z2 z3]
      exact k_ck hC hs hf
theorem op_unc {y : Int32} (hC : Cls g 0 (m 1)) (hI : Inv bd (m 1)) (hs : s < 3) (h1 : 0 ≤ x.toInt) (h2 : x.toInt ≤ 500) (h3 : 0 ≤ y.toInt) (h4 : y.toInt ≤ 100) : StO bd g m (sBi (sX1_changeUncertainty g (2 + s) x y) fun g16 => sBi (sX1_uncertaintyAt g16 (2 + s) (g16 0 0)) fun r20 => some (r20, g16)) (sBi (sX7_sets m (nI s) (3 : Int32) x) fun g24 => sBi (sX7_sets g24 (nI s) (4 : Int32) y) fun g27 => sIdx (0 : Int32) 865 fun _ => sBi (sX7_uncertainty g27 (nI s) (g27 1 (0 : Int32).toNatClampNeg)) fun r31 => some (r31, g27)) := by
  have htm := hI.tm
  obtain ⟨R, hR⟩ : ∃ z, z = upd (upd (m 1) (7 + 6 * s + 3) x) (7 + 6 * s + 4) y := ⟨_, rfl⟩
  have eC : ∀ q f, q < 3 → f < 6 → CK R q f = if q = s ∧ f = 4 then y else if q = s ∧ f = 3 then x else CK (m 1) q f := fun q f hq hf => by
    rw [hR, CK_st (by decide) hf, CK_st (by decide) hf]
  have eh : ∀ j, j < 7 ∨ 25 ≤ j → R j = m 1 j := fun j hj => by rw [hR, st_hi hs (by decide) hj, st_hi hs (by decide) hj]
  have ec : ∀ q, q < 3 → q ≠ s → ∀ f, f < 6 → CK R q f = CK (m 1) q f := fun q hq hne f hf => by rw [eC q f hq hf, if_neg (by omega), if_neg (by omega)]
  have c3 : CK R s 3 = x := by rw [eC s 3 hs (by decide), if_neg (by omega), if_pos ⟨rfl, rfl⟩]
  have c4 : CK R s 4 = y := by rw [eC s 4 hs (by decide), if_pos ⟨rfl, rfl⟩]
  have co : ∀ f, f < 6 → f ≠ 3 → f ≠ 4 → CK R s f = CK (m 1) s f := fun f hf h0 h1 => by rw [eC s f hs hf, if_neg (by omega), if_neg (by omega)]
  have hI' : Inv bd R := by
    refine inv_head hI (Int.le_refl _) hI.bdl (fun j hj => eh j (Or.inr hj)) (eh 3 (by omega)) (by rw [eh 0 (by omega)]; exact htm) (by rw [eh 1 (by omega)]; exact hI.fl) (fun q hq => eh _ (by omega)) (fun q hq => ?_)
    by_cases z : q = s
    · rw [z]
      have hk := hI.ck hs
      unfold ckok at hk ⊢
      rw [c3, c4, co 0 (by decide) (by decide) (by decide), co 1 (by decide) (by decide) (by decide), co 2 (by decide) (by decide) (by decide), co 5 (by decide) (by decide) (by decide), eh 0 (by omega)]
      omega
    · exact ck_row (hI.ck hq) (eh 0 (by omega)) (ec q hq z)
  have eM : mput (mput m 1 (7 + 6 * s + 3) x) 1 (7 + 6 * s + 4) y 1 = R := by rw [mput_eq, mput_eq, hR]
  have hC' : Cls (mput (mput g (2 + s) 3 x) (2 + s) 4 y) 0 R := by
    refine cls_head hC hI (fun j hj => eh j (Or.inr hj)) (eh 3 (by omega)) (cla_srv hC.1 hs (fun k h1 _ => by rw [mput_ne h1, mput_ne h1]) (fun j hj => eh j (Or.inl hj)) (by rw [mp_at (by decide), mp_at (by decide)]) ec (fun f hf => ?_)) (fun k h1 h2 => by rw [mput_ne (by omega), mput_ne (by omega)])
    rcases (show f = 3 ∨ f = 4 ∨ (f ≠ 3 ∧ f ≠ 4) by omega) with z | z | ⟨z1, z2⟩
    · rw [z, c3, mp_at (by decide), mp_eq]
    · rw [z, c4, mp_eq]
    · rw [mp_at z2, mp_at z1, co f hf z1 z2]
      exact k_ck hC hs hf
  have e0 : R 0 = m 1 0 := eh 0 (by omega)
  refine ⟨iI (uncI R s (R 0).toInt), mput (mput g (2 + s) 3 x) (2 + s) 4 y, mput (mput m 1 (7 + 6 * s + 3) x) 1 (7 + 6 * s + 4) y, ?_, ?_, by rw [eM]; exact hC', by rw [eM]; exact hI', fun k hk => by rw [mput_ne (by omega), mput_ne (by omega)], fun k hk => by rw [mput_ne hk, mput_ne hk]⟩
  · unfold sX1_changeUncertainty
    rw [let_s, let_s, bi_s, k_t0 hC', k_unc (hI'.ck hs) hC' hs (tm_r hI'), bi_s]
  · rw [set_q (F := 3) (y := 3) rfl hs (by decide), bi_s, set_q (F := 4) (y := 4) rfl hs (by decide), bi_s, r_i0, c_0]
    have := r_unc (m := mput (mput m 1 (7 + 6 * s + 3) x) 1 (7 + 6 * s + 4) y) (s := s) (x := R 0) (by rw [eM]; exact hI'.ck hs) hs (by rw [eM]; exact tm_r hI')
    rw [eM] at this ⊢
    rw [this, bi_s]
theorem sfN_b (h : Inv bd r) (hb : 3100000 ≤ bd) : (sfN r).toInt ≤ bd := by
  have key : ∀ d i (a : Int32), i + d ≤ nB r → (itr (sfS r) i d a).toInt ≤ a.toInt := by
    intro d
    induction d with
    | zero => intro i a _; exact Int.le_refl _
    | succ d ih =>
      intro i a hd
      show (itr (sfS r) (i + 1) d (sfS r i a)).toInt ≤ a.toInt
      refine Int.le_trans (ih (i + 1) _ (by omega)) ?_
      unfold sfS
      split
      · rw [sMin_i]; omega
      · exact Int.le_refl _
  have h1 := key (nB r) 0 (sf3 r (r 0).toInt) (by omega)
  have h2 := sf3_i h (Int.le_refl _) (by have := h.tm.2; omega)
  have h3 := (nx_b h (s := 0) (by decide) (Int.le_refl _) (by have := h.tm.2; omega)).2
  have h1' : (sfN r).toInt ≤ (sf3 r (r 0).toInt).toInt := h1
  omega
theorem op_floor (hn : 10010 ≤ n) (hC : Cls g 0 (m 1)) (hI : Inv bd (m 1)) (hk : k < 8) (h0 : 0 ≤ x.toInt) (h1 : x.toInt ≤ bd) : ∃ v, sX5_valueOf n (mput g 0 1 (sMax (g 0 1) x)) 5 (nI k) x = some v ∧ sX7_value n (mput m 1 1 (sMax (m 1 1) x)) (nI k) x = some v ∧ Cls (mput g 0 1 (sMax (g 0 1) x)) 0 (mput m 1 1 (sMax (m 1 1) x) 1) ∧ Inv bd (mput m 1 1 (sMax (m 1 1) x) 1) := by
  have e1 : g 0 1 = m 1 1 := k_t1 hC
  rw [e1]
  have ej : ∀ j, j ≠ 1 → upd (m 1) 1 (sMax (m 1 1) x) j = m 1 j := fun j hj => pk_un hj
  have hfl := hI.fl
  have hI' : Inv bd (mput m 1 1 (sMax (m 1 1) x) 1) := by
    rw [p_eq]
    refine inv_head hI (Int.le_refl _) hI.bdl (fun j hj => ej j (by omega)) (ej 3 (by decide)) (by rw [ej 0 (by decide)]; exact hI.tm) (by rw [pk_us, sMax_i]; omega) (fun q hq => ej _ (by omega)) (fun q hq => ck_row (hI.ck hq) (ej 0 (by decide)) (fun f hf => ej _ (by omega)))
  have hC' : Cls (mput g 0 1 (sMax (m 1 1) x)) 0 (mput m 1 1 (sMax (m 1 1) x) 1) := by
    rw [p_eq]
    obtain ⟨a1, a2, a3, a4, a5⟩ := hC.1
    refine cls_head hC hI (fun j hj => ej j (by omega)) (ej 3 (by decide)) ⟨?_, ?_, ?_, fun q hq f hf => ?_, fun q hq => ?_⟩ (fun k h1 h2 => mput_ne (by omega))
    · rw [mp_at (by decide), ej 0 (by decide)]; exact a1
    · rw [mp_eq, pk_us]
    · rw [mp_at (by decide), ej 2 (by decide)]; exact a3
    · rw [mput_ne (by omega)]
      show _ = upd (m 1) 1 (sMax (m 1 1) x) (7 + 6 * q + f)
      rw [ej _ (by omega)]
      exact a4 q hq f hf
    · rw [mput_ne (by omega), ej _ (by omega)]
      exact a5 q hq
  obtain ⟨v, v1, v2⟩ := value_sim hn hI' hC' hk x
  exact ⟨v, v1, v2, hC', hI'⟩
end QB
