/-! the pure part: clocks -/
def iI (z : Int) : Int32 := Int32.ofInt z
theorem iI_toInt {z : Int} (h : -2147483648 ≤ z) (h2 : z < 2147483648) : (iI z).toInt = z := Int32.toInt_ofInt_of_le (by omega) (by omega)
theorem iI_of {x : Int32} {z : Int} (h : x.toInt = z) : x = iI z := by
  have h1 := i_lo x
  have h2 := i_hi x
  rw [i_eq, iI_toInt (by omega) (by omega), h]
theorem iI_nI (k : Nat) (h : k < 2147483648) : nI k = iI (k : Int) := iI_of (nI_toInt (by omega))
theorem td_1 (z : Int) : z.tdiv 1000 = if 0 ≤ z then z / 1000 else -((-z) / 1000) := by
  by_cases h : 0 ≤ z
  · rw [if_pos h, Int.tdiv_eq_ediv_of_nonneg h]
  · rw [if_neg h]
    have e : z.tdiv 1000 = -((-z).tdiv 1000) := by rw [Int.neg_tdiv, Int.neg_neg]
    rw [e, Int.tdiv_eq_ediv_of_nonneg (by omega)]
theorem l_1000 : ((1000 : Int32)).toInt = 1000 := by decide
theorem l_999 : ((999 : Int32)).toInt = 999 := by decide
theorem l_0 : ((0 : Int32)).toInt = 0 := by decide
theorem l_1 : ((1 : Int32)).toInt = 1 := by decide
theorem i_d1000 (x : Int32) : (x / (1000 : Int32)).toInt = if 0 ≤ x.toInt then x.toInt / 1000 else -((-x.toInt) / 1000) := by
  rw [i_div (by decide), l_1000, td_1]
theorem xor_sg (x : Int32) : 0 ≤ (x ^^^ (1000 : Int32)) ↔ 0 ≤ x.toInt := by
  have key : ∀ y : Int32, 0 ≤ y ↔ y.toBitVec.msb = false := by
    intro y
    have e : y.toBitVec.msb = decide (y.toBitVec.toInt < 0) := BitVec.msb_eq_toInt
    rw [e, i_le, l_0]
    show 0 ≤ y.toBitVec.toInt ↔ _
    by_cases q : y.toBitVec.toInt < 0
    · rw [decide_eq_true q]
      exact ⟨fun z => by omega, fun z => by cases z⟩
    · rw [decide_eq_false q]
      exact ⟨fun _ => rfl, fun _ => by omega⟩
  have e1 : 0 ≤ x.toInt ↔ 0 ≤ x := by rw [i_le, l_0]
  rw [e1, key, key, Int32.toBitVec_xor, BitVec.msb_xor, show (Int32.toBitVec 1000).msb = false by decide, Bool.xor_false]
theorem k_fdiv {g : Mem} (x : Int32) : sJ9_floorDiv_7cf53 g x (1000 : Int32) = some (iI (x.toInt / 1000)) := by
  have h1 := i_lo x
  have h2 := i_hi x
  have hd := i_d1000 x
  unfold sJ9_floorDiv_7cf53
  rw [if_neg (by decide)]
  by_cases q : 0 ≤ x.toInt
  · rw [if_pos ((xor_sg x).mpr q)]
    rw [if_pos q] at hd
    exact congrArg some (iI_of hd)
  · rw [if_neg (fun z => q ((xor_sg x).mp z))]
    rw [if_neg q] at hd
    have hm : (x / 1000 * 1000).toInt = -((-x.toInt) / 1000) * 1000 := by
      rw [i_mul (by rw [hd, l_1000]; omega) (by rw [hd, l_1000]; omega), hd, l_1000]
    by_cases p : x / 1000 * 1000 = x
    · rw [if_pos p]
      rw [i_eq, hm] at p
      exact congrArg some (iI_of (by rw [hd]; omega))
    · rw [if_neg p]
      rw [i_eq, hm] at p
      refine congrArg some (iI_of ?_)
      rw [i_sub (by rw [hd, l_1]; omega) (by rw [hd, l_1]; omega), hd, l_1]
      omega
theorem r_down {m : Mem} (x : Int32) (h : x.toInt < 2000000000) (h0 : -2000000000 < x.toInt) : sX7_down m x = some (iI (x.toInt / 1000)) := by
  unfold sX7_down
  by_cases q : x < 0
  · rw [if_pos q]
    rw [i_lt, l_0] at q
    have e1 : ((999 : Int32) - x).toInt = 999 - x.toInt := by
      rw [i_sub (by rw [l_999]; omega) (by rw [l_999]; omega), l_999]
    have e2 := i_d1000 ((999 : Int32) - x)
    rw [e1, if_pos (by omega)] at e2
    refine congrArg some (iI_of ?_)
    rw [i_neg (by rw [e2]; omega), e2]
    omega
  · rw [if_neg q]
    rw [i_lt, l_0] at q
    have hd := i_d1000 x
    rw [if_pos (by omega)] at hd
    exact congrArg some (iI_of hd)
theorem mul_b {a b : Int} (h1 : -100 ≤ a) (h2 : a ≤ 100) (h3 : 0 ≤ b) : -100 * b ≤ a * b ∧ a * b ≤ 100 * b := ⟨Int.mul_le_mul_of_nonneg_right h1 h3, Int.mul_le_mul_of_nonneg_right h2 h3⟩
def offI (r : Nat → Int32) (s : Nat) (t : Int) : Int := (CK r s 0).toInt + ((CK r s 2).toInt * (t - (CK r s 1).toInt)) / 1000
def uncI (r : Nat → Int32) (s : Nat) (t : Int) : Int := (CK r s 3).toInt + ((CK r s 4).toInt * (t - (CK r s 5).toInt) + 999) / 1000
def earI (r : Nat → Int32) (s : Nat) (t : Int) : Int := t + offI r s t - uncI r s t
def latI (r : Nat → Int32) (s : Nat) (t : Int) : Int := t + offI r s t + uncI r s t
def sndI (r : Nat → Int32) (s : Nat) (t : Int) : Bool := decide (offI r s t - uncI r s t ≤ 0 ∧ 0 ≤ offI r s t + uncI r s t)
section PK
variable {bd : Int} {g m : Mem} {r : Nat → Int32} {n t k s : Nat} {x : Int32}
theorem off_b (h : ckok r s) {t : Int} (ht : (r 0).toInt ≤ t) : -(500 + t) ≤ offI r s t ∧ offI r s t ≤ 500 + t := by
  obtain ⟨a1, a2, a3, a4, a5, a6, a7, a8, a9, a10, a11, a12⟩ := h
  have := mul_b (b := t - (CK r s 1).toInt) a5 a6 (by omega)
  unfold offI
  omega
theorem unc_b (h : ckok r s) {t : Int} (ht : (r 0).toInt ≤ t) : 0 ≤ uncI r s t ∧ uncI r s t ≤ 501 + t := by
  obtain ⟨a1, a2, a3, a4, a5, a6, a7, a8, a9, a10, a11, a12⟩ := h
  have h1 := mul_b (a := (CK r s 4).toInt) (b := t - (CK r s 5).toInt) (by omega) a10 (by omega)
  have h2 : 0 ≤ (CK r s 4).toInt * (t - (CK r s 5).toInt) := Int.mul_nonneg a9 (by omega)
  unfold uncI
  omega
theorem off_s (h : ckok r s) {t : Int} : offI r s (t + 1) ≤ offI r s t + 1 ∧ offI r s t - 1 ≤ offI r s (t + 1) := by
  obtain ⟨a1, a2, a3, a4, a5, a6, a7, a8, a9, a10, a11, a12⟩ := h
  unfold offI
  rw [show t + 1 - (CK r s 1).toInt = (t - (CK r s 1).toInt) + 1 by omega, Int.mul_add, Int.mul_one]
  omega
theorem unc_s (h : ckok r s) {t : Int} : uncI r s t ≤ uncI r s (t + 1) ∧ uncI r s (t + 1) ≤ uncI r s t + 1 := by
  obtain ⟨a1, a2, a3, a4, a5, a6, a7, a8, a9, a10, a11, a12⟩ := h
  unfold uncI
  rw [show t + 1 - (CK r s 5).toInt = (t - (CK r s 5).toInt) + 1 by omega, Int.mul_add, Int.mul_one]
  omega
theorem ear_s (h : ckok r s) {t : Int} : earI r s (t + 1) ≤ earI r s t + 2 := by
  have h1 := off_s h (t := t)
  have h2 := unc_s h (t := t)
  unfold earI
  omega
theorem lat_s (h : ckok r s) {t : Int} : latI r s t ≤ latI r s (t + 1) ∧ latI r s (t + 1) ≤ latI r s t + 3 := by
  have h1 := off_s h (t := t)
  have h2 := unc_s h (t := t)
  unfold latI
  omega
theorem r_ck {y : Int32} (f : Nat) (hy : y = nI f) (hs : s < 3) (hf : f < 6) : sX7_clock m (nI s) y = some (CK (m 1) s f) := by
  unfold sX7_clock CK
  have e : ((7 : Int32) + ((6 : Int32) * nI s)) + y = nI (7 + 6 * s + f) := by
    rw [hy]
    show nI 7 + nI 6 * nI s + nI f = _
    rw [pk_mul, nI_add, nI_add]
  rw [e, ix_n (by omega) (by omega), nI_clamp (by omega)]
theorem r_ck0 (hs : s < 3) : sX7_clock m (nI s) (0 : Int32) = some (CK (m 1) s 0) := r_ck 0 rfl hs (by decide)
theorem r_ck1 (hs : s < 3) : sX7_clock m (nI s) (1 : Int32) = some (CK (m 1) s 1) := r_ck 1 rfl hs (by decide)
theorem r_ck2 (hs : s < 3) : sX7_clock m (nI s) (2 : Int32) = some (CK (m 1) s 2) := r_ck 2 rfl hs (by decide)
theorem r_ck3 (hs : s < 3) : sX7_clock m (nI s) (3 : Int32) = some (CK (m 1) s 3) := r_ck 3 rfl hs (by decide)
theorem r_ck4 (hs : s < 3) : sX7_clock m (nI s) (4 : Int32) = some (CK (m 1) s 4) := r_ck 4 rfl hs (by decide)
theorem r_ck5 (hs : s < 3) : sX7_clock m (nI s) (5 : Int32) = some (CK (m 1) s 5) := r_ck 5 rfl hs (by decide)
def tmok (r : Nat → Int32) (x : Int32) : Prop := (r 0).toInt ≤ x.toInt ∧ x.toInt ≤ 1011000 ∧ 0 ≤ (r 0).toInt
theorem pr1 (h : ckok r s) (hx : tmok r x) : (CK r s 2 * (x - CK r s 1)).toInt = (CK r s 2).toInt * (x.toInt - (CK r s 1).toInt) := by
  obtain ⟨a1, a2, a3, a4, a5, a6, a7, a8, a9, a10, a11, a12⟩ := h
  obtain ⟨b1, b2, b3⟩ := hx
  have e1 : (x - CK r s 1).toInt = x.toInt - (CK r s 1).toInt := i_sub (by omega) (by omega)
  have := mul_b (b := x.toInt - (CK r s 1).toInt) a5 a6 (by omega)
  rw [i_mul (by rw [e1]; omega) (by rw [e1]; omega), e1]
theorem pr2 (h : ckok r s) (hx : tmok r x) : (CK r s 4 * (x - CK r s 5)).toInt = (CK r s 4).toInt * (x.toInt - (CK r s 5).toInt) := by
  obtain ⟨a1, a2, a3, a4, a5, a6, a7, a8, a9, a10, a11, a12⟩ := h
  obtain ⟨b1, b2, b3⟩ := hx
  have e1 : (x - CK r s 5).toInt = x.toInt - (CK r s 5).toInt := i_sub (by omega) (by omega)
  have := mul_b (a := (CK r s 4).toInt) (b := x.toInt - (CK r s 5).toInt) (by omega) a10 (by omega)
  rw [i_mul (by rw [e1]; omega) (by rw [e1]; omega), e1]
theorem pr3 (h : ckok r s) (hx : tmok r x) : ((-CK r s 4) * (x - CK r s 5)).toInt = -((CK r s 4).toInt * (x.toInt - (CK r s 5).toInt)) := by
  obtain ⟨a1, a2, a3, a4, a5, a6, a7, a8, a9, a10, a11, a12⟩ := h
  obtain ⟨b1, b2, b3⟩ := hx
  have e1 : (x - CK r s 5).toInt = x.toInt - (CK r s 5).toInt := i_sub (by omega) (by omega)
  have e2 : (-CK r s 4).toInt = -(CK r s 4).toInt := i_neg (by omega)
  have := mul_b (a := (CK r s 4).toInt) (b := x.toInt - (CK r s 5).toInt) (by omega) a10 (by omega)
  rw [i_mul (by rw [e1, e2, Int.neg_mul]; omega) (by rw [e1, e2, Int.neg_mul]; omega), e1, e2, Int.neg_mul]
theorem off_q (h : ckok r s) (hx : tmok r x) : (CK r s 0 + iI ((CK r s 2).toInt * (x.toInt - (CK r s 1).toInt) / 1000)) = iI (offI r s x.toInt) := by
  have hb := off_b h hx.1
  obtain ⟨a1, a2, a3, a4, a5, a6, a7, a8, a9, a10, a11, a12⟩ := h
  obtain ⟨b1, b2, b3⟩ := hx
  have := mul_b (b := x.toInt - (CK r s 1).toInt) a5 a6 (by omega)
  have e1 : (iI ((CK r s 2).toInt * (x.toInt - (CK r s 1).toInt) / 1000)).toInt = (CK r s 2).toInt * (x.toInt - (CK r s 1).toInt) / 1000 := iI_toInt (by omega) (by omega)
  refine iI_of ?_
  rw [i_add (by rw [e1]; omega) (by rw [e1]; omega), e1]
  rfl
theorem r_off (h : ckok (m 1) s) (hs : s < 3) (hx : tmok (m 1) x) : sX7_offset m (nI s) x = some (iI (offI (m 1) s x.toInt)) := by
  have hp := pr1 h hx
  have hq := off_q h hx
  obtain ⟨a1, a2, a3, a4, a5, a6, a7, a8, a9, a10, a11, a12⟩ := h
  obtain ⟨b1, b2, b3⟩ := hx
  have := mul_b (b := x.toInt - (CK (m 1) s 1).toInt) a5 a6 (by omega)
  unfold sX7_offset
  rw [r_ck0 hs, bi_s, r_ck2 hs, bi_s, r_ck1 hs, bi_s, r_down _ (by rw [hp]; omega) (by rw [hp]; omega), bi_s, hp, hq]
theorem k_off (h : ckok r s) (hC : Cls g 0 r) (hs : s < 3) (hx : tmok r x) : sX1_offsetAt g (2 + s) x = some (iI (offI r s x.toInt)) := by
  unfold sX1_offsetAt
  rw [k_fdiv, bi_s, k_ck hC hs (by decide), k_ck hC hs (by decide), k_ck hC hs (by decide), pr1 h hx, off_q h hx]
theorem r_unc (h : ckok (m 1) s) (hs : s < 3) (hx : tmok (m 1) x) : sX7_uncertainty m (nI s) x = some (iI (uncI (m 1) s x.toInt)) := by
  have hp := pr2 h hx
  have hu := unc_b h hx.1
  obtain ⟨a1, a2, a3, a4, a5, a6, a7, a8, a9, a10, a11, a12⟩ := h
  obtain ⟨b1, b2, b3⟩ := hx
  have h1 := mul_b (a := (CK (m 1) s 4).toInt) (b := x.toInt - (CK (m 1) s 5).toInt) (by omega) a10 (by omega)
  have h2 : 0 ≤ (CK (m 1) s 4).toInt * (x.toInt - (CK (m 1) s 5).toInt) := Int.mul_nonneg a9 (by omega)
  unfold sX7_uncertainty
  rw [r_ck3 hs, bi_s, r_ck4 hs, bi_s, r_ck5 hs, bi_s]
  have e1 : (CK (m 1) s 4 * (x - CK (m 1) s 5) + (999 : Int32)).toInt = (CK (m 1) s 4).toInt * (x.toInt - (CK (m 1) s 5).toInt) + 999 := by
    rw [i_add (by rw [hp, l_999]; omega) (by rw [hp, l_999]; omega), hp, l_999]
  have e2 := i_d1000 (CK (m 1) s 4 * (x - CK (m 1) s 5) + (999 : Int32))
  rw [e1, if_pos (by omega)] at e2
  refine congrArg some (iI_of ?_)
  rw [i_add (by rw [e2]; omega) (by rw [e2]; omega), e2]
  rfl
theorem k_unc (h : ckok r s) (hC : Cls g 0 r) (hs : s < 3) (hx : tmok r x) : sX1_uncertaintyAt g (2 + s) x = some (iI (uncI r s x.toInt)) := by
  have hp := pr3 h hx
  have hu := unc_b h hx.1
  unfold sX1_uncertaintyAt
  rw [k_fdiv, bi_s, k_ck hC hs (by decide), k_ck hC hs (by decide), k_ck hC hs (by decide), hp]
  obtain ⟨a1, a2, a3, a4, a5, a6, a7, a8, a9, a10, a11, a12⟩ := h
  obtain ⟨b1, b2, b3⟩ := hx
  have h1 := mul_b (a := (CK r s 4).toInt) (b := x.toInt - (CK r s 5).toInt) (by omega) a10 (by omega)
  have h2 : 0 ≤ (CK r s 4).toInt * (x.toInt - (CK r s 5).toInt) := Int.mul_nonneg a9 (by omega)
  have e1 : (iI (-((CK r s 4).toInt * (x.toInt - (CK r s 5).toInt)) / 1000)).toInt = -((CK r s 4).toInt * (x.toInt - (CK r s 5).toInt)) / 1000 := iI_toInt (by omega) (by omega)
  refine congrArg some (iI_of ?_)
  rw [i_sub (by rw [e1]; omega) (by rw [e1]; omega), e1]
  unfold uncI
  omega
theorem sum_q (h : ckok r s) (hx : tmok r x) : (x + iI (offI r s x.toInt)).toInt = x.toInt + offI r s x.toInt ∧ (iI (offI r s x.toInt)).toInt = offI r s x.toInt ∧ (iI (uncI r s x.toInt)).toInt = uncI r s x.toInt := by
  have h1 := off_b h hx.1
  have h2 := unc_b h hx.1
  obtain ⟨b1, b2, b3⟩ := hx
  have e1 : (iI (offI r s x.toInt)).toInt = offI r s x.toInt := iI_toInt (by omega) (by omega)
  exact ⟨by rw [i_add (by rw [e1]; omega) (by rw [e1]; omega), e1], e1, iI_toInt (by omega) (by omega)⟩
theorem ear_q (h : ckok r s) (hx : tmok r x) : (x + iI (offI r s x.toInt)) - iI (uncI r s x.toInt) = iI (earI r s x.toInt) := by
  have h1 := off_b h hx.1
  have h2 := unc_b h hx.1
  obtain ⟨e1, e2, e3⟩ := sum_q h hx
  obtain ⟨b1, b2, b3⟩ := hx
  refine iI_of ?_
  rw [i_sub (by rw [e1, e3]; omega) (by rw [e1, e3]; omega), e1, e3]
  rfl
theorem lat_q (h : ckok r s) (hx : tmok r x) : (x + iI (offI r s x.toInt)) + iI (uncI r s x.toInt) = iI (latI r s x.toInt) := by
  have h1 := off_b h hx.1
  have h2 := unc_b h hx.1
  obtain ⟨e1, e2, e3⟩ := sum_q h hx
  obtain ⟨b1, b2, b3⟩ := hx
  refine iI_of ?_
  rw [i_add (by rw [e1, e3]; omega) (by rw [e1, e3]; omega), e1, e3]
  rfl
theorem ear_b (h : ckok r s) {t : Int} (ht : (r 0).toInt ≤ t) (h0 : 0 ≤ (r 0).toInt) (hh : t ≤ 1011000) : -2600000 ≤ earI r s t ∧ earI r s t ≤ 2600000 := by
  have h1 := off_b h ht
  have h2 := unc_b h ht
  unfold earI
  omega
theorem lat_b (h : ckok r s) {t : Int} (ht : (r 0).toInt ≤ t) (h0 : 0 ≤ (r 0).toInt) (hh : t ≤ 1011000) : -3100000 ≤ latI r s t ∧ latI r s t ≤ 3100000 := by
  have h1 := off_b h ht
  have h2 := unc_b h ht
  unfold latI
  omega
theorem r_ear (h : ckok (m 1) s) (hs : s < 3) (hx : tmok (m 1) x) : sX7_earliestAt m (nI s) x = some (iI (earI (m 1) s x.toInt)) := by
  unfold sX7_earliestAt
  rw [r_off h hs hx, bi_s, r_unc h hs hx, bi_s, ear_q h hx]
theorem r_lat (h : ckok (m 1) s) (hs : s < 3) (hx : tmok (m 1) x) : sX7_latestAt m (nI s) x = some (iI (latI (m 1) s x.toInt)) := by
  unfold sX7_latestAt
  rw [r_off h hs hx, bi_s, r_unc h hs hx, bi_s, lat_q h hx]
theorem k_ear (h : ckok r s) (hC : Cls g 0 r) (hs : s < 3) (hx : tmok r x) : sX1_earliestAt g (2 + s) x = some (iI (earI r s x.toInt)) := by
  unfold sX1_earliestAt
  rw [k_off h hC hs hx, bi_s, k_unc h hC hs hx, bi_s, ear_q h hx]
theorem k_lat (h : ckok r s) (hC : Cls g 0 r) (hs : s < 3) (hx : tmok r x) : sX1_latestAt g (2 + s) x = some (iI (latI r s x.toInt)) := by
  unfold sX1_latestAt
  rw [k_off h hC hs hx, bi_s, k_unc h hC hs hx, bi_s, lat_q h hx]
theorem k_snd (h : ckok r s) (hC : Cls g 0 r) (hs : s < 3) (hx : tmok r x) : sX1_isSoundAt g (2 + s) x = some (b2 (sndI r s x.toInt)) := by
  have h1 := off_b h hx.1
  have h2 := unc_b h hx.1
  obtain ⟨e1, e2, e3⟩ := sum_q h hx
  unfold sX1_isSoundAt
  rw [k_off h hC hs hx, bi_s, k_unc h hC hs hx, bi_s]
  obtain ⟨b1, b2, b3⟩ := hx
  have q1 : (iI (offI r s x.toInt) - iI (uncI r s x.toInt)).toInt = offI r s x.toInt - uncI r s x.toInt := by
    rw [i_sub (by rw [e2, e3]; omega) (by rw [e2, e3]; omega), e2, e3]
  have q2 : (iI (offI r s x.toInt) + iI (uncI r s x.toInt)).toInt = offI r s x.toInt + uncI r s x.toInt := by
    rw [i_add (by rw [e2, e3]; omega) (by rw [e2, e3]; omega), e2, e3]
  simp only [i_lt, q1, q2, l_0]
  unfold sndI
  by_cases z1 : 0 < offI r s x.toInt - uncI r s x.toInt
  · rw [if_pos z1, decide_eq_false (by omega)]; rfl
  · rw [if_neg z1]
    by_cases z2 : offI r s x.toInt + uncI r s x.toInt < 0
    · rw [if_pos z2, decide_eq_false (by omega)]; rfl
    · rw [if_neg z2, decide_eq_true (by omega)]; rfl
theorem r_snd (h : ckok (m 1) s) (hs : s < 3) (hx : tmok (m 1) x) : sX7_isSoundAt m (nI s) x = some (b2 (sndI (m 1) s x.toInt)) := by
  have h1 := ear_b h hx.1 hx.2.2 hx.2.1
  have h2 := lat_b h hx.1 hx.2.2 hx.2.1
  unfold sX7_isSoundAt
  rw [r_ear h hs hx, bi_s, r_lat h hs hx, bi_s]
  have q1 : (iI (earI (m 1) s x.toInt)).toInt = earI (m 1) s x.toInt := iI_toInt (by omega) (by omega)
  have q2 : (iI (latI (m 1) s x.toInt)).toInt = latI (m 1) s x.toInt := iI_toInt (by omega) (by omega)
  simp only [i_lt, q1, q2]
  unfold sndI
  unfold earI at *
  unfold latI at *
  by_cases z1 : x.toInt < x.toInt + offI (m 1) s x.toInt - uncI (m 1) s x.toInt
  · rw [if_pos z1, decide_eq_false (by omega)]; rfl
  · rw [if_neg z1]
    by_cases z2 : x.toInt + offI (m 1) s x.toInt + uncI (m 1) s x.toInt < x.toInt
    · rw [if_pos z2, decide_eq_false (by omega)]; rfl
    · rw [if_neg z2, decide_eq_true (by omega)]; rfl
/-! the next timestamp and the safe time -/
def nx (r : Nat → Int32) (s : Nat) (t : Int) : Int32 := sMax (iI (latI r s t)) ((1 : Int32) + sMax (r (4 + s)) (r 1))
theorem sMax_i (x y : Int32) : (sMax x y).toInt = max x.toInt y.toInt := by
  unfold sMax
  by_cases q : x < y
  · rw [if_pos q]
    rw [i_lt] at q
    omega
  · rw [if_neg q]
    rw [i_lt] at q
    omega
theorem sMin_i (x y : Int32) : (sMin x y).toInt = min x.toInt y.toInt := by
  unfold sMin
  by_cases q : y < x
  · rw [if_pos q]
    rw [i_lt] at q
    omega
  · rw [if_neg q]
    rw [i_lt] at q
    omega
theorem r_nx (h : Inv bd (m 1)) (hs : s < 3) (hx : tmok (m 1) x) : sX7_next m (nI s) x = some (nx (m 1) s x.toInt) := by
  unfold sX7_next
  have e : (4 : Int32) + nI s = nI (4 + s) := nI_add 4 s
  rw [e, ix_n (by omega) (by omega), r_i1, nI_clamp (by omega), c_1, r_gt, bi_s, r_lat (h.ck hs) hs hx, bi_s, r_gt, bi_s]
  rfl
theorem k_nx (h : Inv bd r) (hC : Cls g 0 r) (hs : s < 3) (hx : tmok r (r 0)) : sX2_nextTimestampOf g 0 (nI s) = some (nx r s (r 0).toInt) := by
  unfold sX2_nextTimestampOf
  rw [ix3 hs, ix3 hs, nI_clamp (by omega), k_t0 hC, k_t1 hC]
  simp only [Nat.reduceAdd, Nat.zero_add]
  rw [k_lat (h.ck hs) hC hs hx, bi_s, k_as hC hs]
  rfl
theorem tm_r (h : Inv bd r) : tmok r (r 0) := ⟨Int.le_refl _, by have := h.tm.2; omega, h.tm.1⟩
theorem nx_i (h : Inv bd r) (hs : s < 3) {t : Int} (ht : (r 0).toInt ≤ t) (hh : t ≤ 1011000) : (nx r s t).toInt = max (latI r s t) (1 + max (r (4 + s)).toInt (r 1).toInt) := by
  have h1 := lat_b (h.ck hs) ht h.tm.1 hh
  have h2 := h.asg hs
  have h3 := h.fl
  have h4 := h.bdl
  unfold nx
  rw [sMax_i, iI_toInt (by omega) (by omega), i_add (by rw [sMax_i, l_1]; omega) (by rw [sMax_i, l_1]; omega), sMax_i, l_1]
theorem nx_b (h : Inv bd r) (hs : s < 3) {t : Int} (ht : (r 0).toInt ≤ t) (hh : t ≤ 1011000) : 1 ≤ (nx r s t).toInt ∧ (nx r s t).toInt ≤ max 3100000 (bd + 1) := by
  have h1 := lat_b (h.ck hs) ht h.tm.1 hh
  have h2 := h.asg hs
  have h3 := h.fl
  rw [nx_i h hs ht hh]
  omega
def sf3 (r : Nat → Int32) (t : Int) : Int32 := sMin (sMin (nx r 0 t - 1) (nx r 1 t - 1)) (nx r 2 t - 1)
theorem min_if {x y : Int32} {α : Type} (F : Int32 → α) : (if x ≤ y then F x else F y) = F (sMin x y) := by
  unfold sMin
  by_cases q : x ≤ y
  · rw [if_pos q, if_neg (by rw [i_lt]; rw [i_le] at q; omega)]
  · rw [if_neg q, if_pos (by rw [i_lt]; rw [i_le] at q; omega)]
theorem r_sf3 (hn : 10010 ≤ n) (h : Inv bd (m 1)) (hx : tmok (m 1) x) : sX7_safe n m x = some (sf3 (m 1) x.toInt) := by
  obtain ⟨f, rfl⟩ : ∃ k, n = k + 4 := ⟨n - 4, by omega⟩
  have hm := fun (s : Nat) (hs : s < 3) => nx_b h hs hx.1 hx.2.1
  have h4 := h.bdl
  have h0 := hm 0 (by decide)
  have e0 : (nx (m 1) 0 x.toInt - 1).toInt = (nx (m 1) 0 x.toInt).toInt - 1 := by
    rw [i_sub (by rw [l_1]; omega) (by rw [l_1]; omega), l_1]
  have c0 : ¬ (3 : Int32) ≤ 0 := by decide
  have c1 : ¬ (3 : Int32) ≤ 0 + 1 := by decide
  have c2 : ¬ (3 : Int32) ≤ 0 + 1 + 1 := by decide
  have c3 : (3 : Int32) ≤ 0 + 1 + 1 + 1 := by decide
  have n0 : sX7_next m (0 : Int32) x = some (nx (m 1) 0 x.toInt) := r_nx h (s := 0) (by decide) hx
  have n1 : sX7_next m (0 + 1 : Int32) x = some (nx (m 1) 1 x.toInt) := r_nx h (s := 1) (by decide) hx
  have n2 : sX7_next m (0 + 1 + 1 : Int32) x = some (nx (m 1) 2 x.toInt) := r_nx h (s := 2) (by decide) hx
  unfold sX7_safe
  rw [sX7_safe_5, if_neg c0, n0, bi_s, if_neg (by rw [i_le, e0, show (2000000000 : Int32).toInt = 2000000000 by decide]; omega)]
  rw [sX7_safe_5, if_neg c1, n1, bi_s, min_if (fun z => sX7_safe_5 (f + 3 + 1) m (f + 2) x z (0 + 1 + 1))]
  rw [sX7_safe_5, if_neg c2, n2, bi_s, min_if (fun z => sX7_safe_5 (f + 3 + 1) m (f + 1) x z (0 + 1 + 1 + 1))]
  rw [sX7_safe_5, if_pos c3]
  rfl
def sfS (r : Nat → Int32) : Nat → Int32 → Int32 := fun t s => if TX r t 1 = 1 then sMin s (TX r t 2 - 1) else s
def sfN (r : Nat → Int32) : Int32 := itr (sfS r) 0 (nB r) (sf3 r (r 0).toInt)
theorem r_sfN (hn : 10010 ≤ n) (h : Inv bd (m 1)) : sX7_safeNow n m = some (sfN (m 1)) := by
  have hb := h.b40
  unfold sX7_safeNow
  rw [r_i0, c_0, r_sf3 hn h (tm_r h), bi_s]
  refine lp_up (fun f s i => sX7_safeNow_13 n m f s i) (nB (m 1)) (sfS (m 1)) some (fun f i s hi => ?_) (fun f s => ?_) (nB (m 1)) 0 (by omega) n (by omega) _
  · have hle : ¬ nI (nB (m 1)) ≤ nI i := nI_ge hi (by omega)
    simp only [sX7_safeNow_13, r_i3, c_3, h.r3, hle, if_false, nI_1, bi_s, r_of1 (show i < 40 by omega), r_of2 (show i < 40 by omega), sfS]
    by_cases e : TX (m 1) i 1 = 1
    · rw [if_pos e, if_pos e, min_if (fun z => sX7_safeNow_13 n m f z (nI (i + 1)))]
    · rw [if_neg e, if_neg e]
  · have hle : nI (nB (m 1)) ≤ nI (nB (m 1)) := nI_le (Nat.le_refl _) (by omega)
    simp only [sX7_safeNow_13, r_i3, c_3, h.r3, hle, if_true]
theorem k_sfN (hn : 10010 ≤ n) (h : Inv bd r) (hC : Cls g 0 r) : sX2_safeTimeNow n g 0 = some (sfN r) := by
  have hb := h.b40
  obtain ⟨f, hf⟩ : ∃ k, n = k + 4 := ⟨n - 4, by omega⟩
  have n0 : sX2_nextTimestampOf g 0 (0 : Int32) = some (nx r 0 (r 0).toInt) := k_nx h hC (s := 0) (by decide) (tm_r h)
  have n1 : sX2_nextTimestampOf g 0 (1 : Int32) = some (nx r 1 (r 0).toInt) := k_nx h hC (s := 1) (by decide) (tm_r h)
  have n2 : sX2_nextTimestampOf g 0 (1 + 1 : Int32) = some (nx r 2 (r 0).toInt) := k_nx h hC (s := 2) (by decide) (tm_r h)
  unfold sX2_safeTimeNow
  rw [n0, bi_s]
  have e3 : sX2_safeTimeNow_10 n g n 0 (nx r 0 (r 0).toInt - 1) 1 = sX2_safeTimeNow_35 n g n 0 (sf3 r (r 0).toInt) 0 := by
    rw [hf]
    rw [sX2_safeTimeNow_10, if_neg (by decide), n1, bi_s, sX2_safeTimeNow_10, if_neg (by decide), n2, bi_s, sX2_safeTimeNow_10, if_pos (by decide)]
    rfl
  rw [e3]
  refine lp_up (fun f s i => sX2_safeTimeNow_35 n g f 0 s i) (nB r) (sfS r) some (fun f i s hi => ?_) (fun f s => ?_) (nB r) 0 (by omega) n (by omega) _
  · have hle : ¬ nI (nB r) ≤ nI i := nI_ge hi (by omega)
    have hcl : (nI i).toNatClampNeg = i := nI_clamp (by omega)
    simp only [sX2_safeTimeNow_35, Nat.zero_add, Nat.reduceAdd, k_b hC h, hle, if_false, nI_1, bi_s, ix40 (show i < 40 by omega), hcl, k_f1 hC hi, k_f2 hC hi, sfS]
    split <;> rfl
  · have hle : nI (nB r) ≤ nI (nB r) := nI_le (Nat.le_refl _) (by omega)
    simp only [sX2_safeTimeNow_35, Nat.zero_add, Nat.reduceAdd, k_b hC h, hle, if_true]
end PK
