/-! the safe time, the floor, the ticks -/
section VD
variable {bd bd' ub : Int} {g g' : Mem} {r r' R : Nat → Int32} {n t k s K T B L u : Nat} {x y v : Int32}
theorem sf_min (h : Inv bd r) : ∀ d i (a : Int32), i + d ≤ nB r → (itr (sfS r) i d a).toInt ≤ a.toInt ∧ ∀ t, i ≤ t → t < i + d → TX r t 1 = 1 → (itr (sfS r) i d a).toInt ≤ (TX r t 2).toInt - 1
  | 0, i, a, _ => ⟨Int.le_refl _, fun t h1 h2 => by omega⟩
  | d + 1, i, a, hd => by
    obtain ⟨p1, p2⟩ := sf_min h d (i + 1) (sfS r i a) (by omega)
    show (itr (sfS r) (i + 1) d (sfS r i a)).toInt ≤ a.toInt ∧ ∀ t, i ≤ t → t < i + (d + 1) → TX r t 1 = 1 → (itr (sfS r) (i + 1) d (sfS r i a)).toInt ≤ (TX r t 2).toInt - 1
    have q : (sfS r i a).toInt ≤ a.toInt ∧ (TX r i 1 = 1 → (sfS r i a).toInt ≤ (TX r i 2).toInt - 1) := by
      unfold sfS
      by_cases z : TX r i 1 = 1
      · rw [if_pos z, sMin_i]
        have hst := st_b h (show i < nB r by omega)
        have e : (TX r i 2 - 1).toInt = (TX r i 2).toInt - 1 := by rw [i_sub (by rw [l_1]; omega) (by rw [l_1]; omega), l_1]
        exact ⟨by omega, fun _ => by omega⟩
      · rw [if_neg z]
        exact ⟨Int.le_refl _, fun z' => absurd z' z⟩
    refine ⟨by omega, fun t h1 h2 h3 => ?_⟩
    by_cases z : t = i
    · rw [z] at h3 ⊢
      have := q.2 h3
      omega
    · exact p2 t (by omega) (by omega) h3
theorem sf_wait (h : Inv bd r) (ht : t < nB r) (h1 : TX r t 1 = 1) : (sfN r).toInt < (TX r t 2).toInt := by
  have q : (sfN r).toInt ≤ (TX r t 2).toInt - 1 := (sf_min h (nB r) 0 (sf3 r (r 0).toInt) (by omega)).2 t (by omega) (by omega) h1
  omega
theorem sf_lo (h : Inv bd r) (f : Int) : ∀ d i (a : Int32), i + d ≤ nB r → f ≤ a.toInt → (∀ t, i ≤ t → t < i + d → TX r t 1 = 1 → f < (TX r t 2).toInt) → f ≤ (itr (sfS r) i d a).toInt
  | 0, i, a, _, h1, _ => h1
  | d + 1, i, a, hd, h1, h2 => by
    show f ≤ (itr (sfS r) (i + 1) d (sfS r i a)).toInt
    refine sf_lo h f d (i + 1) _ (by omega) ?_ (fun t t1 t2 t3 => h2 t (by omega) (by omega) t3)
    unfold sfS
    by_cases z : TX r i 1 = 1
    · rw [if_pos z, sMin_i]
      have hst := st_b h (show i < nB r by omega)
      have e : (TX r i 2 - 1).toInt = (TX r i 2).toInt - 1 := by rw [i_sub (by rw [l_1]; omega) (by rw [l_1]; omega), l_1]
      have := h2 i (by omega) (by omega) z
      omega
    · rw [if_neg z]; exact h1
theorem sf_ge (h : Inv bd r) (h6 : ∀ t, t < nB r → TX r t 1 = 1 → (r 1).toInt < (TX r t 2).toInt) : (r 1).toInt ≤ (sfN r).toInt := by
  have htm := h.tm
  have hq := fun s (hs : s < 3) => nx_i h hs (Int.le_refl (r 0).toInt) (by omega)
  have q0 := hq 0 (by decide)
  have q1 := hq 1 (by decide)
  have q2 := hq 2 (by decide)
  have h3 := sf3_i h (Int.le_refl (r 0).toInt) (by omega)
  exact sf_lo h _ (nB r) 0 _ (by omega) (by omega) (fun t _ t2 t3 => h6 t (by omega) t3)
theorem Ser.f6 (h : Ser ub r) : ∀ t, t < nB r → TX r t 1 = 1 → (r 1).toInt < (TX r t 2).toInt := h.2.2.2.2.2.1
theorem Ser.floor (h : Ser ub r) (hI : Inv bd r) (hx : x.toInt ≤ (sfN r).toInt) : Ser ub (upd r 1 (sMax (r 1) x)) := by
  obtain ⟨h1, h2, h3, h4, h5, h6, h7, h8, h9⟩ := h
  have e : ∀ j, j ≠ 1 → upd r 1 (sMax (r 1) x) j = r j := fun j hj => pk_un hj
  have eB : nB (upd r 1 (sMax (r 1) x)) = nB r := nB_lo (by decide)
  have eT : ∀ t f, TX (upd r 1 (sMax (r 1) x)) t f = TX r t f := fun t f => TX_lo (by decide)
  have ew : ∀ t k, wr (upd r 1 (sMax (r 1) x)) t k = wr r t k := fun t k => by unfold wr; rw [eT]
  have er : ∀ t k, rd (upd r 1 (sMax (r 1) x)) t k = rd r t k := fun t k => by unfold rd; rw [eT]
  have ev : ∀ t k, ver (upd r 1 (sMax (r 1) x)) t k = ver r t k := fun t k => by unfold ver; rw [ew, eT]
  have e1 : upd r 1 (sMax (r 1) x) 1 = sMax (r 1) x := pk_us
  unfold Ser stp
  simp only [eB, eT, ew, er, ev, e1, e 0 (by decide), e 2 (by decide), sMax_i]
  refine ⟨h1, h2, h3, h4, h5, fun t ht hs => ?_, h7, h8, h9⟩
  have q1 := h6 t ht hs
  have q2 := sf_wait hI ht hs
  omega
theorem wv_hi (hi : ∀ j, 25 ≤ j → r' j = r j) (h3 : r' 3 = r 3) (hk : k < 8) (h : WV r k x v) : WV r' k x v := (keep_hi hi h3).wv hk h
theorem wv_wait (hs : srv r t < 3) (h0 : TX r t 1 = 0) (hk : k < 8) (h : WV r k x v) : WV (wtR r t y) k x v := by
  have eB : nB (wtR r t y) = nB r := wtR_nB hs
  have e1 : TX (wtR r t y) t 1 = 1 := by rw [wtR_TX hs (by decide), if_pos ⟨rfl, rfl⟩]
  have eo : ∀ u, u ≠ t → ∀ f, f < 21 → TX (wtR r t y) u f = TX r u f := fun u hu f hf => by rw [wtR_TX hs hf, if_neg (by omega), if_neg (by omega), if_neg (by omega)]
  refine wv_cg h (fun u hu hv _ => ?_) (fun u hu hv => ?_)
  · have z : u ≠ t := fun z => by
      have q := (ver_iff.mp hv).1
      rw [z, e1] at q
      exact absurd q (by decide)
    exact ⟨by omega, by rw [← ver_f (eo u z) hk]; exact hv, eo u z 2 (by decide)⟩
  · have z : u ≠ t := fun z => by
      have q := (ver_iff.mp hv).1
      rw [z, h0] at q
      exact absurd q (by decide)
    exact ⟨by omega, by rw [ver_f (eo u z) hk]; exact hv, eo u z 2 (by decide), eo u z _ (by omega)⟩
/-! the ticks -/
theorem cA_iff : cA r L (nB r) u = true ↔ u < nB r ∧ TX r u 1 = 1 ∧ tcm r u L ≤ L := by
  unfold cA
  rw [decide_eq_true_iff]
  exact ⟨fun h => h.2, fun h => ⟨h.1, h⟩⟩
theorem tcm_hit (h : tcm r t L ≤ L) : (TX r t 2).toInt < earI r (srv r t) ((r 0).toInt + tcm r t L) := by
  obtain ⟨-, -, -, h4⟩ := ftk_spec (hitB r t) L 1
  have q : hitB r t (tcm r t L) = true := h4 (by
    have : ftk (hitB r t) L 1 = tcm r t L := rfl
    omega)
  unfold hitB at q
  exact of_decide_eq_true q
theorem cnt_zero {p : Nat → Bool} : ∀ n, cnt p n = 0 → ∀ i, i < n → p i = false
  | 0, _, i, hi => by omega
  | n + 1, h, i, hi => by
    unfold cnt at h
    by_cases z : i = n
    · rw [z]
      cases q : p n with
      | false => rfl
      | true => rw [q, if_pos rfl] at h; omega
    · exact cnt_zero n (by omega) i (by omega)
theorem rc_st (hR : RC r L (cA r L (nB r)) (r 0 + nI L) R) (hu : u < nB r) : (TX R u 1 = 1 ↔ TX r u 1 = 1 ∧ ¬ tcm r u L ≤ L) ∧ (TX R u 1 = 2 ↔ TX r u 1 = 2 ∨ (TX r u 1 = 1 ∧ tcm r u L ≤ L)) := by
  have e := hR.tx (u := u) (f := 1) (by decide)
  by_cases z : cA r L (nB r) u = true
  · rw [if_pos z, if_pos rfl] at e
    have q := cA_iff.mp z
    rw [e]
    exact ⟨⟨fun y => absurd y (by decide), fun y => absurd q.2.2 y.2⟩, ⟨fun _ => Or.inr q.2, fun _ => rfl⟩⟩
  · rw [if_neg z] at e
    rw [e]
    have q : ¬ (TX r u 1 = 1 ∧ tcm r u L ≤ L) := fun y => z (cA_iff.mpr ⟨hu, y⟩)
    exact ⟨⟨fun y => ⟨y, fun w => q ⟨y, w⟩⟩, fun y => y.1⟩, ⟨fun y => Or.inl y, fun y => y.elim id (fun w => absurd w q)⟩⟩
theorem rc_4 (hR : RC r L (cA r L (nB r)) (r 0 + nI L) R) (h1 : TX r u 1 ≠ 1) : TX R u 4 = TX r u 4 := by
  rw [hR.tx (by decide), if_neg (fun z => h1 (cA_iff.mp z).2.1)]
theorem rc_4c (hR : RC r L (cA r L (nB r)) (r 0 + nI L) R) (hu : u < nB r) (h1 : TX r u 1 = 1) (h2 : tcm r u L ≤ L) : TX R u 4 = r 0 + nI (tcm r u L) := by
  rw [hR.tx (by decide), if_pos (cA_iff.mpr ⟨hu, h1, h2⟩), if_neg (by decide), if_pos rfl]
theorem rc_wr (hR : RC r L (cA r L (nB r)) (r 0 + nI L) R) (hk : k < 8) : wr R u k = wr r u k := by unfold wr; rw [hR.o (by omega) (by omega) (by omega)]
theorem rc_rd (hR : RC r L (cA r L (nB r)) (r 0 + nI L) R) (hk : k < 8) : rd R u k = rd r u k := by unfold rd; rw [hR.o (by omega) (by omega) (by omega)]
theorem rc_stp (hR : RC r L (cA r L (nB r)) (r 0 + nI L) R) (hu : u < nB r) (h : stp R u) : stp r u := by
  rcases h with h | h
  · exact Or.inl ((rc_st hR hu).1.mp h).1
  · rcases (rc_st hR hu).2.mp h with z | z
    · exact Or.inr z
    · exact Or.inl z.1
theorem rc_ver (hR : RC r L (cA r L (nB r)) (r 0 + nI L) R) (hu : u < nB r) (hk : k < 8) (h : ver R u k = true) : ver r u k = true ∨ (TX r u 1 = 1 ∧ tcm r u L ≤ L ∧ wr r u k = true) := by
  obtain ⟨a, b⟩ := ver_iff.mp h
  rw [rc_wr hR hk] at b
  rcases (rc_st hR hu).2.mp a with z | z
  · exact Or.inl (ver_iff.mpr ⟨z, b⟩)
  · exact Or.inr ⟨z.1, z.2, b⟩
theorem Ser.adv (hR : RC r L (cA r L (nB r)) (r 0 + nI L) R) (hI : Inv bd r) (hL : L ≤ 1000) (h : Ser ub r) (hub : ub ≤ 1000000) : Ser (ub + 40) R := by
  obtain ⟨h1, h2, h3, h4, h5, h6, h7, h8, h9⟩ := h
  have hb := hI.b40
  have htm := hI.tm
  have eB : nB R = nB r := hR.eqB
  have eT := (tm_c hI (c := L) (by omega)).2
  have e0 : (R 0).toInt = (r 0).toInt + L := by rw [hR.1, eT]
  have e1 : R 1 = r 1 := hR.lo (by decide) (by decide) (by decide)
  have hc : cnt (unc r L (cA r L (nB r))) (nB r) ≤ 40 := Nat.le_trans (cnt_le _ _) hb
  have en := nI_toInt (n := cnt (unc r L (cA r L (nB r))) (nB r)) (by omega)
  have e2 : (R 2).toInt = (r 2).toInt + cnt (unc r L (cA r L (nB r))) (nB r) := by
    rw [hR.2.1, i_add (by omega) (by omega), en]
  have o2 : ∀ u, TX R u 2 = TX r u 2 := fun u => hR.o (by decide) (by decide) (by decide)
  have o3 : ∀ u, TX R u 3 = TX r u 3 := fun u => hR.o (by decide) (by decide) (by decide)
  have e4 : ∀ u, u < nB r → TX r u 1 = 1 → tcm r u L ≤ L → (TX R u 4).toInt = (r 0).toInt + tcm r u L := fun u hu z1 z2 => by
    rw [rc_4c hR hu z1 z2, (tm_c hI (c := tcm r u L) (by omega)).2]
  refine ⟨fun u hu hs => ?_, fun u hu hs => ?_, fun u hu hs k hk hr => ?_, fun a u ha hu sa su k hk hw hr => ?_, fun a u ha hu sa su k hk hw hr => ?_, fun u hu hs => ?_, by omega, by omega, fun z => ?_⟩
  · rw [eB] at hu
    have := h1 u hu (rc_stp hR hu hs)
    rw [o3, e0]
    omega
  · rw [eB] at hu
    rw [o3]
    rcases (rc_st hR hu).2.mp hs with z | z
    · rw [rc_4 hR (by rw [z]; decide)]
      exact h2 u hu z
    · have q := h1 u hu (Or.inl z.1)
      have q2 := tcm_b r u L
      rw [e4 u hu z.1 z.2]
      omega
  · rw [eB] at hu
    rw [rc_rd hR hk] at hr
    rw [o2, hR.o (f := 13 + k) (by omega) (by omega) (by omega)]
    obtain ⟨p1, p2⟩ := h3 u hu (rc_stp hR hu hs) k hk hr
    refine ⟨p1, fun w hw hv => ?_⟩
    rw [eB] at hw
    rw [o2]
    rcases rc_ver hR hw hk hv with z | ⟨z1, z2, z3⟩
    · exact p2 w hw z
    · right
      rcases rc_stp hR hu hs with y | y
      · rw [h4 u w hu hw y z1 k hk z3 hr]
        exact Int.le_refl _
      · exact Int.le_of_lt (h5 u w hu hw y z1 k hk z3 hr)
  · rw [eB] at ha hu
    rw [rc_wr hR hk] at hw
    rw [rc_rd hR hk] at hr
    exact h4 a u ha hu ((rc_st hR ha).1.mp sa).1 ((rc_st hR hu).1.mp su).1 k hk hw hr
  · rw [eB] at ha hu
    rw [rc_wr hR hk] at hw
    rw [rc_rd hR hk] at hr
    rw [o2, o2]
    have qu := (rc_st hR hu).1.mp su
    rcases (rc_st hR ha).2.mp sa with z | z
    · exact h5 a u ha hu z qu.1 k hk hw hr
    · have := h4 a u ha hu z.1 qu.1 k hk hw hr
      rw [this] at z
      exact absurd z.2 qu.2
  · rw [eB] at hu
    rw [e1, o2]
    exact h6 u hu ((rc_st hR hu).1.mp hs).1
  · have z0 : (r 2).toInt = 0 := by omega
    have zc : cnt (unc r L (cA r L (nB r))) (nB r) = 0 := by omega
    obtain ⟨p1, p2⟩ := h9 z0
    refine ⟨fun u hu hs => ?_, fun u hu hs => ?_⟩
    · rw [eB] at hu
      rw [o2]
      rcases (rc_st hR hu).2.mp hs with y | y
      · rw [rc_4 hR (by rw [y]; decide)]
        exact p1 u hu y
      · rw [e4 u hu y.1 y.2]
        have q := cnt_zero _ zc u hu
        unfold unc at q
        rw [cA_iff.mpr ⟨hu, y.1, y.2⟩] at q
        have q1 : sndI r (srv r u) ((r 0).toInt + tcm r u L) = true := by simpa using q
        unfold sndI at q1
        have q3 := of_decide_eq_true q1
        have q4 := tcm_hit y.2
        unfold earI at q4
        omega
    · rw [eB] at hu
      rw [o2, o3]
      exact p2 u hu (rc_stp hR hu hs)
theorem wv_adv (hR : RC r L (cA r L (nB r)) (r 0 + nI L) R) (h6 : ∀ t, t < nB r → TX r t 1 = 1 → (r 1).toInt < (TX r t 2).toInt) (hx : x.toInt ≤ (r 1).toInt) (hk : k < 8) (h : WV r k x v) : WV R k x v := by
  have eB : nB R = nB r := hR.eqB
  have o2 : ∀ u, TX R u 2 = TX r u 2 := fun u => hR.o (by decide) (by decide) (by decide)
  refine wv_cg h (fun u hu hv hle => ?_) (fun u hu hv => ?_)
  · rw [eB] at hu
    rcases rc_ver hR hu hk hv with z | ⟨z1, z2, z3⟩
    · exact ⟨hu, z, o2 u⟩
    · have := h6 u hu z1
      rw [o2] at hle
      omega
  · obtain ⟨a, b⟩ := ver_iff.mp hv
    exact ⟨by omega, ver_iff.mpr ⟨(rc_st hR hu).2.mpr (Or.inl a), by rw [rc_wr hR hk]; exact b⟩, o2 u, hR.o (by omega) (by omega) (by omega)⟩
end VD
