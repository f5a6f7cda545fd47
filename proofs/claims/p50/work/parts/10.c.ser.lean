/-! transactions are as if one after the other: what holds of the row, and that every call keeps it -/
section VC
variable {bd bd' ub : Int} {g g' : Mem} {r r' R : Nat → Int32} {n t k s K T B L u : Nat} {x v : Int32}
def stp (r : Nat → Int32) (t : Nat) : Prop := TX r t 1 = 1 ∨ TX r t 1 = 2
def Ser (ub : Int) (r : Nat → Int32) : Prop :=
  (∀ t, t < nB r → stp r t → 0 ≤ (TX r t 3).toInt ∧ (TX r t 3).toInt ≤ (r 0).toInt) ∧
  (∀ t, t < nB r → TX r t 1 = 2 → (TX r t 3).toInt < (TX r t 4).toInt) ∧
  (∀ t, t < nB r → stp r t → ∀ k, k < 8 → rd r t k = true → (TX r t (13 + k)).toInt < (TX r t 2).toInt ∧ ∀ u, u < nB r → ver r u k = true → (TX r u 2).toInt ≤ (TX r t (13 + k)).toInt ∨ (TX r t 2).toInt ≤ (TX r u 2).toInt) ∧
  (∀ t u, t < nB r → u < nB r → TX r t 1 = 1 → TX r u 1 = 1 → ∀ k, k < 8 → wr r u k = true → rd r t k = true → t = u) ∧
  (∀ t u, t < nB r → u < nB r → TX r t 1 = 2 → TX r u 1 = 1 → ∀ k, k < 8 → wr r u k = true → rd r t k = true → (TX r t 2).toInt < (TX r u 2).toInt) ∧
  (∀ t, t < nB r → TX r t 1 = 1 → (r 1).toInt < (TX r t 2).toInt) ∧
  (0 ≤ (r 2).toInt ∧ (r 2).toInt ≤ ub ∧ ((r 2).toInt = 0 → (∀ t, t < nB r → TX r t 1 = 2 → (TX r t 2).toInt < (TX r t 4).toInt) ∧ ∀ t, t < nB r → stp r t → (TX r t 3).toInt ≤ (TX r t 2).toInt))
def Keep (r r' : Nat → Int32) : Prop := (∀ t, t < nB r' → stp r' t → t < nB r ∧ stp r t ∧ ∀ f, f < 21 → TX r' t f = TX r t f) ∧ ∀ t, t < nB r → stp r t → t < nB r' ∧ ∀ f, f < 21 → TX r' t f = TX r t f
theorem wr_f (e : ∀ f, f < 21 → TX r' t f = TX r t f) (hk : k < 8) : wr r' t k = wr r t k := by unfold wr; rw [e (5 + k) (by omega)]
theorem rd_f (e : ∀ f, f < 21 → TX r' t f = TX r t f) (hk : k < 8) : rd r' t k = rd r t k := by unfold rd; rw [e (13 + k) (by omega)]
theorem ver_f (e : ∀ f, f < 21 → TX r' t f = TX r t f) (hk : k < 8) : ver r' t k = ver r t k := by unfold ver; rw [wr_f e hk, e 1 (by omega)]
theorem ver_stp (h : ver r t k = true) : stp r t := Or.inr (ver_iff.mp h).1
theorem Ser.up {ub' : Int} (h : Ser ub r) (hb : ub ≤ ub') : Ser ub' r := by
  obtain ⟨h1, h2, h3, h4, h5, h6, h7, h8, h9⟩ := h
  exact ⟨h1, h2, h3, h4, h5, h6, h7, Int.le_trans h8 hb, h9⟩
theorem Ser.keep (h : Ser ub r) (hK : Keep r r') (e0 : r' 0 = r 0) (e1 : r' 1 = r 1) (e2 : r' 2 = r 2) : Ser ub r' := by
  obtain ⟨h1, h2, h3, h4, h5, h6, h7, h8, h9⟩ := h
  have K1 := hK.1
  refine ⟨fun t ht hs => ?_, fun t ht hs => ?_, fun t ht hs k hk hr => ?_, fun t u ht hu s1 s2 k hk hw hr => ?_, fun t u ht hu s1 s2 k hk hw hr => ?_, fun t ht hs => ?_, by rw [e2]; exact h7, by rw [e2]; exact h8, fun z => ?_⟩
  · obtain ⟨a, b, c⟩ := K1 t ht hs
    rw [c 3 (by decide), e0]
    exact h1 t a b
  · obtain ⟨a, b, c⟩ := K1 t ht (Or.inr hs)
    rw [c 3 (by decide), c 4 (by decide)]
    exact h2 t a (by rw [← c 1 (by decide)]; exact hs)
  · obtain ⟨a, b, c⟩ := K1 t ht hs
    rw [rd_f c hk] at hr
    rw [c (13 + k) (by omega), c 2 (by decide)]
    obtain ⟨p1, p2⟩ := h3 t a b k hk hr
    refine ⟨p1, fun u hu hv => ?_⟩
    obtain ⟨a', b', c'⟩ := K1 u hu (ver_stp hv)
    rw [ver_f c' hk] at hv
    rw [c' 2 (by decide)]
    exact p2 u a' hv
  · obtain ⟨a, b, c⟩ := K1 t ht (Or.inl s1)
    obtain ⟨a', b', c'⟩ := K1 u hu (Or.inl s2)
    rw [c 1 (by decide)] at s1
    rw [c' 1 (by decide)] at s2
    rw [wr_f c' hk] at hw
    rw [rd_f c hk] at hr
    exact h4 t u a a' s1 s2 k hk hw hr
  · obtain ⟨a, b, c⟩ := K1 t ht (Or.inr s1)
    obtain ⟨a', b', c'⟩ := K1 u hu (Or.inl s2)
    rw [c 1 (by decide)] at s1
    rw [c' 1 (by decide)] at s2
    rw [wr_f c' hk] at hw
    rw [rd_f c hk] at hr
    rw [c 2 (by decide), c' 2 (by decide)]
    exact h5 t u a a' s1 s2 k hk hw hr
  · obtain ⟨a, b, c⟩ := K1 t ht (Or.inl hs)
    rw [c 1 (by decide)] at hs
    rw [c 2 (by decide), e1]
    exact h6 t a hs
  · rw [e2] at z
    obtain ⟨p1, p2⟩ := h9 z
    refine ⟨fun t ht hs => ?_, fun t ht hs => ?_⟩
    · obtain ⟨a, b, c⟩ := K1 t ht (Or.inr hs)
      rw [c 1 (by decide)] at hs
      rw [c 2 (by decide), c 4 (by decide)]
      exact p1 t a hs
    · obtain ⟨a, b, c⟩ := K1 t ht hs
      rw [c 3 (by decide), c 2 (by decide)]
      exact p2 t a b
/-- one row changes, and it is neither waiting nor committed before or after -/
theorem keep_row (hb : nB r' ≤ 40) (h1 : nB r ≤ nB r') (ho : ∀ t, t < nB r' → t ≠ T → t < nB r) (hR : Row1 r r' T) (n1 : ¬ stp r' T) (n0 : T < nB r → ¬ stp r T) : Keep r r' := by
  refine ⟨fun t ht hs => ?_, fun t ht hs => ?_⟩
  · have hne : t ≠ T := fun z => n1 (by rw [← z]; exact hs)
    have e : ∀ f, f < 21 → TX r' t f = TX r t f := fun f hf => hR t f (by omega) hf hne
    exact ⟨ho t ht hne, by unfold stp at hs ⊢; rw [← e 1 (by decide)]; exact hs, e⟩
  · have hne : t ≠ T := fun z => n0 (by rw [← z]; exact ht) (by rw [← z]; exact hs)
    exact ⟨by omega, fun f hf => hR t f (by omega) hf hne⟩
theorem keep_hi (hi : ∀ j, 25 ≤ j → r' j = r j) (h3 : r' 3 = r 3) : Keep r r' := by
  have eB : nB r' = nB r := by unfold nB; rw [h3]
  have e : ∀ t f, TX r' t f = TX r t f := fun t f => hi _ (by omega)
  refine ⟨fun t ht hs => ⟨by omega, by unfold stp at hs ⊢; rw [← e t 1]; exact hs, fun f _ => e t f⟩, fun t ht _ => ⟨by omega, fun f _ => e t f⟩⟩
/-- the value of a key at a timestamp, while no version up to it is new -/
theorem wv_cg (h : WV r k x v) (a : ∀ t, t < nB r' → ver r' t k = true → (TX r' t 2).toInt ≤ x.toInt → t < nB r ∧ ver r t k = true ∧ TX r' t 2 = TX r t 2) (b : ∀ t, t < nB r → ver r t k = true → t < nB r' ∧ ver r' t k = true ∧ TX r' t 2 = TX r t 2 ∧ TX r' t (5 + k) = TX r t (5 + k)) : WV r' k x v := by
  rcases h with ⟨h1, h2⟩ | ⟨u, h1, h2, h3, h4, h5⟩
  · refine Or.inl ⟨h1, fun t ht hv hx => ?_⟩
    obtain ⟨a1, a2, a3⟩ := a t ht hv hx
    exact h2 t a1 a2 (by rw [← a3]; exact hx)
  · obtain ⟨b1, b2, b3, b4⟩ := b u h1 h2
    refine Or.inr ⟨u, b1, b2, by rw [b3]; exact h3, by rw [b4]; exact h4, fun t ht hv hx => ?_⟩
    obtain ⟨a1, a2, a3⟩ := a t ht hv hx
    rw [b3, a3]
    exact h5 t a1 a2 (by rw [← a3]; exact hx)
theorem Keep.wv (hK : Keep r r') (hk : k < 8) (h : WV r k x v) : WV r' k x v := by
  refine wv_cg h (fun t ht hv _ => ?_) (fun t ht hv => ?_)
  · obtain ⟨a, b, c⟩ := hK.1 t ht (ver_stp hv)
    exact ⟨a, by rw [← ver_f c hk]; exact hv, c 2 (by decide)⟩
  · obtain ⟨a, c⟩ := hK.2 t ht (ver_stp hv)
    exact ⟨a, by rw [ver_f c hk]; exact hv, c 2 (by decide), c (5 + k) (by omega)⟩
/-- the reader mark is at least the timestamp of each committed reader -/
theorem mk_ge (k : Nat) : ∀ d i (a : Int32), a.toInt ≤ (itr (mkS r k) i d a).toInt ∧ ∀ t, i ≤ t → t < i + d → TX r t 1 = 2 → rd r t k = true → (TX r t 2).toInt ≤ (itr (mkS r k) i d a).toInt
  | 0, i, a => ⟨Int.le_refl _, fun t h1 h2 => by omega⟩
  | d + 1, i, a => by
    obtain ⟨p1, p2⟩ := mk_ge k d (i + 1) (mkS r k i a)
    show a.toInt ≤ (itr (mkS r k) (i + 1) d (mkS r k i a)).toInt ∧ ∀ t, i ≤ t → t < i + (d + 1) → TX r t 1 = 2 → rd r t k = true → (TX r t 2).toInt ≤ (itr (mkS r k) (i + 1) d (mkS r k i a)).toInt
    have q : a.toInt ≤ (mkS r k i a).toInt ∧ (TX r i 1 = 2 → rd r i k = true → (TX r i 2).toInt ≤ (mkS r k i a).toInt) := by
      unfold mkS
      by_cases e : TX r i 1 = 2
      · rw [if_pos e]
        cases er : rd r i k with
        | true => rw [if_pos rfl, sMax_i]; exact ⟨by omega, fun _ _ => by omega⟩
        | false => rw [if_neg (by decide)]; exact ⟨Int.le_refl _, fun _ z => by cases z⟩
      · rw [if_neg e]; exact ⟨Int.le_refl _, fun z => absurd z e⟩
    refine ⟨Int.le_trans q.1 p1, fun t h1 h2 h3 h4 => ?_⟩
    by_cases z : t = i
    · rw [z] at h3 h4 ⊢
      exact Int.le_trans (q.2 h3 h4) p1
    · exact p2 t (by omega) (by omega) h3 h4
theorem mk_all (ht : t < nB r) (h1 : TX r t 1 = 2) (h2 : rd r t k = true) : (TX r t 2).toInt ≤ (mk r k).toInt := (mk_ge k (nB r) 0 0).2 t (by omega) (by omega) h1 h2
/-- what a commit timestamp is above -/
theorem oc_m (h : Inv bd r) (hC : Cls g 0 r) (hb : 3100000 ≤ bd) : ∀ d i (a : Int32), i + d ≤ 8 → 1 ≤ a.toInt → a.toInt ≤ bd + 1 → a.toInt ≤ (itr (ocS g r t) i d a).toInt ∧ ∀ k, i ≤ k → k < i + d → ((rd r t k || wr r t k) = true → (g 7 (k * 41 + cv r k)).toInt < (itr (ocS g r t) i d a).toInt) ∧ (wr r t k = true → (mk r k).toInt < (itr (ocS g r t) i d a).toInt)
  | 0, i, a, _, h1, h2 => ⟨Int.le_refl _, fun k k1 k2 => by omega⟩
  | d + 1, i, a, hd, h1, h2 => by
    have e : itr (ocS g r t) i (d + 1) a = itr (ocS g r t) (i + 1) d (ocS g r t i a) := rfl
    rw [e]
    have hi : i < 8 := by omega
    have hV := hC.2.2.1 i hi
    have hl := h.bdl
    have v1 := vt_nn hV (Nat.le_refl _)
    have v2 := vt_b h hV (Nat.le_refl _) h.bd0
    have e1 : ((1 : Int32) + g 7 (i * 41 + cv r i)).toInt = 1 + (g 7 (i * 41 + cv r i)).toInt := by rw [i_add (by rw [l_1]; omega) (by rw [l_1]; omega), l_1]
    have mb' : 0 ≤ (mk r i).toInt ∧ (mk r i).toInt ≤ bd := mk_b h hi (nB r) 0 0 (by omega) (by rw [l_0]; exact Int.le_refl _) (by rw [l_0]; exact h.bd0)
    have e2 : ((1 : Int32) + mk r i).toInt = 1 + (mk r i).toInt := by
      rw [i_add (by rw [l_1]; omega) (by rw [l_1]; omega), l_1]
    have hq : a.toInt ≤ (ocS g r t i a).toInt ∧ (ocS g r t i a).toInt ≤ bd + 1 ∧ ((rd r t i || wr r t i) = true → (g 7 (i * 41 + cv r i)).toInt < (ocS g r t i a).toInt) ∧ (wr r t i = true → (mk r i).toInt < (ocS g r t i a).toInt) := by
      unfold ocS
      cases ew : wr r t i with
      | true =>
        rw [if_pos rfl, Bool.or_true, if_pos rfl, sMax_i, sMax_i, e1, e2]
        exact ⟨by omega, by omega, fun _ => by omega, fun _ => by omega⟩
      | false =>
        rw [if_neg (by decide)]
        cases er : rd r t i with
        | true =>
          rw [Bool.true_or, if_pos rfl, sMax_i, e1]
          exact ⟨by omega, by omega, fun _ => by omega, fun z => by cases z⟩
        | false =>
          rw [Bool.or_self, if_neg (by decide)]
          refine ⟨Int.le_refl _, h2, ?_, ?_⟩
          · intro z; cases z
          · intro z; cases z
    obtain ⟨q2, q3, q4, q5⟩ := hq
    obtain ⟨w2, w4⟩ := oc_m h hC hb d (i + 1) (ocS g r t i a) (by omega) (by omega) q3
    refine ⟨Int.le_trans q2 w2, fun k k1 k2 => ?_⟩
    by_cases z : k = i
    · rw [z]
      exact ⟨fun y => Int.lt_of_lt_of_le (q4 y) w2, fun y => Int.lt_of_lt_of_le (q5 y) w2⟩
    · exact w4 k (by omega) (by omega)
theorem ocN_m (h : Inv bd r) (hC : Cls g 0 r) (hb : 3100000 ≤ bd) (ht : t < nB r) : (nx r (srv r t) (r 0).toInt).toInt ≤ (ocN g r t).toInt ∧ ∀ k, k < 8 → ((rd r t k || wr r t k) = true → (g 7 (k * 41 + cv r k)).toInt < (ocN g r t).toInt) ∧ (wr r t k = true → (mk r k).toInt < (ocN g r t).toInt) := by
  obtain ⟨s1, s2⟩ := srv_q h ht
  have hx := nx_b h s1 (Int.le_refl _) (by have := h.tm.2; omega)
  obtain ⟨b, d⟩ := oc_m (t := t) h hC hb 8 0 (nx r (TX r t 0).toNatClampNeg (r 0).toInt) (by decide) hx.1 (by have : (nx r (TX r t 0).toNatClampNeg (r 0).toInt).toInt ≤ max 3100000 (bd + 1) := hx.2; omega)
  exact ⟨b, fun k hk => d k (by omega) (by omega)⟩
/-- nobody who waits stands in the way -/
theorem lkd_all (h : lkd r t = false) (hu : u < nB r) (h1 : TX r u 1 = 1) (hk : k < 8) : ¬ (wr r u k = true ∧ rd r t k = true) ∧ ¬ (wr r t k = true ∧ rd r u k = true) := by
  have hA : lkA r u t = false := by
    cases e : lkA r u t with
    | false => rfl
    | true =>
      have : lkd r t = true := by
        unfold lkd
        rw [anyB_iff]
        exact ⟨u, hu, by rw [h1, e]; decide⟩
      rw [h] at this
      cases this
  have hB : lkB r u t k = false := by
    cases e : lkB r u t k with
    | false => rfl
    | true =>
      have : lkA r u t = true := by
        unfold lkA
        rw [anyB_iff]
        exact ⟨k, hk, e⟩
      rw [hA] at this
      cases this
  unfold lkB at hB
  refine ⟨fun z => ?_, fun z => ?_⟩
  · rw [z.1, z.2] at hB
    simp at hB
  · rw [z.1, z.2] at hB
    simp at hB
/-- no conflict: what was read is the newest version -/
theorem cf_no (h : anyB (cfB g r t) 8 = false) (hk : k < 8) (hr : rd r t k = true) : g 7 (k * 41 + cv r k) = TX r t (13 + k) := by
  have e : cfB g r t k = false := by
    cases q : cfB g r t k with
    | false => rfl
    | true =>
      have : anyB (cfB g r t) 8 = true := anyB_iff.mpr ⟨k, hk, q⟩
      rw [h] at this
      cases this
  unfold cfB at e
  rw [hr] at e
  simpa using e
theorem Ser.wait (h : Ser ub r) (hI : Inv bd r) (hC : Cls g 0 r) (hb : 3100000 ≤ bd) (hub : ub ≤ 1000000) (ht : t < nB r) (h0 : TX r t 1 = 0) (hl : lkd r t = false) (hcf : anyB (cfB g r t) 8 = false) (hx : x = ocN g r t) : Ser (ub + 1) (wtR r t x) := by
  obtain ⟨h1, h2, h3, h4, h5, h6, h7, h8, h9⟩ := h
  obtain ⟨s1, s2⟩ := srv_q hI ht
  obtain ⟨o1, o2⟩ := ocN_m hI hC hb ht
  rw [← hx] at o1 o2
  have htm := hI.tm
  have nxi := nx_i hI s1 (Int.le_refl (r 0).toInt) (by omega)
  have has := hI.asg s1
  have eB : nB (wtR r t x) = nB r := wtR_nB s1
  have eT : ∀ u f, f < 21 → TX (wtR r t x) u f = if u = t ∧ f = 1 then 1 else if u = t ∧ f = 2 then x else if u = t ∧ f = 3 then r 0 else TX r u f := fun u f hf => wtR_TX s1 hf
  have e1 : TX (wtR r t x) t 1 = 1 := by rw [eT t 1 (by decide), if_pos ⟨rfl, rfl⟩]
  have e2 : TX (wtR r t x) t 2 = x := by rw [eT t 2 (by decide), if_neg (by omega), if_pos ⟨rfl, rfl⟩]
  have e3 : TX (wtR r t x) t 3 = r 0 := by rw [eT t 3 (by decide), if_neg (by omega), if_neg (by omega), if_pos ⟨rfl, rfl⟩]
  have eo : ∀ u, u ≠ t → ∀ f, f < 21 → TX (wtR r t x) u f = TX r u f := fun u hu f hf => by rw [eT u f hf, if_neg (by omega), if_neg (by omega), if_neg (by omega)]
  have et : ∀ f, 3 < f → f < 21 → TX (wtR r t x) t f = TX r t f := fun f h3 hf => by rw [eT t f hf, if_neg (by omega), if_neg (by omega), if_neg (by omega)]
  have ew : ∀ u k, k < 8 → wr (wtR r t x) u k = wr r u k := fun u k hk => by
    unfold wr
    by_cases z : u = t
    · rw [z, et _ (by omega) (by omega)]
    · rw [eo u z _ (by omega)]
  have er : ∀ u k, k < 8 → rd (wtR r t x) u k = rd r u k := fun u k hk => by
    unfold rd
    by_cases z : u = t
    · rw [z, et _ (by omega) (by omega)]
    · rw [eo u z _ (by omega)]
  have e0 : wtR r t x 0 = r 0 := wtR_lo s1 (by decide) (by omega) (by decide)
  have e01 : wtR r t x 1 = r 1 := wtR_lo s1 (by decide) (by omega) (by decide)
  have e02 : wtR r t x 2 = r 2 + us r (srv r t) (r 0) := by
    unfold wtR upd
    rw [if_pos rfl]
  have hv : ∀ u k, ver (wtR r t x) u k = true → k < 8 → u ≠ t ∧ ver r u k = true := fun u k hv hk => by
    have q := ver_iff.mp hv
    have z : u ≠ t := fun z => by rw [z, e1] at q; exact absurd q.1 (by decide)
    refine ⟨z, ver_iff.mpr ⟨by rw [← eo u z 1 (by decide)]; exact q.1, by rw [← ew u k hk]; exact q.2⟩⟩
  have hus : (us r (srv r t) (r 0) = 0 ∧ sndI r (srv r t) (r 0).toInt = true) ∨ us r (srv r t) (r 0) = 1 := by
    unfold us
    cases sndI r (srv r t) (r 0).toInt with
    | true => exact Or.inl ⟨if_pos rfl, rfl⟩
    | false => exact Or.inr (if_neg (by decide))
  have eu : ((r 2 + us r (srv r t) (r 0)).toInt = (r 2).toInt ∧ sndI r (srv r t) (r 0).toInt = true) ∨ (r 2 + us r (srv r t) (r 0)).toInt = (r 2).toInt + 1 := by
    rcases hus with ⟨q, q2⟩ | q
    · rw [q, Int32.add_zero]; exact Or.inl ⟨rfl, q2⟩
    · rw [q]; exact Or.inr (by rw [i_add (by rw [l_1]; omega) (by rw [l_1]; omega), l_1])
  refine ⟨fun u hu hs => ?_, fun u hu hs => ?_, fun u hu hs k hk hr => ?_, fun a u ha hu sa su k hk hw hr => ?_, fun a u ha hu sa su k hk hw hr => ?_, fun u hu hs => ?_, by rw [e02]; omega, by rw [e02]; omega, fun z => ?_⟩
  · rw [e0]
    by_cases z : u = t
    · rw [z, e3]; omega
    · rw [eo u z 3 (by decide)]
      unfold stp at hs
      rw [eo u z 1 (by decide)] at hs
      exact h1 u (by omega) hs
  · have z : u ≠ t := fun z => by rw [z, e1] at hs; exact absurd hs (by decide)
    rw [eo u z 1 (by decide)] at hs
    rw [eo u z 3 (by decide), eo u z 4 (by decide)]
    exact h2 u (by omega) hs
  · rw [er u k hk] at hr
    by_cases z : u = t
    · rw [z] at hr ⊢
      rw [et _ (by omega) (by omega), e2]
      have q := cf_no hcf hk hr
      have q2 := (o2 k hk).1 (by rw [hr]; rfl)
      rw [q] at q2
      refine ⟨q2, fun w hw hv' => Or.inl ?_⟩
      obtain ⟨wz, wv⟩ := hv w k hv' hk
      rw [eo w wz 2 (by decide)]
      obtain ⟨i, i1, i2, i3, i4⟩ := v_of (hC.2.2.1 k hk) (show w < nB r by omega) wv
      rw [← i3, ← q]
      exact vt_le (hC.2.2.1 k hk) i2 (Nat.le_refl _)
    · unfold stp at hs
      rw [eo u z 1 (by decide)] at hs
      rw [eo u z 2 (by decide), eo u z _ (by omega)]
      obtain ⟨p1, p2⟩ := h3 u (by omega) hs k hk hr
      refine ⟨p1, fun w hw hv' => ?_⟩
      obtain ⟨wz, wv⟩ := hv w k hv' hk
      rw [eo w wz 2 (by decide)]
      exact p2 w (by omega) wv
  · rw [ew u k hk] at hw
    rw [er a k hk] at hr
    by_cases z : a = t
    · by_cases y : u = t
      · rw [z, y]
      · rw [eo u y 1 (by decide)] at su
        rw [z] at hr
        exact absurd ⟨hw, hr⟩ (lkd_all hl (show u < nB r by omega) su hk).1
    · rw [eo a z 1 (by decide)] at sa
      by_cases y : u = t
      · rw [y] at hw
        exact absurd ⟨hw, hr⟩ (lkd_all hl (show a < nB r by omega) sa hk).2
      · rw [eo u y 1 (by decide)] at su
        exact h4 a u (by omega) (by omega) sa su k hk hw hr
  · rw [ew u k hk] at hw
    rw [er a k hk] at hr
    have z : a ≠ t := fun z => by rw [z, e1] at sa; exact absurd sa (by decide)
    rw [eo a z 1 (by decide)] at sa
    rw [eo a z 2 (by decide)]
    by_cases y : u = t
    · rw [y] at hw ⊢
      rw [e2]
      have q := (o2 k hk).2 hw
      have q2 := mk_all (show a < nB r by omega) sa hr
      omega
    · rw [eo u y 1 (by decide)] at su
      rw [eo u y 2 (by decide)]
      exact h5 a u (by omega) (by omega) sa su k hk hw hr
  · rw [e01]
    by_cases z : u = t
    · rw [z, e2]; omega
    · rw [eo u z 1 (by decide)] at hs
      rw [eo u z 2 (by decide)]
      exact h6 u (by omega) hs
  · rw [e02] at z
    rcases eu with ⟨q, q2⟩ | q
    · rw [q] at z
      obtain ⟨p1, p2⟩ := h9 z
      refine ⟨fun u hu hs => ?_, fun u hu hs => ?_⟩
      · have z : u ≠ t := fun z => by rw [z, e1] at hs; exact absurd hs (by decide)
        rw [eo u z 1 (by decide)] at hs
        rw [eo u z 2 (by decide), eo u z 4 (by decide)]
        exact p1 u (by omega) hs
      · by_cases z : u = t
        · rw [z, e2, e3]
          unfold sndI at q2
          have q3 := of_decide_eq_true q2
          unfold latI at nxi
          omega
        · unfold stp at hs
          rw [eo u z 1 (by decide)] at hs
          rw [eo u z 2 (by decide), eo u z 3 (by decide)]
          exact p2 u (by omega) hs
    · omega
end VC
