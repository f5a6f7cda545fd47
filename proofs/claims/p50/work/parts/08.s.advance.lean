/-! the pure part: the true time advances -/
theorem cnt_no {p : Nat → Bool} : ∀ n, (∀ i, i < n → p i = false) → cnt p n = 0
  | 0, _ => rfl
  | n + 1, h => by
    unfold cnt
    rw [cnt_no n (fun i hi => h i (by omega)), h n (by omega)]
    rfl
def unc (r : Nat → Int32) (L : Nat) (c : Nat → Bool) : Nat → Bool := fun u => c u && !sndI r (srv r u) ((r 0).toInt + tcm r u L)
/-- R is the row r at the true time T when those in c have become committed -/
def RC (r : Nat → Int32) (L : Nat) (c : Nat → Bool) (T : Int32) (R : Nat → Int32) : Prop := R 0 = T ∧ R 2 = r 2 + nI (cnt (unc r L c) (nB r)) ∧ (∀ j, j < 25 → j ≠ 0 → j ≠ 2 → R j = r j) ∧ ∀ u f, f < 21 → TX R u f = if c u = true then (if f = 1 then 2 else if f = 4 then r 0 + nI (tcm r u L) else TX r u f) else TX r u f
section QE
variable {bd bd' : Int} {g g' m : Mem} {r r' R R' : Nat → Int32} {n t k s K T B L i : Nat} {x y : Int32} {c c' : Nat → Bool}
theorem RC.lo (h : RC r L c x R) {j : Nat} (hj : j < 25) (h0 : j ≠ 0) (h2 : j ≠ 2) : R j = r j := h.2.2.1 j hj h0 h2
theorem RC.tx (h : RC r L c x R) {u f : Nat} (hf : f < 21) : TX R u f = if c u = true then (if f = 1 then 2 else if f = 4 then r 0 + nI (tcm r u L) else TX r u f) else TX r u f := h.2.2.2 u f hf
theorem RC.o (h : RC r L c x R) {u f : Nat} (hf : f < 21) (h1 : f ≠ 1) (h4 : f ≠ 4) : TX R u f = TX r u f := by
  rw [h.tx hf, if_neg h1, if_neg h4]
  split <;> rfl
theorem RC.eqB (h : RC r L c x R) : nB R = nB r := by
  show (R 3).toNatClampNeg = (r 3).toNatClampNeg
  rw [h.lo (by decide) (by decide) (by decide)]
theorem RC.ck (h : RC r L c x R) {q f : Nat} (hq : q < 3) (hf : f < 6) : CK R q f = CK r q f := h.lo (by omega) (by omega) (by omega)
theorem RC.sv (h : RC r L c x R) (u : Nat) : srv R u = srv r u := by
  unfold srv
  rw [h.o (by decide) (by decide) (by decide)]
theorem RC.eq (h : RC r L c x R) (h' : RC r L c x R') : R = R' := by
  funext j
  by_cases z : j < 25
  · by_cases z0 : j = 0
    · rw [z0, h.1, h'.1]
    · by_cases z2 : j = 2
      · rw [z2, h.2.1, h'.2.1]
      · rw [h.lo z z0 z2, h'.lo z z0 z2]
  · have e : j = 25 + 21 * ((j - 25) / 21) + (j - 25) % 21 := by omega
    have q1 := h.tx (u := (j - 25) / 21) (f := (j - 25) % 21) (Nat.mod_lt _ (by decide))
    have q2 := h'.tx (u := (j - 25) / 21) (f := (j - 25) % 21) (Nat.mod_lt _ (by decide))
    have q : TX R ((j - 25) / 21) ((j - 25) % 21) = TX R' ((j - 25) / 21) ((j - 25) % 21) := q1.trans q2.symm
    unfold TX at q
    rw [← e] at q
    exact q
theorem RC.st (h : ∀ u, c u = false) : RC r L c (r 0) r := by
  refine ⟨rfl, ?_, fun j _ _ _ => rfl, fun u f _ => by rw [h u, if_neg (by decide)]⟩
  rw [cnt_no _ (fun i _ => by unfold unc; rw [h i]; rfl), nI_0, Int32.add_zero]
theorem RC.cg (h : RC r L c x R) (e : ∀ u, c' u = c u) : RC r L c' x R := by
  have : c' = c := funext e
  rw [this]; exact h
theorem RC.time (h : RC r L c x R) (y : Int32) : RC r L c y (upd R 0 y) := by
  refine ⟨pk_us, by rw [pk_un (by decide)]; exact h.2.1, fun j hj h0 h2 => by rw [pk_un h0]; exact h.lo hj h0 h2, fun u f hf => by rw [TX_lo (by decide)]; exact h.tx hf⟩
theorem RC.cmt (h : RC r L c x R) (hI : Inv bd r) (hL : L ≤ 1000) (ht : t < nB r) (hc : c t = false) (e : ∀ u, c' u = (c u || decide (u = t))) : RC r L c' x (cmtR R t (r 0 + nI (tcm r t L))) := by
  obtain ⟨s1, s2⟩ := srv_q hI ht
  have htb := tcm_b r t L
  have hx := (tm_c hI (c := tcm r t L) (by omega)).2
  refine ⟨by rw [cmtR_lo (by decide) (by decide)]; exact h.1, ?_, fun j hj h0 h2 => by rw [cmtR_lo h2 hj]; exact h.lo hj h0 h2, fun u f hf => ?_⟩
  · rw [cmtR_2, h.2.1, h.sv]
    unfold us
    rw [sndI_cg (r' := R) (r := r) (fun f hf => h.ck s1 hf), hx]
    cases es : sndI r (srv r t) ((r 0).toInt + tcm r t L) with
    | true =>
      rw [if_pos rfl, Int32.add_zero]
      congr 2
      refine cnt_cg _ (fun u hu => ?_)
      unfold unc
      rw [e u]
      by_cases z : u = t
      · rw [z, hc, es, Bool.not_true, Bool.and_false, Bool.and_false]
      · rw [decide_eq_false z, Bool.or_false]
    | false =>
      rw [if_neg (by decide), Int32.add_assoc, nI_1]
      congr 2
      refine (cnt_set (p := unc r L c) (q := unc r L c') (t := t) ?_ ?_ _ ht (fun u hu z => ?_)).symm
      · unfold unc; rw [hc]; rfl
      · unfold unc; rw [e t, hc, es, decide_eq_true rfl]; rfl
      · unfold unc; rw [e u, decide_eq_false z, Bool.or_false]
  · rw [cmtR_TX hf, e u, h.tx hf]
    by_cases z : u = t
    · rw [z, hc, decide_eq_true rfl]
      by_cases f1 : f = 1
      · rw [if_pos ⟨rfl, f1⟩, Bool.false_or, if_pos rfl, if_pos f1]
      · by_cases f4 : f = 4
        · rw [if_neg (fun q => f1 q.2), if_pos ⟨rfl, f4⟩, Bool.false_or, if_pos rfl, if_neg f1, if_pos f4]
        · rw [if_neg (fun q => f1 q.2), if_neg (fun q => f4 q.2), if_neg (by decide), Bool.false_or, if_pos rfl, if_neg f1, if_neg f4]
    · rw [if_neg (fun q => z q.1), if_neg (fun q => z q.1), decide_eq_false z, Bool.or_false]
theorem inv_time (hI : Inv bd r) (h1 : (r 0).toInt ≤ y.toInt) (h2 : y.toInt ≤ 1000000) : Inv bd (upd r 0 y) := by
  have htm := hI.tm
  refine inv_head hI (Int.le_refl _) hI.bdl (fun j hj => pk_un (by omega)) (pk_un (by decide)) (by rw [pk_us]; omega) (by rw [pk_un (by decide)]; exact hI.fl) (fun q hq => pk_un (by omega)) (fun q hq => ?_)
  have hk := hI.ck hq
  unfold ckok at hk ⊢
  rw [pk_us]
  have ec : ∀ f, f < 6 → CK (upd r 0 y) q f = CK r q f := fun f hf => pk_un (by omega)
  rw [ec 0 (by decide), ec 1 (by decide), ec 2 (by decide), ec 3 (by decide), ec 4 (by decide), ec 5 (by decide)]
  omega
theorem cls_time (hC : Cls g 0 r) (hI : Inv bd r) : Cls (mput g 0 0 y) 0 (upd r 0 y) := by
  obtain ⟨d1, d2, d3, d4, d5⟩ := hC.1
  refine cls_head hC hI (fun j hj => pk_un (by omega)) (pk_un (by decide)) ⟨by rw [mp_eq, pk_us], by rw [mp_at (by decide), pk_un (by decide)]; exact d2, by rw [mp_at (by decide), pk_un (by decide)]; exact d3, fun q hq f hf => ?_, fun q hq => ?_⟩ (fun k k1 k2 => mput_ne (by omega))
  · rw [mput_ne (by omega)]
    have : CK (upd r 0 y) q f = CK r q f := pk_un (by omega)
    rw [this]
    exact d4 q hq f hf
  · rw [mput_ne (by omega), pk_un (by omega)]
    exact d5 q hq
theorem hit_cg (h : RC r L c (r 0) R) (hI : Inv bd r) (ht : t < nB r) (q : Nat) : hitB R t q = hitB r t q := by
  obtain ⟨s1, s2⟩ := srv_q hI ht
  unfold hitB
  rw [h.o (by decide) (by decide) (by decide), h.sv, h.1, earI_cg (r' := R) (r := r) (fun f hf => h.ck s1 hf)]
theorem tcm_cg (h : RC r L c (r 0) R) (hI : Inv bd r) (ht : t < nB r) : tcm R t L = tcm r t L := by
  unfold tcm
  have : hitB R t = hitB r t := funext (hit_cg h hI ht)
  rw [this]
def cA (r : Nat → Int32) (L i : Nat) : Nat → Bool := fun u => decide (u < i ∧ u < nB r ∧ TX r u 1 = 1 ∧ tcm r u L ≤ L)
def cD (r : Nat → Int32) (L i0 i : Nat) : Nat → Bool := fun u => decide (u < nB r ∧ TX r u 1 = 1 ∧ (tcm r u L ≤ i0 ∨ (u < i ∧ tcm r u L = i0 + 1)))
theorem cA_s (hi : i < nB r) (h1 : TX r i 1 = 1) (hl : tcm r i L ≤ L) (u : Nat) : cA r L (i + 1) u = (cA r L i u || decide (u = i)) := by
  unfold cA
  by_cases z : u = i
  · rw [z, decide_eq_true ⟨by omega, hi, h1, hl⟩, decide_eq_true rfl, Bool.or_true]
  · rw [decide_eq_false z, Bool.or_false]
    refine decide_eq_decide.mpr ⟨fun q => ⟨by omega, q.2⟩, fun q => ⟨by omega, q.2⟩⟩
theorem cA_n (h : ¬ (TX r i 1 = 1 ∧ tcm r i L ≤ L)) (u : Nat) : cA r L (i + 1) u = cA r L i u := by
  unfold cA
  refine decide_eq_decide.mpr ⟨fun q => ⟨?_, q.2⟩, fun q => ⟨by omega, q.2⟩⟩
  by_cases z : u = i
  · rw [z] at q
    exact absurd q.2.2 h
  · omega
theorem cA_i : cA r L i i = false := decide_eq_false (fun q => by omega)
theorem cD_s {i0 : Nat} (hi : i < nB r) (h1 : TX r i 1 = 1) (hl : tcm r i L = i0 + 1) (u : Nat) : cD r L i0 (i + 1) u = (cD r L i0 i u || decide (u = i)) := by
  unfold cD
  by_cases z : u = i
  · rw [z, decide_eq_true ⟨hi, h1, Or.inr ⟨by omega, hl⟩⟩, decide_eq_true rfl, Bool.or_true]
  · rw [decide_eq_false z, Bool.or_false]
    refine decide_eq_decide.mpr ⟨fun q => ⟨q.1, q.2.1, ?_⟩, fun q => ⟨q.1, q.2.1, ?_⟩⟩
    · rcases q.2.2 with q | q
      · exact Or.inl q
      · exact Or.inr ⟨by omega, q.2⟩
    · rcases q.2.2 with q | q
      · exact Or.inl q
      · exact Or.inr ⟨by omega, q.2⟩
theorem cD_n {i0 : Nat} (h : ¬ (TX r i 1 = 1 ∧ tcm r i L = i0 + 1)) (u : Nat) : cD r L i0 (i + 1) u = cD r L i0 i u := by
  unfold cD
  refine decide_eq_decide.mpr ⟨fun q => ⟨q.1, q.2.1, ?_⟩, fun q => ⟨q.1, q.2.1, ?_⟩⟩
  · rcases q.2.2 with w | w
    · exact Or.inl w
    · by_cases z : u = i
      · rw [z] at q w
        exact absurd ⟨q.2.1, w.2⟩ h
      · exact Or.inr ⟨by omega, w.2⟩
  · rcases q.2.2 with w | w
    · exact Or.inl w
    · exact Or.inr ⟨by omega, w.2⟩
theorem cD_e {i0 : Nat} (u : Nat) : cD r L (i0 + 1) 0 u = cD r L i0 (nB r) u := by
  unfold cD
  refine decide_eq_decide.mpr ⟨fun q => ⟨q.1, q.2.1, ?_⟩, fun q => ⟨q.1, q.2.1, ?_⟩⟩
  · have := q.1
    omega
  · omega
theorem cD_0 (u : Nat) : cD r L 0 0 u = false := by
  have := tcm_b r u L
  exact decide_eq_false (fun q => by omega)
theorem cD_L (u : Nat) : cD r L L 0 u = cA r L (nB r) u := by
  unfold cD cA
  refine decide_eq_decide.mpr ⟨fun q => ⟨q.1, q.1, q.2.1, by omega⟩, fun q => ⟨q.2.1, q.2.2.1, Or.inl q.2.2.2⟩⟩
theorem cnt_cA (h1 : c' = fun u => (c u || decide (u = t))) (ht : t < nB r) (hc : c t = false) : cnt c' (nB r) = cnt c (nB r) + 1 := by
  rw [h1]
  refine cnt_set hc (by rw [decide_eq_true rfl, Bool.or_true]) _ ht (fun u hu z => by rw [decide_eq_false z, Bool.or_false])
theorem k_adv (hn : 10010 ≤ n) (hC : Cls g 0 r) (hI : Inv bd r) (hL : L ≤ 1000) : ∃ g' R, sX2_advanceBy n g 0 (nI L) = some (nI (cnt (cA r L (nB r)) (nB r)), g') ∧ RC r L (cA r L (nB r)) (r 0 + nI L) R ∧ Cls g' 0 R ∧ ∀ k, 17 ≤ k → g' k = g k := by
  have hb := hI.b40
  have h0 : (0 : Int32) = nI (cnt (cA r L 0) (nB r)) := by
    rw [cnt_no (p := cA r L 0) _ (fun u _ => decide_eq_false (fun q => by omega))]
    rfl
  have key := lp_iv (fun f (s : Int32 × Mem) i => sX2_advanceBy_4 n f s.2 0 (nI L) s.1 i) (nB r) (fun s => some (s.1, mput s.2 0 0 (s.2 0 0 + nI L))) (fun i s => ∃ R, Cls s.2 0 R ∧ Inv bd R ∧ RC r L (cA r L i) (r 0) R ∧ s.1 = nI (cnt (cA r L i) (nB r)) ∧ ∀ k, 17 ≤ k → s.2 k = g k) (fun f i s hi hp => by
      obtain ⟨R, pC, pI, pR, p1, pk⟩ := hp
      have eB := pR.eqB
      have hi' : i < nB R := by rw [eB]; exact hi
      have hle : ¬ nI (nB R) ≤ nI i := nI_ge (by rw [eB]; exact hi) (by rw [eB]; omega)
      have hcl : (nI i).toNatClampNeg = i := nI_clamp (by omega)
      have eS : TX R i 1 = TX r i 1 := by rw [pR.tx (by decide), cA_i, if_neg (by decide)]
      have hb' := tcm_b r i L
      have htu : sX2_ticksUntilCommitted n s.2 0 (nI i) (nI L) = some (nI (tcm r i L)) := by
        rw [k_tuc hn pI pC hi' (by omega), tcm_cg pR hI hi]
      by_cases w : TX r i 1 = 1
      · by_cases z : tcm r i L ≤ L
        · have q1 : ¬ nI L < nI (tcm r i L) := nI_nlt z (by omega)
          have hx := tm_c pI (c := tcm r i L) (by omega)
          rw [pR.1] at hx
          obtain ⟨G, a1, a2, a3⟩ := op_commit1 (t := i) hn pC pI hi' (eS.trans w) hx.1
          refine ⟨(s.1 + 1, G), ⟨_, a2, inv_cmt pI hi' (eS.trans w) _, pR.cmt hI hL hi cA_i (cA_s hi w z), ?_, fun k hk => (a3 k hk).trans (pk k hk)⟩, ?_⟩
          · show s.1 + 1 = _
            rw [p1, nI_1, cnt_cA (funext (cA_s hi w z)) hi cA_i]
          · simp only [sX2_advanceBy_4, Nat.zero_add, Nat.reduceAdd, k_b pC pI, hle, if_false, ix40 (show i < 40 by omega), hcl, k_f1 pC hi', eS, w, if_true, htu, bi_s, q1, k_t0 pC, pR.1, a1, nI_1]
        · have q1 : nI L < nI (tcm r i L) := nI_lt (by omega) (by omega)
          refine ⟨s, ⟨R, pC, pI, pR.cg (cA_n (fun q => z q.2)), ?_, pk⟩, ?_⟩
          · rw [p1]; congr 2; exact (funext (cA_n (fun q => z q.2))).symm
          · simp only [sX2_advanceBy_4, Nat.zero_add, Nat.reduceAdd, k_b pC pI, hle, if_false, ix40 (show i < 40 by omega), hcl, k_f1 pC hi', eS, w, if_true, htu, bi_s, q1, nI_1]
      · refine ⟨s, ⟨R, pC, pI, pR.cg (cA_n (fun q => w q.1)), ?_, pk⟩, ?_⟩
        · rw [p1]; congr 2; exact (funext (cA_n (fun q => w q.1))).symm
        · simp only [sX2_advanceBy_4, Nat.zero_add, Nat.reduceAdd, k_b pC pI, hle, if_false, ix40 (show i < 40 by omega), hcl, k_f1 pC hi', eS, w, nI_1]) (fun f s hp => by
      obtain ⟨R, pC, pI, pR, p1, pk⟩ := hp
      have hle : nI (nB R) ≤ nI (nB r) := nI_le (by rw [pR.eqB]; exact Nat.le_refl _) (by omega)
      simp only [sX2_advanceBy_4, Nat.zero_add, k_b pC pI, hle, if_true, let_s]) (nB r) 0 (by omega) n (by omega) (0, g) ⟨r, hC, hI, RC.st (fun u => decide_eq_false (fun q => by omega)), h0, fun _ _ => rfl⟩
  obtain ⟨s, ⟨R, pC, pI, pR, p1, pk⟩, p4⟩ := key
  refine ⟨mput s.2 0 0 (s.2 0 0 + nI L), upd R 0 (r 0 + nI L), ?_, pR.time _, ?_, fun k hk => by rw [mput_ne (by omega)]; exact pk k hk⟩
  · rw [← p1]; exact p4
  · rw [k_t0 pC, pR.1]
    exact cls_time pC pI
theorem r_adv22 (hn : 10010 ≤ n) (hI0 : Inv bd r) (hL : L ≤ 1000) {i0 : Nat} (hi0 : i0 < L) (hI : Inv bd (m 1)) (hR : RC r L (cD r L i0 0) (r 0 + nI (i0 + 1)) (m 1)) (hT : (r 0).toInt + L ≤ 1000000) (rec : Mem → Int32 → Int32 → Int32 → Option (Int32 × Mem)) (a : Int32) : ∃ m', sX7_advances_22 n rec n m (nI L) (nI (cnt (cD r L i0 0) (nB r))) a 0 = rec m' (nI L) (nI (cnt (cD r L i0 (nB r)) (nB r))) (a + 1) ∧ Inv bd (m' 1) ∧ RC r L (cD r L i0 (nB r)) (r 0 + nI (i0 + 1)) (m' 1) ∧ ∀ k, k ≠ 1 → m' k = m k := by
  have hb := hI0.b40
  have htm := hI0.tm
  have ex : (r 0 + nI (i0 + 1)).toInt = (r 0).toInt + (i0 + 1 : Nat) := (tm_c hI0 (c := i0 + 1) (by omega)).2
  have key := lp_iv (fun f (s : Int32 × Mem) i => sX7_advances_22 n rec f s.2 (nI L) s.1 a i) (nB r) (fun s => rec s.2 (nI L) s.1 (a + 1)) (fun i s => Inv bd (s.2 1) ∧ RC r L (cD r L i0 i) (r 0 + nI (i0 + 1)) (s.2 1) ∧ s.1 = nI (cnt (cD r L i0 i) (nB r)) ∧ ∀ k, k ≠ 1 → s.2 k = m k) (fun f i s hi hp => by
      obtain ⟨pI, pR, p1, pk⟩ := hp
      have eB := pR.eqB
      have hi' : i < nB (s.2 1) := by rw [eB]; exact hi
      have hle : ¬ nI (nB (s.2 1)) ≤ nI i := nI_ge (by rw [eB]; exact hi) (by rw [eB]; omega)
      obtain ⟨s1, s2⟩ := srv_q hI0 hi
      obtain ⟨h1, h2, h3, h4⟩ := ftk_spec (hitB r i) L 1
      have e0 : TX (s.2 1) i 0 = nI (srv r i) := (pR.o (by decide) (by decide) (by decide)).trans s2
      have e2 : TX (s.2 1) i 2 = TX r i 2 := pR.o (by decide) (by decide) (by decide)
      have ee : sX7_earliestAt s.2 (nI (srv r i)) (s.2 1 0) = some (iI (earI r (srv r i) ((r 0).toInt + (i0 + 1 : Nat)))) := by
        rw [r_ear (pI.ck s1) s1 (tm_r pI), earI_cg (r' := s.2 1) (r := r) (fun f hf => pR.ck s1 hf), pR.1, ex]
      have eb := ear_b (hI0.ck s1) (t := (r 0).toInt + (i0 + 1 : Nat)) (by omega) htm.1 (by omega)
      have ei : (iI (earI r (srv r i) ((r 0).toInt + (i0 + 1 : Nat)))).toInt = earI r (srv r i) ((r 0).toInt + (i0 + 1 : Nat)) := iI_toInt (by omega) (by omega)
      by_cases w : TX r i 1 = 1
      · by_cases z : tcm r i L ≤ i0
        · have ec : cD r L i0 i i = true := decide_eq_true ⟨hi, w, Or.inl z⟩
          have e1 : TX (s.2 1) i 1 = 2 := by rw [pR.tx (by decide), ec, if_pos rfl, if_pos rfl]
          refine ⟨s, ⟨pI, pR.cg (cD_n (fun q => by omega)), ?_, pk⟩, ?_⟩
          · rw [p1]; congr 2; exact (funext (cD_n (fun q => by omega))).symm
          · simp only [sX7_advances_22, r_i3, c_3, pI.r3, hle, if_false, r_of1 (show i < 40 by omega), bi_s, e1, show ¬ (2 : Int32) = 1 by decide, nI_1]
        · have ec : cD r L i0 i i = false := decide_eq_false (fun q => by omega)
          have e1 : TX (s.2 1) i 1 = 1 := by rw [pR.tx (by decide), ec, if_neg (by decide)]; exact w
          by_cases y : tcm r i L = i0 + 1
          · have hh : hitB r i (i0 + 1) = true := by
              rw [← y]
              exact h4 (by unfold tcm at y; omega)
            unfold hitB at hh
            have hlt := of_decide_eq_true hh
            have q1 : ¬ iI (earI r (srv r i) ((r 0).toInt + (i0 + 1 : Nat))) ≤ TX r i 2 := by
              rw [i_le, ei]; omega
            obtain ⟨M, a1, a2, a3⟩ := r_commit1 (m := s.2) (t := i) pI hi' (fun g30 => sX7_advances_22 n rec f g30 (nI L) (s.1 + 1) a (nI (i + 1)))
            rw [pR.1, ← y] at a2
            refine ⟨(s.1 + 1, M), ⟨by show Inv bd (M 1); rw [a2]; exact inv_cmt pI hi' e1 _, by show RC r L _ _ (M 1); rw [a2]; exact pR.cmt hI0 hL hi ec (cD_s hi w y), ?_, fun k hk => (a3 k hk).trans (pk k hk)⟩, ?_⟩
            · show s.1 + 1 = _
              rw [p1, nI_1, cnt_cA (funext (cD_s hi w y)) hi ec]
            · rw [← a1]
              simp only [sX7_advances_22, r_i3, c_3, pI.r3, hle, if_false, r_of1 (show i < 40 by omega), bi_s, e1, if_true, r_of2 (show i < 40 by omega), r_of0 (show i < 40 by omega), e0, r_i0, c_0, ee, e2, q1, nI_1]
          · have hh : hitB r i (i0 + 1) = false := h3 (i0 + 1) (by omega) (by unfold tcm at z y; omega)
            unfold hitB at hh
            have hlt := of_decide_eq_false hh
            have q1 : iI (earI r (srv r i) ((r 0).toInt + (i0 + 1 : Nat))) ≤ TX r i 2 := by
              rw [i_le, ei]; omega
            refine ⟨s, ⟨pI, pR.cg (cD_n (fun q => y q.2)), ?_, pk⟩, ?_⟩
            · rw [p1]; congr 2; exact (funext (cD_n (fun q => y q.2))).symm
            · simp only [sX7_advances_22, r_i3, c_3, pI.r3, hle, if_false, r_of1 (show i < 40 by omega), bi_s, e1, if_true, r_of2 (show i < 40 by omega), r_of0 (show i < 40 by omega), e0, r_i0, c_0, ee, e2, q1, nI_1]
      · have ec : cD r L i0 i i = false := decide_eq_false (fun q => w q.2.1)
        have e1 : TX (s.2 1) i 1 = TX r i 1 := by rw [pR.tx (by decide), ec, if_neg (by decide)]
        refine ⟨s, ⟨pI, pR.cg (cD_n (fun q => w q.1)), ?_, pk⟩, ?_⟩
        · rw [p1]; congr 2; exact (funext (cD_n (fun q => w q.1))).symm
        · simp only [sX7_advances_22, r_i3, c_3, pI.r3, hle, if_false, r_of1 (show i < 40 by omega), bi_s, e1, w, nI_1]) (fun f s hp => by
      obtain ⟨pI, pR, p1, pk⟩ := hp
      have hle : nI (nB (s.2 1)) ≤ nI (nB r) := nI_le (by rw [pR.eqB]; exact Nat.le_refl _) (by omega)
      simp only [sX7_advances_22, r_i3, c_3, pI.r3, hle, if_true]) (nB r) 0 (by omega) n (by omega) (nI (cnt (cD r L i0 0) (nB r)), m) ⟨hI, hR, rfl, fun _ _ => rfl⟩
  obtain ⟨s, ⟨pI, pR, p1, pk⟩, p4⟩ := key
  refine ⟨s.2, ?_, pI, pR, pk⟩
  rw [← p1]
  exact p4
theorem r_adv (hn : 10010 ≤ n) (hI : Inv bd (m 1)) (hL : L ≤ 1000) (hT : (m 1 0).toInt + L ≤ 1000000) : ∃ m', sX7_advances n m (nI L) = some (nI (cnt (cA (m 1) L (nB (m 1))) (nB (m 1))), m') ∧ Inv bd (m' 1) ∧ RC (m 1) L (cA (m 1) L (nB (m 1))) (m 1 0 + nI L) (m' 1) ∧ ∀ k, k ≠ 1 → m' k = m k := by
  obtain ⟨r, hr⟩ : ∃ z, z = m 1 := ⟨_, rfl⟩
  rw [← hr] at hI hT ⊢
  have htm := hI.tm
  have h1 : Inv bd (m 1) := by rw [← hr]; exact hI
  have h2 : RC r L (cD r L 0 0) (r 0 + nI 0) (m 1) := by
    rw [← hr, nI_0, Int32.add_zero]
    exact RC.st cD_0
  have h3 : (0 : Int32) = nI (cnt (cD r L 0 0) (nB r)) := by
    rw [cnt_no (p := cD r L 0 0) _ (fun u _ => cD_0 u)]
    rfl
  have key := lp_iv (fun f (s : Int32 × Mem) i => sX7_advances_4 n f s.2 (nI L) s.1 i) L (fun s => some (s.1, s.2)) (fun i s => Inv bd (s.2 1) ∧ RC r L (cD r L i 0) (r 0 + nI i) (s.2 1) ∧ s.1 = nI (cnt (cD r L i 0) (nB r)) ∧ ∀ k, k ≠ 1 → s.2 k = m k) (fun f i s hi hp => by
      obtain ⟨pI, pR, p1, pk⟩ := hp
      have hle : ¬ nI L ≤ nI i := nI_ge hi (by omega)
      have e0 : s.2 1 0 + 1 = r 0 + nI (i + 1) := by rw [pR.1, Int32.add_assoc, nI_1]
      have x1 := (tm_c hI (c := i) (by omega)).2
      have x2 := (tm_c hI (c := i + 1) (by omega)).2
      obtain ⟨M, hM⟩ : ∃ z, z = mput s.2 1 0 (r 0 + nI (i + 1)) := ⟨_, rfl⟩
      have M1 : M 1 = upd (s.2 1) 0 (r 0 + nI (i + 1)) := by rw [hM, p_eq]
      have hIM : Inv bd (M 1) := by
        rw [M1]
        exact inv_time pI (by rw [pR.1, x1, x2]; omega) (by rw [x2]; omega)
      have hRM : RC r L (cD r L i 0) (r 0 + nI (i + 1)) (M 1) := by rw [M1]; exact pR.time _
      obtain ⟨M', a1, a2, a3, a4⟩ := r_adv22 hn hI hL hi hIM hRM hT (sX7_advances_4 n f) (nI i)
      refine ⟨(nI (cnt (cD r L i (nB r)) (nB r)), M'), ⟨a2, a3.cg cD_e, ?_, fun k hk => ((a4 k hk).trans (by rw [hM, mput_ne hk])).trans (pk k hk)⟩, ?_⟩
      · show nI (cnt (cD r L i (nB r)) (nB r)) = _
        congr 2
        exact (funext cD_e).symm
      · have e1 : sX7_advances_4 n (f + 1) s.2 (nI L) s.1 (nI i) = sX7_advances_22 n (sX7_advances_4 n f) n M (nI L) s.1 (nI i) 0 := by
          simp only [sX7_advances_4, hle, if_false, r_i0, c_0, e0, let_s, ← hM]
        show sX7_advances_4 n (f + 1) s.2 (nI L) s.1 (nI i) = sX7_advances_4 n f M' (nI L) (nI (cnt (cD r L i (nB r)) (nB r))) (nI (i + 1))
        rw [e1, p1, a1, nI_1]) (fun f s hp => by
      have hle : nI L ≤ nI L := nI_le (Nat.le_refl _) (by omega)
      simp only [sX7_advances_4, hle, if_true]) L 0 (by omega) n (by omega) (0, m) ⟨h1, h2, h3, fun _ _ => rfl⟩
  obtain ⟨s, ⟨pI, pR, p1, pk⟩, p4⟩ := key
  have ec : cA r L (nB r) = cD r L L 0 := (funext cD_L).symm
  refine ⟨s.2, ?_, pI, by rw [ec]; exact pR, pk⟩
  rw [ec, ← p1]
  exact p4
theorem op_adv (hn : 10010 ≤ n) (hC : Cls g 0 (m 1)) (hI : Inv bd (m 1)) (hL : L ≤ 1000) (hT : (m 1 0).toInt + L ≤ 1000000) : StO bd g m (sX2_advanceBy n g 0 (nI L)) (sX7_advances n m (nI L)) := by
  obtain ⟨g', R, a1, a2, a3, a4⟩ := k_adv hn hC hI hL
  obtain ⟨m', b1, b2, b3, b4⟩ := r_adv hn hI hL hT
  refine ⟨_, g', m', a1, b1, ?_, b2, a4, b4⟩
  rw [← a2.eq b3]
  exact a3
theorem q_advance {j : Nat} (hn : 10010 ≤ n) (hj : j ≤ 512) : sim_advance (Rel j) (Rel (j + 1)) n := by
  intro g m x hR
  have hC0 := hR.1.1
  have hI0 := hR.1.2.1
  have htm := hI0.tm
  have l1k : ((1000000 : Int32)).toInt = 1000000 := by decide
  rcases rng_c x g m 1 1000 with ⟨w0, w9, d1, d2⟩ | ⟨w0, d1, d2⟩
  · rw [l_1] at w0
    rw [l_1000] at w9
    obtain ⟨L, hL, rfl⟩ := ofN (x := x) (n := 1001) (by omega) (by omega)
    have eL := nI_toInt (n := L) (by omega)
    have es := (tm_c hI0 (c := L) (by omega)).2
    by_cases z : (m 1 0).toInt + L ≤ 1000000
    · have z1 : ¬ (1000000 : Int32) < m 1 0 + nI L := by rw [i_lt, l1k, es]; omega
      have z2 : m 1 0 + nI L ≤ (1000000 : Int32) := by rw [i_le, l1k, es]; omega
      obtain ⟨g1, m2, a1, a2, a3, a4, a5, a6⟩ := sv_both hn hR
      obtain ⟨v, g2, m3, b1, b2, b3, b4, b5, b6⟩ := op_adv (L := L) hn a3.1 a3.2.1 (by omega) (by rw [a4]; exact z)
      refine ⟨(0, v, g2), (v, m3), ?_, ?_, Rel.of (a3.st (Int.le_refl _) b3 b4 b5 b6) hj, Or.inl ⟨rfl, (congrFun (b6 0 (by decide)) 7).trans a5, rfl⟩⟩
      · simp only [sX6_advance, d1, rq_0, sX2_canAdvance, k_t0 hC0, z1, if_false, bi_s, i10, a1, b1, bi2_s]
      · simp only [sX7_advance, sX7_whyNotAdvance, d2, bi_s, i10, if_false, r_i0, c_0, z2, if_true, th_0, bi2_s, a2, b2]
    · have z1 : (1000000 : Int32) < m 1 0 + nI L := by rw [i_lt, l1k, es]; omega
      have z2 : ¬ m 1 0 + nI L ≤ (1000000 : Int32) := by rw [i_le, l1k, es]; omega
      obtain ⟨m1, hm⟩ : ∃ z, z = mput m 0 7 2 := ⟨_, rfl⟩
      refine ⟨(3, 0, g), (0, m1), ?_, ?_, by rw [hm]; exact hR.mono hj 2, Or.inr (Or.inr ⟨rfl, th_e hm⟩)⟩
      · simp only [sX6_advance, d1, rq_0, sX2_canAdvance, k_t0 hC0, z1, if_true, bi_s]
      · simp only [sX7_advance, sX7_whyNotAdvance, d2, bi_s, i10, if_false, r_i0, c_0, z2, th_2, bi2_s, ← hm]
  · obtain ⟨m1, hm⟩ : ∃ z, z = mput m 0 7 1 := ⟨_, rfl⟩
    refine ⟨(2, 0, g), (0, m1), ?_, ?_, by rw [hm]; exact hR.mono hj 1, Or.inr (Or.inl ⟨rfl, th_e hm⟩)⟩
    · simp only [sX6_advance, d1, rq_2]
    · simp only [sX7_advance, sX7_whyNotAdvance, d2, bi_s, if_true, th_1, bi2_s, i10, if_false, ← hm]
end QE
