/-! the pure part: a commit request is carried out -/
section QA
variable {bd bd' : Int} {g g' m : Mem} {r r' : Nat → Int32} {n t k s K T B : Nat}
theorem snd_cg {K' : Nat} {x : Int32} (e : ∀ f, f < 6 → g' K f = g K' f) : sX1_isSoundAt g' K x = sX1_isSoundAt g K' x := by
  unfold sX1_isSoundAt sX1_offsetAt sX1_uncertaintyAt sJ9_floorDiv_7cf53
  rw [e 0 (by decide), e 1 (by decide), e 2 (by decide), e 3 (by decide), e 4 (by decide), e 5 (by decide)]
theorem sndI_cg {t : Int} (e : ∀ f, f < 6 → CK r' s f = CK r s f) : sndI r' s t = sndI r s t := by
  unfold sndI offI uncI
  rw [e 0 (by decide), e 1 (by decide), e 2 (by decide), e 3 (by decide), e 4 (by decide), e 5 (by decide)]
theorem earI_cg {t : Int} (e : ∀ f, f < 6 → CK r' s f = CK r s f) : earI r' s t = earI r s t := by
  unfold earI offI uncI
  rw [e 0 (by decide), e 1 (by decide), e 2 (by decide), e 3 (by decide), e 4 (by decide), e 5 (by decide)]
/-- what an unsound use adds -/
def us (r : Nat → Int32) (s : Nat) (x : Int32) : Int32 := if sndI r s x.toInt = true then 0 else 1
theorem r_uses (h : ckok (m 1) s) (hs : s < 3) (hx : tmok (m 1) (m 1 0)) : sX7_uses m (nI s) = some (mput m 1 2 (m 1 2 + us (m 1) s (m 1 0))) := by
  unfold sX7_uses us
  rw [r_i2, r_i0, c_0, r_snd h hs hx, bi_s, b2_ite]
  cases sndI (m 1) s (m 1 0).toInt with
  | true => rw [if_pos rfl, if_pos rfl, r_i2, c_2, let_s]
  | false => rw [if_neg (by decide), if_neg (by decide), r_i2, c_2, let_s]
theorem k_uses {x y : Int32} {b : Bool} (h : sX1_isSoundAt g K x = some (b2 b)) : (sBi (sX1_isSoundAt g K x) fun r13 => if r13 = 0 then (sLet (mput g 0 2 (y + (1 : Int32))) fun g15 => some g15) else (sLet (mput g 0 2 (y + (0 : Int32))) fun g16 => some g16)) = some (mput g 0 2 (y + if b = true then 0 else 1)) := by
  rw [h, bi_s, b2_ite]
  cases b with
  | true => rw [if_pos rfl, if_pos rfl, let_s]
  | false => rw [if_neg (by decide), if_neg (by decide), let_s]
theorem mk_b (h : Inv bd r) (hk : k < 8) : ∀ d i (a : Int32), i + d ≤ nB r → 0 ≤ a.toInt → a.toInt ≤ bd → 0 ≤ (itr (mkS r k) i d a).toInt ∧ (itr (mkS r k) i d a).toInt ≤ bd
  | 0, i, a, _, h1, h2 => ⟨h1, h2⟩
  | d + 1, i, a, hd, h1, h2 => by
    show 0 ≤ (itr (mkS r k) (i + 1) d (mkS r k i a)).toInt ∧ (itr (mkS r k) (i + 1) d (mkS r k i a)).toInt ≤ bd
    have hi : i < nB r := by omega
    have hq : 0 ≤ (mkS r k i a).toInt ∧ (mkS r k i a).toInt ≤ bd := by
      unfold mkS
      by_cases e : TX r i 1 = 2
      · have hx := (h.tx hi).2.2.1 (Or.inr e)
        rw [if_pos e]
        split
        · rw [sMax_i]; omega
        · exact ⟨h1, h2⟩
      · rw [if_neg e]; exact ⟨h1, h2⟩
    exact mk_b h hk d (i + 1) _ (by omega) hq.1 hq.2
theorem oc_b (h : Inv bd r) (hC : Cls g 0 r) (hb : 3100000 ≤ bd) : ∀ d i (a : Int32), i + d ≤ 8 → 1 ≤ a.toInt → a.toInt ≤ bd + 1 → 1 ≤ (itr (ocS g r t) i d a).toInt ∧ a.toInt ≤ (itr (ocS g r t) i d a).toInt ∧ (itr (ocS g r t) i d a).toInt ≤ bd + 1 ∧ ∀ k, i ≤ k → k < i + d → wr r t k = true → (g 7 (k * 41 + cv r k)).toInt < (itr (ocS g r t) i d a).toInt
  | 0, i, a, _, h1, h2 => ⟨h1, Int.le_refl _, h2, fun k k1 k2 => by omega⟩
  | d + 1, i, a, hd, h1, h2 => by
    have e : itr (ocS g r t) i (d + 1) a = itr (ocS g r t) (i + 1) d (ocS g r t i a) := rfl
    rw [e]
    have hi : i < 8 := by omega
    have hV := hC.2.2.1 i hi
    have hl := h.bdl
    have v1 := vt_nn hV (Nat.le_refl _)
    have v2 := vt_b h hV (Nat.le_refl _) h.bd0
    have e1 : ((1 : Int32) + g 7 (i * 41 + cv r i)).toInt = 1 + (g 7 (i * 41 + cv r i)).toInt := by rw [i_add (by rw [l_1]; omega) (by rw [l_1]; omega), l_1]
    have mb := mk_b h hi (nB r) 0 0 (by omega) (by rw [l_0]; exact Int.le_refl _) (by rw [l_0]; exact h.bd0)
    have e2 : ((1 : Int32) + mk r i).toInt = 1 + (mk r i).toInt := by
      have mb' : 0 ≤ (mk r i).toInt ∧ (mk r i).toInt ≤ bd := mb
      rw [i_add (by rw [l_1]; omega) (by rw [l_1]; omega), l_1]
    have mb' : 0 ≤ (mk r i).toInt ∧ (mk r i).toInt ≤ bd := mb
    have hq : 1 ≤ (ocS g r t i a).toInt ∧ a.toInt ≤ (ocS g r t i a).toInt ∧ (ocS g r t i a).toInt ≤ bd + 1 ∧ (wr r t i = true → (g 7 (i * 41 + cv r i)).toInt < (ocS g r t i a).toInt) := by
      unfold ocS
      cases ew : wr r t i with
      | true =>
        rw [if_pos rfl, Bool.or_true, if_pos rfl, sMax_i, sMax_i, e1, e2]
        exact ⟨by omega, by omega, by omega, fun _ => by omega⟩
      | false =>
        rw [if_neg (by decide)]
        cases er : rd r t i with
        | true =>
          rw [Bool.true_or, if_pos rfl, sMax_i, e1]
          exact ⟨by omega, by omega, by omega, fun z => by cases z⟩
        | false =>
          rw [Bool.or_self, if_neg (by decide)]
          exact ⟨h1, Int.le_refl _, h2, fun z => by cases z⟩
    obtain ⟨q1, q2, q3, q4⟩ := hq
    obtain ⟨w1, w2, w3, w4⟩ := oc_b h hC hb d (i + 1) (ocS g r t i a) (by omega) q1 q3
    refine ⟨w1, Int.le_trans q2 w2, w3, fun k k1 k2 hw => ?_⟩
    by_cases z : k = i
    · rw [z] at hw ⊢
      exact Int.lt_of_lt_of_le (q4 hw) w2
    · exact w4 k (by omega) (by omega) hw
theorem ocN_b (h : Inv bd r) (hC : Cls g 0 r) (hb : 3100000 ≤ bd) (ht : t < nB r) : 1 ≤ (ocN g r t).toInt ∧ (ocN g r t).toInt ≤ bd + 1 ∧ ∀ k, k < 8 → wr r t k = true → (g 7 (k * 41 + cv r k)).toInt < (ocN g r t).toInt := by
  obtain ⟨s1, s2⟩ := srv_q h ht
  have hx := nx_b h s1 (Int.le_refl _) (by have := h.tm.2; omega)
  obtain ⟨a, b, c, d⟩ := oc_b (t := t) h hC hb 8 0 (nx r (TX r t 0).toNatClampNeg (r 0).toInt) (by decide) hx.1 (by have : (nx r (TX r t 0).toNatClampNeg (r 0).toInt).toInt ≤ max 3100000 (bd + 1) := hx.2; omega)
  exact ⟨a, c, fun k hk hw => d k (by omega) (by omega) hw⟩
theorem lkd_no (h : lkd r t = false) {w : Nat} (hw : w < nB r) (h1 : TX r w 1 = 1) (hk : k < 8) : ¬ (wr r w k = true ∧ wr r t k = true) := by
  intro ⟨a, b⟩
  have : lkd r t = true := by
    unfold lkd
    rw [anyB_iff]
    refine ⟨w, hw, ?_⟩
    rw [h1]
    have : lkA r w t = true := by
      unfold lkA
      rw [anyB_iff]
      refine ⟨k, hk, ?_⟩
      unfold lkB
      rw [a, b]
      cases rd r t k <;> rfl
    rw [this]
    decide
  rw [h] at this
  cases this
/-- the row when a transaction has become waiting -/
def wtR (r : Nat → Int32) (t : Nat) (x : Int32) : Nat → Int32 := upd (upd (upd (upd (upd r (25 + 21 * t + 1) 1) (25 + 21 * t + 2) x) (25 + 21 * t + 3) (r 0)) (4 + srv r t) x) 2 (r 2 + us r (srv r t) (r 0))
theorem wtR_lo {x : Int32} {j : Nat} (hs : srv r t < 3) (h2 : j ≠ 2) (h4 : j ≠ 4 + srv r t) (hj : j < 25) : wtR r t x j = r j := by
  unfold wtR upd
  rw [if_neg h2, if_neg h4, if_neg (by omega), if_neg (by omega), if_neg (by omega)]
theorem wtR_TX {x : Int32} {u f : Nat} (hs : srv r t < 3) (hf : f < 21) : TX (wtR r t x) u f = if u = t ∧ f = 1 then 1 else if u = t ∧ f = 2 then x else if u = t ∧ f = 3 then r 0 else TX r u f := by
  unfold wtR
  rw [TX_lo (by decide), TX_lo (by omega), TX_up (by decide) hf, TX_up (by decide) hf, TX_up (by decide) hf]
  by_cases z : u = t
  · rcases (show f = 1 ∨ f = 2 ∨ f = 3 ∨ (f ≠ 1 ∧ f ≠ 2 ∧ f ≠ 3) by omega) with e | e | e | ⟨e1, e2, e3⟩
    · simp [z, e]
    · simp [z, e]
    · simp [z, e]
    · simp [e1, e2, e3]
  · simp [z]
theorem wtR_CK {x : Int32} {q f : Nat} (hs : srv r t < 3) (hq : q < 3) (hf : f < 6) : CK (wtR r t x) q f = CK r q f := wtR_lo hs (by omega) (by omega) (by omega)
theorem wtR_nB {x : Int32} (hs : srv r t < 3) : nB (wtR r t x) = nB r := by
  unfold nB
  rw [wtR_lo hs (by decide) (by omega) (by decide)]
theorem wtR_row {x : Int32} (hs : srv r t < 3) : Row1 r (wtR r t x) t := fun u f hu hf hne => by rw [wtR_TX hs hf, if_neg (fun z => hne z.1), if_neg (fun z => hne z.1), if_neg (fun z => hne z.1)]
theorem op_wait (hn : 10010 ≤ n) (hC : Cls g 0 (m 1)) (hI : Inv bd (m 1)) (hb : 3100000 ≤ bd) (hb2 : bd + 1 ≤ 4000000) (ht : t < nB (m 1)) (h0 : TX (m 1) t 1 = 0) (hl : lkd (m 1) t = false) {x : Int32} (hx : x = ocN g (m 1) t) : ∃ g' m', sX2_makeWaiting g 0 (nI t) x = some g' ∧ sX7_requests m (nI t) x = some m' ∧ Cls g' 0 (m' 1) ∧ Inv (bd + 1) (m' 1) ∧ (∀ k, 17 ≤ k → g' k = g k) ∧ ∀ k, k ≠ 1 → m' k = m k := by
  have h40 := hI.b40
  obtain ⟨s1, s2⟩ := srv_q hI ht
  obtain ⟨s, hs⟩ : ∃ z, z = srv (m 1) t := ⟨_, rfl⟩
  rw [← hs] at s1 s2
  have s1' : srv (m 1) t < 3 := by rw [← hs]; exact s1
  obtain ⟨o1, o2, o3⟩ := ocN_b hI hC hb ht
  rw [← hx] at o1 o2 o3
  have hbs : (nI s).toNatClampNeg = s := nI_clamp (by omega)
  have hbt : (nI t).toNatClampNeg = t := nI_clamp (by omega)
  obtain ⟨R, hR⟩ : ∃ z, z = wtR (m 1) t x := ⟨_, rfl⟩
  have eT : ∀ u f, f < 21 → TX R u f = if u = t ∧ f = 1 then 1 else if u = t ∧ f = 2 then x else if u = t ∧ f = 3 then m 1 0 else TX (m 1) u f := fun u f hf => by rw [hR]; exact wtR_TX s1' hf
  have eo : ∀ f, f < 21 → f ≠ 1 → f ≠ 2 → f ≠ 3 → TX R t f = TX (m 1) t f := fun f hf h1 h2 h3 => by rw [eT t f hf, if_neg (by omega), if_neg (by omega), if_neg (by omega)]
  have e1 : TX R t 1 = 1 := by rw [eT t 1 (by decide), if_pos ⟨rfl, rfl⟩]
  have e2 : TX R t 2 = x := by rw [eT t 2 (by decide), if_neg (by omega), if_pos ⟨rfl, rfl⟩]
  have e3 : TX R t 3 = m 1 0 := by rw [eT t 3 (by decide), if_neg (by omega), if_neg (by omega), if_pos ⟨rfl, rfl⟩]
  have eB : nB R = nB (m 1) := by rw [hR]; exact wtR_nB s1'
  have hRow : Row1 (m 1) R t := by rw [hR]; exact wtR_row s1'
  have elo : ∀ j, j ≠ 2 → j ≠ 4 + s → j < 25 → R j = m 1 j := fun j h2 h4 hj => by rw [hR]; exact wtR_lo s1' h2 (by rw [← hs]; exact h4) hj
  have r2 : R 2 = m 1 2 + us (m 1) s (m 1 0) := by
    rw [hR, hs]
    unfold wtR upd
    rw [if_pos rfl]
  have r4 : R (4 + s) = x := by
    rw [hR, hs]
    unfold wtR upd
    rw [if_neg (by omega), if_pos rfl]
  have eCK : ∀ q, q < 3 → ∀ f, f < 6 → CK R q f = CK (m 1) q f := fun q hq f hf => by rw [hR]; exact wtR_CK s1' hq hf
  have ho : ∀ u, u < nB R → u ≠ t → u < nB (m 1) := fun u h1 _ => by rw [eB] at h1; exact h1
  have n2 : TX R t 1 ≠ 2 := by rw [e1]; decide
  have hsv : SV (m 1) R := sv_row (by rw [eB]; exact Nat.le_refl _) (by rw [eB]; exact h40) ho hRow n2 (fun _ => by rw [h0]; decide)
  have hwr : ∀ u k, u < 40 → k < 8 → wr R u k = wr (m 1) u k := fun u k hu hk => by
    by_cases z : u = t
    · unfold wr; rw [z, eo _ (by omega) (by omega) (by omega) (by omega)]
    · exact wr_row hRow hu hk z
  have hI' : Inv (bd + 1) R := by
    refine inv_row (T := t) hI (by omega) hb2 (by rw [elo 3 (by decide) (by omega) (by decide), eB]; exact hI.r3) (by rw [eB]; exact h40) ho hRow (elo 0 (by decide) (by omega) (by decide)) (elo 1 (by decide) (by omega) (by decide)) eCK (fun q hq => ?_) (fun _ => ?_) ?_
    · by_cases z : q = s
      · rw [z, r4]; omega
      · rw [elo _ (by omega) (by omega) (by omega)]
        have := hI.asg hq
        omega
    · obtain ⟨x1, x2, x3, x4, x5, x6⟩ := hI.tx ht
      unfold txok
      rw [e1, e2, e3, eo 0 (by decide) (by decide) (by decide) (by decide), eo 4 (by decide) (by decide) (by decide) (by decide)]
      refine ⟨x1, Or.inr (Or.inl rfl), fun _ => ⟨o1, o2⟩, fun z => ?_, fun _ => x5 (by rw [h0]; decide), fun k hk => by rw [eo _ (by omega) (by omega) (by omega) (by omega), eo _ (by omega) (by omega) (by omega) (by omega)]; exact x6 k hk⟩
      rcases z with z | z
      · exact absurd z (by decide)
      · exact absurd z (by decide)
    · intro a ha hwa k hk hwk u hu
      rw [eB] at ha hu
      rw [hwr a k (by omega) hk] at hwk
      rw [hwr u k (by omega) hk]
      by_cases za : a = t
      · rw [za] at hwk ⊢
        refine ⟨fun h1 h2 => ?_, fun hv => ?_⟩
        · by_cases zu : u = t
          · exact zu
          · rw [hRow u 1 (by omega) (by decide) zu] at h1
            exact absurd ⟨h2, hwk⟩ (lkd_no hl hu h1 hk)
        · have zu : u ≠ t := fun z => by rw [z, ver_n2 n2] at hv; cases hv
          rw [ver_row hRow (by omega) hk zu] at hv
          obtain ⟨i, i1, i2, i3, i4⟩ := v_of (hC.2.2.1 k hk) hu hv
          rw [hRow u 2 (by omega) (by decide) zu, e2, ← i3]
          have q1 := vt_le (hC.2.2.1 k hk) i2 (Nat.le_refl _)
          have q2 := o3 k hk hwk
          omega
      · rw [hRow a 1 (by omega) (by decide) za] at hwa
        rw [hRow a 2 (by omega) (by decide) za]
        by_cases zu : u = t
        · refine ⟨fun _ h2 => ?_, fun hv => ?_⟩
          · rw [zu] at h2
            exact absurd ⟨hwk, h2⟩ (lkd_no hl ha hwa hk)
          · rw [zu, ver_n2 n2] at hv; cases hv
        · rw [hRow u 1 (by omega) (by decide) zu, hRow u 2 (by omega) (by decide) zu, ver_row hRow (by omega) hk zu]
          exact hI.lk a ha hwa k hk hwk u hu
  obtain ⟨G, hG⟩ : ∃ z, z = mput (mput (mput (mput g 11 t 1) 12 t x) 13 t (m 1 0)) (2 + s) 6 x := ⟨_, rfl⟩
  have Gk : ∀ k, k ≠ 11 → k ≠ 12 → k ≠ 13 → k ≠ 2 + s → G k = g k := fun k h1 h2 h3 h4 => by rw [hG, mput_ne h4, mput_ne h3, mput_ne h2, mput_ne h1]
  have G0 : G 0 = g 0 := Gk 0 (by decide) (by decide) (by decide) (by omega)
  have Gs : ∀ f, f < 6 → G (2 + s) f = g (2 + s) f := fun f hf => by
    rw [hG, mp_at (by omega), mput_ne (by omega), mput_ne (by omega), mput_ne (by omega)]
  have hsnd : sX1_isSoundAt G (2 + s) (m 1 0) = some (b2 (sndI (m 1) s (m 1 0).toInt)) := by
    rw [snd_cg (g := g) (K' := 2 + s) Gs]
    exact k_snd (hI.ck s1) hC s1 (tm_r hI)
  obtain ⟨M, hM⟩ : ∃ z, z = mput (mput (mput (mput m 1 (25 + 21 * t + 1) 1) 1 (25 + 21 * t + 2) x) 1 (25 + 21 * t + 3) (m 1 0)) 1 (4 + s) x := ⟨_, rfl⟩
  have M1 : M 1 = upd (upd (upd (upd (m 1) (25 + 21 * t + 1) 1) (25 + 21 * t + 2) x) (25 + 21 * t + 3) (m 1 0)) (4 + s) x := by
    rw [hM, mput_eq, mput_eq, mput_eq, mput_eq]
  have M0 : M 1 0 = m 1 0 := by rw [hM, mp_at (by omega), mp_at (by omega), mp_at (by omega), mp_at (by omega)]
  have M2 : M 1 2 = m 1 2 := by rw [hM, mp_at (by omega), mp_at (by omega), mp_at (by omega), mp_at (by omega)]
  have Mck : ∀ f, f < 6 → CK (M 1) s f = CK (m 1) s f := fun f hf => by
    show M 1 (7 + 6 * s + f) = m 1 (7 + 6 * s + f)
    rw [hM, mp_at (by omega), mp_at (by omega), mp_at (by omega), mp_at (by omega)]
  have hu : sX7_uses M (nI s) = some (mput M 1 2 (m 1 2 + us (m 1) s (m 1 0))) := by
    have htm : tmok (M 1) (M 1 0) := by
      have := tm_r hI
      unfold tmok at this ⊢
      rw [M0]; exact this
    rw [r_uses (ck_row (hI.ck s1) M0 Mck) s1 htm, M0, M2]
    unfold us
    rw [sndI_cg Mck]
  have eM : mput M 1 2 (m 1 2 + us (m 1) s (m 1 0)) 1 = R := by rw [p_eq, M1, hR, hs]; rfl
  refine ⟨mput G 0 2 (m 1 2 + us (m 1) s (m 1 0)), mput M 1 2 (m 1 2 + us (m 1) s (m 1 0)), ?_, ?_, ?_, by rw [eM]; exact hI', fun k hk => ?_, fun k hk => ?_⟩
  · have i40 : ∀ {α : Type} {x : Option α}, (sIdx (nI t) 40 fun _ => x) = x := ix40 (by omega)
    have i3 : ∀ {α : Type} {x : Option α}, (sIdx (nI s) 3 fun _ => x) = x := ix3 s1
    have g10 : g 10 t = nI s := (k_f0 hC ht).trans s2
    have g5 : mput (mput g 11 t 1) 12 t x 0 0 = m 1 0 := by rw [mput_ne (by decide), mput_ne (by decide)]; exact k_t0 hC
    have G00 : G 0 0 = m 1 0 := by rw [G0]; exact k_t0 hC
    have G02 : G 0 2 = m 1 2 := by rw [G0]; exact k_t2 hC
    unfold sX2_makeWaiting
    simp only [Nat.zero_add, Nat.reduceAdd, i40, hbt, let_s, g10, hbs, i3, g5, ← hG, G00, G02]
    exact k_uses hsnd
  · unfold sX7_requests
    have n2' : ¬ x = -2 := fun z => by rw [z] at o1; revert o1; decide
    have q3 : mput (mput m 1 (25 + 21 * t + 1) 1) 1 (25 + 21 * t + 2) x 1 0 = m 1 0 := by rw [mp_at (by omega), mp_at (by omega)]
    have q0 : TX (mput (mput (mput m 1 (25 + 21 * t + 1) 1) 1 (25 + 21 * t + 2) x) 1 (25 + 21 * t + 3) (m 1 0) 1) t 0 = nI s := by
      rw [mput_eq, mput_eq, mput_eq, TX_up (by decide) (by decide), if_neg (by omega), TX_up (by decide) (by decide), if_neg (by omega), TX_up (by decide) (by decide), if_neg (by omega)]
      exact s2
    have q0' : TX (M 1) t 0 = nI s := by
      rw [hM, p_eq, TX_lo (by omega)]
      exact q0
    have e4 : (4 : Int32) + nI s = nI (4 + s) := nI_add 4 s
    have c4 : (nI (4 + s)).toNatClampNeg = 4 + s := nI_clamp (by omega)
    rw [if_neg n2', lay_q (F := 1) (l21n 1 1 rfl) (by omega) (by decide), bi_s, lay_q (F := 2) (l21n 2 2 rfl) (by omega) (by decide), bi_s, r_i0, c_0, q3, lay_q (F := 3) (l21n 3 3 rfl) (by omega) (by decide), bi_s, r_of0 (by omega), bi_s, q0, e4, r_i (4 + s) rfl (by omega), let_s, c4, ← hM, r_of0 (by omega), bi_s, q0', hu, bi_s]
  · rw [eM]
    refine cls_row (T := t) hC hsv (by rw [eB]; exact h40) ho hRow ?_ ?_ ?_ ?_ ?_ (fun u hne => ?_) (fun _ => ?_) (fun _ k' hk' => ?_)
    · obtain ⟨a1, a2, a3, a4, a5⟩ := hC.1
      refine ⟨?_, ?_, ?_, fun q hq f hf => ?_, fun q hq => ?_⟩
      · rw [mp_at (by decide), G0, elo 0 (by decide) (by omega) (by decide)]; exact a1
      · rw [mp_at (by decide), G0, elo 1 (by decide) (by omega) (by decide)]; exact a2
      · rw [mp_eq, r2]
      · rw [eCK q hq f hf, mput_ne (by omega)]
        by_cases z : q = s
        · rw [z, Nat.zero_add, Gs f hf]
          have := a4 s s1 f hf
          simpa using this
        · rw [Gk _ (by omega) (by omega) (by omega) (by omega)]
          exact a4 q hq f hf
      · rw [mput_ne (by omega)]
        by_cases z : q = s
        · rw [z, r4, hG, Nat.zero_add, mp_eq]
        · rw [Gk _ (by omega) (by omega) (by omega) (by omega), elo _ (by omega) (by omega) (by omega)]
          exact a5 q hq
    · rw [mput_ne (by decide), Gk 9 (by decide) (by decide) (by decide) (by omega), elo 3 (by decide) (by omega) (by decide)]
      exact (k_b hC hI).trans hI.r3.symm
    · rw [mput_ne (by decide), Gk 6 (by decide) (by decide) (by decide) (by omega)]
    · rw [mput_ne (by decide), Gk 7 (by decide) (by decide) (by decide) (by omega)]
    · rw [mput_ne (by decide), Gk 8 (by decide) (by decide) (by decide) (by omega)]
    · have g11 : G 11 u = g 11 u := by rw [hG, mput_ne (by omega), mput_ne (by decide), mput_ne (by decide), mp_at hne]
      have g12 : G 12 u = g 12 u := by rw [hG, mput_ne (by omega), mput_ne (by decide), mp_at hne, mput_ne (by decide)]
      have g13 : G 13 u = g 13 u := by rw [hG, mput_ne (by omega), mp_at hne, mput_ne (by decide), mput_ne (by decide)]
      rw [mput_ne (by decide), mput_ne (by decide), mput_ne (by decide), mput_ne (by decide), mput_ne (by decide), mput_ne (by decide), mput_ne (by decide), g11, g12, g13, Gk 10 (by decide) (by decide) (by decide) (by omega), Gk 14 (by decide) (by decide) (by decide) (by omega), Gk 15 (by decide) (by decide) (by decide) (by omega), Gk 16 (by decide) (by decide) (by decide) (by omega)]
      exact ⟨rfl, rfl, rfl, rfl, rfl, fun _ _ => ⟨rfl, rfl⟩⟩
    · have g11 : G 11 t = 1 := by rw [hG, mput_ne (by omega), mput_ne (by decide), mput_ne (by decide), mp_eq]
      have g12 : G 12 t = x := by rw [hG, mput_ne (by omega), mput_ne (by decide), mp_eq]
      have g13 : G 13 t = m 1 0 := by rw [hG, mput_ne (by omega), mp_eq]
      rw [mput_ne (by decide), mput_ne (by decide), mput_ne (by decide), mput_ne (by decide), mput_ne (by decide), mput_ne (by decide), g11, g12, g13, Gk 10 (by decide) (by decide) (by decide) (by omega), Gk 14 (by decide) (by decide) (by decide) (by omega), Gk 15 (by decide) (by decide) (by decide) (by omega), e1, e2, e3, eo 0 (by decide) (by decide) (by decide) (by decide), eo 4 (by decide) (by decide) (by decide) (by decide)]
      refine ⟨k_f0 hC ht, rfl, rfl, rfl, k_f4 hC ht, fun k' hk' => ?_⟩
      rw [eo _ (by omega) (by omega) (by omega) (by omega)]
      have := (hC.2.1.2 t ht).2.2.2.2.2 k' hk'
      simpa using this
    · rw [mput_ne (by decide), Gk 16 (by decide) (by decide) (by decide) (by omega), eo _ (by omega) (by omega) (by omega) (by omega)]
      have := hC.2.2.2 t ht k' hk'
      simpa using this
  · rw [mput_ne (by omega), Gk k (by omega) (by omega) (by omega) (by omega)]
  · rw [mput_ne hk, hM, mput_ne hk, mput_ne hk, mput_ne hk, mput_ne hk]
theorem oc_cases (h : Inv bd r) : (oc g r t = -2) ∨ oc g r t = -3 ∨ (lkd r t = false ∧ oc g r t = ocN g r t) := by
  unfold oc
  cases anyB (cfB g r t) 8 with
  | true => exact Or.inl rfl
  | false =>
    cases hl : lkd r t with
    | true => exact Or.inr (Or.inl rfl)
    | false => exact Or.inr (Or.inr ⟨rfl, rfl⟩)
theorem op_req (hn : 10010 ≤ n) (hC : Cls g 0 (m 1)) (hI : Inv bd (m 1)) (hb : 3100000 ≤ bd) (hb2 : bd + 1 ≤ 4000000) (ht : t < nB (m 1)) (h0 : TX (m 1) t 1 = 0) (h3 : oc g (m 1) t ≠ -3) : ∃ g' m', sX2_carryOut n g 0 (oc g (m 1) t) (nI t) = some g' ∧ sX7_requests m (nI t) (oc g (m 1) t) = some m' ∧ Cls g' 0 (m' 1) ∧ Inv (bd + 1) (m' 1) ∧ (∀ k, 17 ≤ k → g' k = g k) ∧ ∀ k, k ≠ 1 → m' k = m k := by
  unfold sX2_carryOut
  by_cases z : oc g (m 1) t = -2
  · obtain ⟨g', m', a1, a2, a3, a4, a5, a6, a7⟩ := op_abort hn hC hI ht h0
    refine ⟨g', m', ?_, ?_, a3, a4.mono (by omega) hb2, a5, a6⟩
    · rw [if_pos z, a1, bi2_s]
    · unfold sX7_requests
      rw [if_pos z, a2, bi_s]
  · rcases oc_cases (g := g) (t := t) hI with q | q | ⟨q1, q2⟩
    · exact absurd q z
    · exact absurd q h3
    · obtain ⟨g', m', a1, a2, a3, a4, a5, a6⟩ := op_wait hn hC hI hb hb2 ht h0 q1 q2
      refine ⟨g', m', ?_, a2, a3, a4, a5, a6⟩
      rw [if_neg z, if_neg h3, a1, bi_s]
end QA
