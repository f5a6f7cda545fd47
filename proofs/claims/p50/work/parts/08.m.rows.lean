/-! the pure part: one transaction's row changes -/
theorem cnt_ext {p q : Nat → Bool} {n : Nat} : ∀ d, (∀ i, i < n → q i = p i) → (∀ i, n ≤ i → i < n + d → q i = false) → cnt q (n + d) = cnt p n
  | 0, e, _ => cnt_cg n e
  | d + 1, e, f => by
    show cnt q (n + d) + (if q (n + d) = true then 1 else 0) = cnt p n
    rw [cnt_ext d e (fun i h1 h2 => f i h1 (by omega)), f (n + d) (by omega) (by omega)]
    rfl
theorem cnt_ex {p q : Nat → Bool} {n n' : Nat} (h : n ≤ n') (e : ∀ i, i < n → q i = p i) (f : ∀ i, n ≤ i → i < n' → q i = false) : cnt q n' = cnt p n := by
  have := cnt_ext (p := p) (q := q) (n := n) (n' - n) e (fun i h1 h2 => f i h1 (by omega))
  rwa [show n + (n' - n) = n' by omega] at this
def SV (r r' : Nat → Int32) : Prop := nB r ≤ nB r' ∧ (∀ u, u < nB r → ∀ k, k < 8 → ver r' u k = ver r u k ∧ (ver r u k = true → TX r' u 2 = TX r u 2 ∧ TX r' u (5 + k) = TX r u (5 + k))) ∧ ∀ u, nB r ≤ u → u < nB r' → ∀ k, k < 8 → ver r' u k = false
section PY
variable {bd bd' : Int} {g g' m : Mem} {r r' : Nat → Int32} {n t k s K T : Nat}
theorem SV.ecv (h : SV r r') (hk : k < 8) : cv r' k = cv r k := cnt_ex h.1 (fun i hi => (h.2.1 i hi k hk).1) (fun i h1 h2 => h.2.2 i h1 h2 k hk)
theorem SV.clV (h : SV r r') (hk : k < 8) (e6 : g' (K + 6) = g (K + 6)) (e7 : g' (K + 7) = g (K + 7)) (e8 : g' (K + 8) = g (K + 8)) (hV : ClV g K r k) : ClV g' K r' k := by
  obtain ⟨c1, c2, c3, c4, c5, c6, c7⟩ := hV
  have hn := h.1
  have ec := h.ecv hk
  refine ⟨by rw [ec, e6]; exact c1, by rw [e7]; exact c2, by rw [e8]; exact c3, fun i i1 i2 => ?_, fun t ht hv => ?_, fun i j h1 h2 => by rw [e7]; exact c6 i j h1 (by rw [← ec]; exact h2), fun i i1 i2 => ?_⟩
  · rw [ec] at i2
    obtain ⟨t, t1, t2, t3, t4⟩ := c4 i i1 i2
    obtain ⟨a, b⟩ := h.2.1 t t1 k hk
    obtain ⟨b1, b2⟩ := b t2
    exact ⟨t, by omega, a.trans t2, by rw [e7, b1]; exact t3, by rw [e8, b2]; exact t4⟩
  · have q : t < nB r := by
      rcases Nat.lt_or_ge t (nB r) with q | q
      · exact q
      · rw [h.2.2 t q ht k hk] at hv; cases hv
    obtain ⟨a, b⟩ := h.2.1 t q k hk
    rw [a] at hv
    obtain ⟨b1, b2⟩ := b hv
    obtain ⟨i, i1, i2, i3, i4⟩ := c5 t q hv
    exact ⟨i, i1, by rw [ec]; exact i2, by rw [e7, b1]; exact i3, by rw [e8, b2]; exact i4⟩
  · rw [ec] at i2
    refine Eq.trans ?_ (c7 i i1 i2)
    congr 1
    refine cnt_ex hn (fun u hu => ?_) (fun u h1 h2 => by rw [h.2.2 u h1 h2 k hk, Bool.false_and])
    obtain ⟨a, b⟩ := h.2.1 u hu k hk
    rw [a, e7]
    cases hv : ver r u k with
    | false => rw [Bool.false_and, Bool.false_and]
    | true => rw [(b hv).1]
def Row1 (r r' : Nat → Int32) (T : Nat) : Prop := ∀ t f, t < 40 → f < 21 → t ≠ T → TX r' t f = TX r t f
theorem wr_row (h : Row1 r r' T) (ht : t < 40) (hk : k < 8) (hne : t ≠ T) : wr r' t k = wr r t k := by unfold wr; rw [h t (5 + k) ht (by omega) hne]
theorem ver_row (h : Row1 r r' T) (ht : t < 40) (hk : k < 8) (hne : t ≠ T) : ver r' t k = ver r t k := by unfold ver; rw [wr_row h ht hk hne, h t 1 ht (by omega) hne]
theorem ver_n2 (h : TX r t 1 ≠ 2) : ver r t k = false := by unfold ver; simp [h]
theorem sv_row (hn : nB r ≤ nB r') (hb : nB r' ≤ 40) (ho : ∀ t, t < nB r' → t ≠ T → t < nB r) (hR : Row1 r r' T) (h2 : TX r' T 1 ≠ 2) (h0 : T < nB r → TX r T 1 ≠ 2) : SV r r' := by
  refine ⟨hn, fun u hu k hk => ?_, fun u h1 h3 k hk => ?_⟩
  · by_cases z : u = T
    · rw [z] at hu ⊢
      rw [ver_n2 h2, ver_n2 (h0 hu)]
      exact ⟨rfl, fun q => by cases q⟩
    · exact ⟨ver_row hR (by omega) hk z, fun _ => ⟨hR u 2 (by omega) (by omega) z, hR u _ (by omega) (by omega) z⟩⟩
  · by_cases z : u = T
    · rw [z]; exact ver_n2 h2
    · have := ho u h3 z; omega
theorem lk_row (h : lkok r) (hb : nB r' ≤ 40) (ho : ∀ t, t < nB r' → t ≠ T → t < nB r) (hR : Row1 r r' T) (h1 : TX r' T 1 ≠ 1) (h2 : TX r' T 1 ≠ 2) : lkok r' := by
  intro t ht hw k hk hwr u hu
  have zt : t ≠ T := fun z => by rw [z] at hw; exact h1 hw
  rw [hR t 1 (by omega) (by omega) zt] at hw
  rw [wr_row hR (by omega) hk zt] at hwr
  rw [hR t 2 (by omega) (by omega) zt]
  by_cases zu : u = T
  · rw [zu, ver_n2 h2]
    exact ⟨fun q => absurd q h1, fun q => by cases q⟩
  · rw [hR u 1 (by omega) (by omega) zu, hR u 2 (by omega) (by omega) zu, wr_row hR (by omega) hk zu, ver_row hR (by omega) hk zu]
    exact h t (ho t ht zt) hw k hk hwr u (ho u hu zu)
theorem ck_row (h : ckok r s) (e0 : r' 0 = r 0) (e : ∀ f, f < 6 → CK r' s f = CK r s f) : ckok r' s := by
  unfold ckok at h ⊢
  rw [e0, e 0 (by decide), e 1 (by decide), e 2 (by decide), e 3 (by decide), e 4 (by decide), e 5 (by decide)]
  exact h
theorem inv_row (h : Inv bd r) (hbd : bd ≤ bd') (hl : bd' ≤ 4000000) (e3 : r' 3 = nI (nB r')) (hb : nB r' ≤ 40) (ho : ∀ t, t < nB r' → t ≠ T → t < nB r) (hR : Row1 r r' T) (e0 : r' 0 = r 0) (e1 : r' 1 = r 1) (eck : ∀ s, s < 3 → ∀ f, f < 6 → CK r' s f = CK r s f) (eas : ∀ s, s < 3 → 0 ≤ (r' (4 + s)).toInt ∧ (r' (4 + s)).toInt ≤ bd') (ht : T < nB r' → txok bd' r' T) (hlk : lkok r') : Inv bd' r' := by
  refine ⟨⟨e3, hb⟩, by rw [e0]; exact h.tm, by rw [e1]; exact ⟨h.fl.1, Int.le_trans h.fl.2 hbd⟩, eas, fun s hs => ck_row (h.ck hs) e0 (eck s hs), fun t q => ?_, hlk, hl⟩
  by_cases z : t = T
  · rw [z] at q ⊢; exact ht q
  · have hx := txok_mono hbd (h.tx (ho t q z))
    unfold txok at hx ⊢
    rw [hR t 0 (by omega) (by omega) z, hR t 1 (by omega) (by omega) z, hR t 2 (by omega) (by omega) z, hR t 3 (by omega) (by omega) z, hR t 4 (by omega) (by omega) z]
    obtain ⟨x1, x2, x3, x4, x5, x6⟩ := hx
    exact ⟨x1, x2, x3, x4, x5, fun k hk => by rw [hR t _ (by omega) (by omega) z, hR t _ (by omega) (by omega) z]; exact x6 k hk⟩
theorem cls_row (hC : Cls g 0 r) (hsv : SV r r') (hb : nB r' ≤ 40) (ho : ∀ t, t < nB r' → t ≠ T → t < nB r) (hR : Row1 r r' T) (a : ClA g' 0 r') (b9 : g' 9 0 = r' 3) (e6 : g' 6 = g 6) (e7 : g' 7 = g 7) (e8 : g' 8 = g 8)
    (o : ∀ t, t ≠ T → g' 10 t = g 10 t ∧ g' 11 t = g 11 t ∧ g' 12 t = g 12 t ∧ g' 13 t = g 13 t ∧ g' 14 t = g 14 t ∧ ∀ k, k < 8 → g' 15 (t * 8 + k) = g 15 (t * 8 + k) ∧ g' 16 (t * 8 + k) = g 16 (t * 8 + k))
    (w : T < nB r' → g' 10 T = TX r' T 0 ∧ g' 11 T = TX r' T 1 ∧ g' 12 T = TX r' T 2 ∧ g' 13 T = TX r' T 3 ∧ g' 14 T = TX r' T 4 ∧ ∀ k, k < 8 → g' 15 (T * 8 + k) = TX r' T (5 + k))
    (v : T < nB r' → ∀ k, k < 8 → (g' 16 (T * 8 + k) = -1 ∧ TX r' T (13 + k) = -1) ∨ ∃ i, i ≤ cv r k ∧ g' 16 (T * 8 + k) = nI i ∧ TX r' T (13 + k) = g 7 (k * 41 + i)) : Cls g' 0 r' := by
  obtain ⟨-, ⟨-, b2⟩, hV, hr⟩ := hC
  refine ⟨a, ⟨by simpa using b9, fun t ht => ?_⟩, fun k hk => hsv.clV hk (by simpa using e6) (by simpa using e7) (by simpa using e8) (hV k hk), fun t ht k hk => ?_⟩
  · simp only [Nat.zero_add]
    by_cases z : t = T
    · rw [z] at ht ⊢; exact w ht
    · obtain ⟨c1, c2, c3, c4, c5, c6⟩ := b2 t (ho t ht z)
      simp only [Nat.zero_add] at c1 c2 c3 c4 c5 c6
      obtain ⟨d1, d2, d3, d4, d5, d6⟩ := o t z
      rw [hR t 0 (by omega) (by omega) z, hR t 1 (by omega) (by omega) z, hR t 2 (by omega) (by omega) z, hR t 3 (by omega) (by omega) z, hR t 4 (by omega) (by omega) z]
      exact ⟨d1.trans c1, d2.trans c2, d3.trans c3, d4.trans c4, d5.trans c5, fun k hk => by rw [hR t _ (by omega) (by omega) z]; exact (d6 k hk).1.trans (c6 k hk)⟩
  · simp only [Nat.zero_add]
    rw [hsv.ecv hk, e7]
    by_cases z : t = T
    · rw [z] at ht ⊢; exact v ht k hk
    · have q := hr t (ho t ht z) k hk
      simp only [Nat.zero_add] at q
      rw [((o t z).2.2.2.2.2 k hk).2, hR t _ (by omega) (by omega) z]
      exact q
/-! the reference writes into a row -/
theorem TX_up {F f : Nat} {v : Int32} (hF : F < 21) (hf : f < 21) : TX (upd r (25 + 21 * T + F) v) t f = if t = T ∧ f = F then v else TX r t f := by
  unfold TX upd
  by_cases z : t = T ∧ f = F
  · rw [if_pos z, if_pos (by omega)]
  · rw [if_neg z, if_neg (by omega)]
theorem TX_lo {j f : Nat} {v : Int32} (hj : j < 25) : TX (upd r j v) t f = TX r t f := by
  unfold TX upd
  rw [if_neg (by omega)]
theorem CK_up {F f : Nat} {v : Int32} (hs : s < 3) (hf : f < 6) : CK (upd r (25 + 21 * T + F) v) s f = CK r s f := by
  unfold CK upd
  rw [if_neg (by omega)]
theorem CK_lo {j f : Nat} {v : Int32} (hj : j < 7) : CK (upd r j v) s f = CK r s f := by
  unfold CK upd
  rw [if_neg (by omega)]
theorem lo_up {F j : Nat} {v : Int32} (hj : j < 25) : upd r (25 + 21 * T + F) v j = r j := by
  unfold upd
  rw [if_neg (by omega)]
theorem nB_up {F : Nat} {v : Int32} : nB (upd r (25 + 21 * T + F) v) = nB r := by
  unfold nB
  rw [lo_up (by decide)]
theorem nB_lo {j : Nat} {v : Int32} (hj : j ≠ 3) : nB (upd r j v) = nB r := by
  unfold nB upd
  rw [if_neg (fun z => hj z.symm)]
theorem lay_q {F : Nat} {x v : Int32} (hx : x = nI (21 * T + F)) (hT : T < 40) (hF : F < 21) : sX7_lays m x v = some (mput m 1 (25 + 21 * T + F) v) := by
  unfold sX7_lays
  have e : (25 : Int32) + x = nI (25 + 21 * T + F) := by
    rw [hx]
    show nI 25 + nI (21 * T + F) = _
    rw [nI_add, Nat.add_assoc]
  rw [e, ix_n (by omega) (by omega), let_s, nI_clamp (by omega)]
theorem l21 {F : Nat} : (21 : Int32) * nI T + nI F = nI (21 * T + F) := by
  show nI 21 * nI T + nI F = _
  rw [pk_mul, nI_add]
theorem l21n (F : Nat) (y : Int32) (hy : y = nI F) : (21 : Int32) * nI T + y = nI (21 * T + F) := by
  rw [hy]
  exact l21
theorem p_eq {j : Nat} {v : Int32} : mput m 1 j v 1 = upd (m 1) j v := mput_eq
end PY
