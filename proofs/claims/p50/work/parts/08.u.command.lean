/-! the pure part: a command is read -/
section QG
variable {g m G G1 G2 : Mem} {n L p q : Nat} {c : Int32}
/-- the commands, with what both sides take their numbers to be -/
def Cm1 (n : Nat) (m G : Mem) (L p q lo hi : Nat) : Prop := ∃ v, lo ≤ v ∧ v ≤ hi ∧ G 158 0 = nI v ∧ (dgt m L q = none → sX7_numberAt n m (nI (p + 1)) = some (nI v))
def Cm2 (n : Nat) (m G : Mem) (L p q : Nat) : Prop := ∃ v0 v1 e, v0 ≤ 39 ∧ v1 ≤ 7 ∧ e ≤ L ∧ G 158 0 = nI v0 ∧ G 158 1 = nI v1 ∧ sX7_numberAt n m (nI (p + 1)) = some (nI v0) ∧ sX7_argument n m (nI p) = some (nI (e + 1)) ∧ (dgt m L q = none → sX7_numberAt n m (nI (e + 1)) = some (nI v1))
def Cm3 (n : Nat) (m G : Mem) (L p q : Nat) : Prop := ∃ v0 v1 v2 e e2, v0 ≤ 39 ∧ v1 ≤ 7 ∧ v2 ≤ 9999 ∧ e ≤ L ∧ e2 ≤ L ∧ G 158 0 = nI v0 ∧ G 158 1 = nI v1 ∧ G 158 2 = nI v2 ∧ sX7_numberAt n m (nI (p + 1)) = some (nI v0) ∧ sX7_argument n m (nI p) = some (nI (e + 1)) ∧ sX7_numberAt n m (nI (e + 1)) = some (nI v1) ∧ sX7_argument n m (nI (e + 1)) = some (nI (e2 + 1)) ∧ (dgt m L q = none → sX7_numberAt n m (nI (e2 + 1)) = some (nI v2))
def CmS (n : Nat) (m G : Mem) (L p q : Nat) : Prop := ∃ v0 e, ∃ x : Int32, v0 ≤ 2 ∧ -500 ≤ x.toInt ∧ x.toInt ≤ 500 ∧ e ≤ L ∧ G 158 0 = nI v0 ∧ G 158 1 = x ∧ sX7_numberAt n m (nI (p + 1)) = some (nI v0) ∧ sX7_argument n m (nI p) = some (nI (e + 1)) ∧ (dgt m L q = none → sX7_numberAt n m (nI (e + 1)) = some x)
def Cmd (n : Nat) (m G : Mem) (L p q : Nat) : Prop := (m 5 p = 97 ∧ Cm1 n m G L p q 0 39) ∨ (m 5 p = 98 ∧ Cm1 n m G L p q 0 2) ∨ (m 5 p = 99 ∧ Cm1 n m G L p q 0 39) ∨ (m 5 p = 114 ∧ Cm2 n m G L p q) ∨ (m 5 p = 115 ∧ CmS n m G L p q) ∨ (m 5 p = 116 ∧ Cm1 n m G L p q 1 1000) ∨ (m 5 p = 119 ∧ Cm3 n m G L p q)
theorem dig_n44 {u : Nat} (h : dgt m L u ≠ none) : m 5 u ≠ 44 := fun z => h (dgt_44 z)
theorem cmd_1 {xl xh : Int32} (lo hi : Nat) (el : xl = nI lo) (eh : xh = nI hi) (hl : lo ≤ 1) (hh : hi ≤ 9999) (hn : 10010 ≤ n) (hT : TxR G1 m L) (hp : G1 157 3 = nI (p + 1)) (hL : p < L) {A : Option (Int32 × Mem)} {C : Option Int32} (hA : A = sX3_readNumber n G1 (0 : Int32) xl xh) (hC : C = sX7_numberEnd n m (nI (p + 1)) xl xh) : ∃ ok q G', A = some (b2 ok, G') ∧ C = some (rE ok q) ∧ G' 157 3 = nI q ∧ K2 G1 G' ∧ p ≤ q ∧ q ≤ L ∧ (ok = true → p + 2 ≤ q ∧ Cm1 n m G' L p q lo hi) := by
  subst hA
  subst hC
  obtain ⟨ok, q, v, G2, a1, a2, a3, a4, a5, a6, a7⟩ := S_num (xa := 0) (xl := xl) (xh := xh) 0 lo hi rfl el eh (by decide) hl hh hn hT hp (by omega)
  refine ⟨ok, q, G2, a1, a2, a3, a4.k2, by omega, a6, fun w => ?_⟩
  obtain ⟨d1, d2, d3, d4, d5, d6⟩ := a7 w
  refine ⟨by omega, v, d2, d3, d4, fun hz => ?_⟩
  rw [r_at hT (d5 (p + 1) (Nat.le_refl _) d1)]
  exact (d6 hz).1
theorem cmd_2 (hn : 10010 ≤ n) (hT : TxR G1 m L) (hp : G1 157 3 = nI (p + 1)) (hL : p < L) (h44 : m 5 p ≠ 44) {A : Option (Int32 × Mem)} {C : Option Int32} (hA : A = sX3_readTransactionAndKey n G1) (hC : C = sBi (sX7_numberEnd n m (nI (p + 1)) (0 : Int32) (39 : Int32)) fun r => sX7_numberBehind n m r (7 : Int32)) : ∃ ok q G', A = some (b2 ok, G') ∧ C = some (rE ok q) ∧ G' 157 3 = nI q ∧ K2 G1 G' ∧ p ≤ q ∧ q ≤ L ∧ (ok = true → p + 2 ≤ q ∧ Cm2 n m G' L p q) := by
  subst hA
  subst hC
  obtain ⟨ok, q, v0, v1, e, G2, y, a1, a2, a3, a4, a5, a6, a7, a8⟩ := S_tk hn hT hp (by omega)
  rw [a2, bi_s]
  refine ⟨ok, q, G2, a1, a3, a4, a5, by omega, a7, fun w => ?_⟩
  obtain ⟨d1, d2, d3, d4, d5, d6, d7, d8, d9, d10, d11, d12⟩ := a8 w
  refine ⟨by omega, v0, v1, e, d5, d6, by omega, d7, d8, ?_, ?_, fun hz => ?_⟩
  · rw [r_at hT (d9 (p + 1) (Nat.le_refl _) d1)]
    exact d11
  · refine r_arg hn hT d2 d3 (by omega) (fun u u1 u2 => ?_)
    by_cases w : u = p
    · rw [w]; exact h44
    · exact dig_n44 (d9 u (by omega) u2)
  · rw [r_at hT (d10 (e + 1) (Nat.le_refl _) d4)]
    exact d12 hz
theorem cmd_3 (hn : 10010 ≤ n) (hT : TxR G1 m L) (hp : G1 157 3 = nI (p + 1)) (hL : p < L) (h44 : m 5 p ≠ 44) {A : Option (Int32 × Mem)} {C : Option Int32} (hA : A = sBi2 (sX3_readTransactionAndKey n G1) fun r35 g36 => if r35 = 0 then (some ((0 : Int32), g36)) else (sBi2 (sX3_take g36 (44 : Int32)) fun r40 g41 => if r40 = 0 then (some ((0 : Int32), g41)) else (sBi2 (sX3_readNumber n g41 (2 : Int32) (0 : Int32) (9999 : Int32)) fun r45 g46 => if r45 = 0 then (some ((0 : Int32), g46)) else (some ((1 : Int32), g46))))) (hC : C = sBi (sX7_numberEnd n m (nI (p + 1)) (0 : Int32) (39 : Int32)) fun r => sBi (sX7_numberBehind n m r (7 : Int32)) fun r' => sX7_numberBehind n m r' (9999 : Int32)) : ∃ ok q G', A = some (b2 ok, G') ∧ C = some (rE ok q) ∧ G' 157 3 = nI q ∧ K2 G1 G' ∧ p ≤ q ∧ q ≤ L ∧ (ok = true → p + 2 ≤ q ∧ Cm3 n m G' L p q) := by
  subst hA
  subst hC
  have h80 := hT.1
  obtain ⟨ok, q, v0, v1, e, G2, y, a1, a2, a3, a4, a5, a6, a7, a8⟩ := S_tk hn hT hp (by omega)
  rw [a1, bi2_s, a2, bi_s, a3, bi_s]
  cases ok with
  | false =>
    rw [b2_f, if_pos rfl]
    exact ⟨false, q, G2, rfl, nb_neg (by omega), a4, a5, by omega, a7, fun w => by cases w⟩
  | true =>
    rw [b2_t, if_neg (by decide), rE_t]
    obtain ⟨d1, d2, d3, d4, d5, d6, d7, d8, d9, d10, d11, d12⟩ := a8 rfl
    have hT2 := a5.tx hT
    obtain ⟨ok2, q2, v2, G3, f1, f2, f3, f4, f5, f6, f7⟩ := S_nb (xa := 2) (xh := 9999) 2 9999 rfl rfl (by decide) (by decide) hn hT2 a4 a7
    refine ⟨ok2, q2, G3, f1, f2, f3, a5.trn f4.k2, by omega, f6, fun w => ?_⟩
    obtain ⟨k1, k2, k3, k4, k5, k6, k7⟩ := f7 w
    refine ⟨by omega, v0, v1, v2, e, q, d5, d6, k4, by omega, by omega, ?_, ?_, k5, ?_, ?_, ?_, ?_, fun hz => ?_⟩
    · rw [f4.2.2.1 0 (by decide)]; exact d7
    · rw [f4.2.2.1 1 (by decide)]; exact d8
    · rw [r_at hT (d9 (p + 1) (Nat.le_refl _) d1)]
      exact d11
    · refine r_arg hn hT d2 d3 (by omega) (fun u u1 u2 => ?_)
      by_cases w : u = p
      · rw [w]; exact h44
      · exact dig_n44 (d9 u (by omega) u2)
    · rw [r_at hT (d10 (e + 1) (Nat.le_refl _) d4)]
      exact d12 (dgt_44 k2)
    · exact r_arg hn hT k1 k2 (by omega) (fun u u1 u2 => dig_n44 (d10 u u1 u2))
    · rw [r_at hT (k6 (q + 1) (Nat.le_refl _) k3)]
      exact k7 hz
theorem cmd_S (hn : 10010 ≤ n) (hT : TxR G1 m L) (hp : G1 157 3 = nI (p + 1)) (hL : p < L) (h44 : m 5 p ≠ 44) {A : Option (Int32 × Mem)} {C : Option Int32} (hA : A = sBi2 (sX3_readNumber n G1 (0 : Int32) (0 : Int32) (2 : Int32)) fun r14 g15 => if r14 = 0 then (some ((0 : Int32), g15)) else (sBi2 (sX3_take g15 (44 : Int32)) fun r19 g20 => if r19 = 0 then (some ((0 : Int32), g20)) else (sBi2 (sX3_readOffset n g20) fun r24 g25 => if r24 = 0 then (some ((0 : Int32), g25)) else (some ((1 : Int32), g25))))) (hC : C = sBi (sX7_numberEnd n m (nI (p + 1)) (0 : Int32) (2 : Int32)) fun r => sX7_offsetEnd n m r) : ∃ ok q G', A = some (b2 ok, G') ∧ C = some (rE ok q) ∧ G' 157 3 = nI q ∧ K2 G1 G' ∧ p ≤ q ∧ q ≤ L ∧ (ok = true → p + 2 ≤ q ∧ CmS n m G' L p q) := by
  subst hA
  subst hC
  have h80 := hT.1
  obtain ⟨ok, q, v0, G2, a1, a2, a3, a4, a5, a6, a7⟩ := S_num (xa := 0) (xl := 0) (xh := 2) 0 0 2 rfl rfl rfl (by decide) (by decide) (by decide) hn hT hp (by omega)
  rw [a1, bi2_s, a2, bi_s]
  unfold sX7_offsetEnd sX7_offsetEnd_26
  cases ok with
  | false =>
    rw [b2_f, if_pos rfl, b_neg (by omega), bi_s, if_pos (rE_l (by omega)), ne_neg (by omega), bi_s]
    exact ⟨false, q, G2, rfl, rfl, a3, a4.k2, by omega, a6, fun w => by cases w⟩
  | true =>
    obtain ⟨d1, d2, d3, d4, d5, d6⟩ := a7 rfl
    have hT2 := a4.tx hT
    rw [b2_t, if_neg (by decide), rE_t]
    obtain ⟨ok2, q2, G3, f1, f2, f3, f4, f5, f6, f7, f8⟩ := S_take (c := 44) c44 hT2 a3 a6
    rw [f1, bi2_s, f2, bi_s]
    cases ok2 with
    | false =>
      rw [b2_f, if_pos rfl, if_pos (rE_l (by omega)), ne_neg (by omega), bi_s]
      exact ⟨false, q2, G3, rfl, rfl, f3, a4.k2.trn (f4 0).k2, by omega, f6, fun w => by cases w⟩
    | true =>
      obtain ⟨e1, e2, e3⟩ := f7 rfl
      subst e1
      have hT3 := (f4 0).tx hT2
      have hng : ¬ nI (q + 1) < 0 := nI_pos (by omega)
      rw [b2_t, if_neg (by decide), rE_t, if_neg hng, r_sign hT3 (by omega), bi_s]
      obtain ⟨ok3, q3, x, G4, k1, k2, k3, k4, k5, k6, k7⟩ := S_off hn hT3 f3 f6
      have eC : (if sgn m L (q + 1) = 45 then (sBi (sX7_numberEnd n m (nI (q + 1) + (1 : Int32)) (1 : Int32) (500 : Int32)) fun r13 => some r13) else (sBi (sX7_numberEnd n m (nI (q + 1)) (0 : Int32) (500 : Int32)) fun r5 => some r5)) = some (rE ok3 q3) := by
        rw [bi_e, bi_e, nI_1]
        exact k2
      rw [k1, bi2_s, eC, b2_ite]
      have eA : (if ok3 = true then some ((1 : Int32), G4) else some ((0 : Int32), G4)) = some (b2 ok3, G4) := by cases ok3 <;> rfl
      rw [eA]
      refine ⟨ok3, q3, G4, rfl, rfl, k3, (a4.k2.trn (f4 0).k2).trn k4.k2, by omega, k6, fun w => ?_⟩
      obtain ⟨w1, w2, w3, w4, w5⟩ := k7 w
      refine ⟨by omega, v0, q, x, d3, w2, w3, by omega, ?_, w4, ?_, ?_, w5⟩
      · rw [k4.2.2.1 0 (by decide), (f4 9).2.2.1 0 (by decide)]; exact d4
      · rw [r_at hT (d5 (p + 1) (Nat.le_refl _) d1)]
        exact (d6 (dgt_44 e3)).1
      · refine r_arg hn hT e2 e3 (by omega) (fun u u1 u2 => ?_)
        by_cases w : u = p
        · rw [w]; exact h44
        · exact dig_n44 (d5 u (by omega) u2)
/-! the letters -/
theorem idx_q (hn : 10010 ≤ n) (h1 : 32 ≤ c.toInt) (h2 : c.toInt ≤ 126) : ∃ r, sJ0_indexOf_0f7a4 n g c = some r ∧ (0 ≤ r ↔ (c = 97 ∨ c = 98 ∨ c = 99 ∨ c = 114 ∨ c = 115 ∨ c = 116 ∨ c = 119)) := by
  have e1 : ¬ c < 0 := by rw [i_lt, l_0]; omega
  have e2 : ¬ (255 : Int32) < c := by rw [i_lt, show ((255 : Int32)).toInt = 255 by decide]; omega
  have e3 : (0 : Int32) < 7 := by decide
  have e4 : c.toInt8.toInt32 = c := by
    rw [i_eq, Int8.toInt_toInt32, Int32.toInt_toInt8, Int.bmod_eq_of_le (by omega) (by omega)]
  have e5 : sMax (0 : Int32) (0 : Int32) = 0 := by decide
  have e6 : sMin (7 : Int32) (7 : Int32) = 7 := by decide
  have key := lp_ex (fun f i => sJ1_indexOfChar_4cfef_7 n g f (7 : Int32) c i) 7 (fun i => gByt.getD i 0 = c) (fun i => some (nI i)) (some (-1)) (fun i => Decidable.em _) (fun f i hi hc => by
      have hle : ¬ (7 : Int32) ≤ nI i := nI_ge (b := 7) hi (by decide)
      have hcl : (nI i).toNatClampNeg = i := nI_clamp (by omega)
      have i7 : ∀ {α : Type} {x : Option α}, (sIdx (nI i) 7 fun _ => x) = x := ix_e i rfl hi (by decide)
      show sJ1_indexOfChar_4cfef_7 n g (f + 1) (7 : Int32) c (nI i) = _
      rw [sJ1_indexOfChar_4cfef_7, if_neg hle, i7, hcl, if_neg hc, nI_1]) (fun f i hi hc => by
      have hle : ¬ (7 : Int32) ≤ nI i := nI_ge (b := 7) hi (by decide)
      have hcl : (nI i).toNatClampNeg = i := nI_clamp (by omega)
      have i7 : ∀ {α : Type} {x : Option α}, (sIdx (nI i) 7 fun _ => x) = x := ix_e i rfl hi (by decide)
      show sJ1_indexOfChar_4cfef_7 n g (f + 1) (7 : Int32) c (nI i) = _
      rw [sJ1_indexOfChar_4cfef_7, if_neg hle, i7, hcl, if_pos hc]) (fun f => by
      have hle : (7 : Int32) ≤ nI 7 := nI_le (Nat.le_refl _) (by decide)
      show sJ1_indexOfChar_4cfef_7 n g (f + 1) (7 : Int32) c (nI 7) = _
      rw [sJ1_indexOfChar_4cfef_7, if_pos hle]) 7 0 (by omega) n (by omega)
  have eU : ∀ r, sJ1_indexOfChar_4cfef_7 n g n (7 : Int32) c 0 = some r → sJ0_indexOf_0f7a4 n g c = some r := by
    intro r hr
    unfold sJ0_indexOf_0f7a4 sJ0_indexOf_7cf53 sJ0_isLatin1_aae02 sJ0_length_8abf5 sJ0_coder_7d493 sJ1_indexOf_4cfef sJ1_canEncode_9a6ad sJ1_indexOfChar_4cfef
    simp only [bi_s, e1, if_false, e2, i10, e3, if_true, e4, e5, e6, hr]
  rcases key with ⟨i, -, i2, i3, -, i5⟩ | ⟨k1, k2⟩
  · refine ⟨nI i, eU _ i5, ⟨fun _ => ?_, fun _ => nI_pos' (by omega)⟩⟩
    rw [← i3]
    rcases (show i = 0 ∨ i = 1 ∨ i = 2 ∨ i = 3 ∨ i = 4 ∨ i = 5 ∨ i = 6 by omega) with rfl | rfl | rfl | rfl | rfl | rfl | rfl <;> decide
  · refine ⟨-1, eU _ k2, ⟨fun w => absurd w (by decide), fun w => ?_⟩⟩
    exfalso
    rcases w with w | w | w | w | w | w | w
    · exact k1 4 (by omega) (by omega) (by rw [w]; decide)
    · exact k1 0 (by omega) (by omega) (by rw [w]; decide)
    · exact k1 3 (by omega) (by omega) (by rw [w]; decide)
    · exact k1 1 (by omega) (by omega) (by rw [w]; decide)
    · exact k1 6 (by omega) (by omega) (by rw [w]; decide)
    · exact k1 5 (by omega) (by omega) (by rw [w]; decide)
    · exact k1 2 (by omega) (by omega) (by rw [w]; decide)
theorem cmd_spec (hn : 10010 ≤ n) (hT : TxR G m L) (hp : G 157 3 = nI p) (hL : p ≤ L) : ∃ ok q G', sX3_readCommand n G = some (b2 ok, G') ∧ sX7_commandEnd n m (nI p) = some (rE ok q) ∧ G' 157 3 = nI q ∧ G' 157 0 = G 157 0 ∧ (∀ k, k ≠ 157 → k ≠ 158 → G' k = G k) ∧ p ≤ q ∧ q ≤ L ∧ (ok = true → p < L ∧ p + 2 ≤ q ∧ G' 157 1 = m 5 p ∧ Cmd n m G' L p q) := by
  have h80 := hT.1
  have hs := r_sign (p := p) hT (by omega)
  by_cases h : p < L
  · have hle : ¬ nI L ≤ nI p := nI_ge h (by omega)
    have hcl : (nI p).toNatClampNeg = p := nI_clamp (by omega)
    obtain ⟨e9, c1, c2⟩ := hT.2.2.2 p h
    have es : sgn m L p = m 5 p := if_pos h
    rw [es] at hs
    obtain ⟨r, r1, r2⟩ := idx_q (g := G) (c := m 5 p) hn c1 c2
    obtain ⟨G1, hG1⟩ : ∃ z, z = mput (mput G 157 1 (m 5 p)) 157 3 (nI (p + 1)) := ⟨_, rfl⟩
    have g3 : G1 157 3 = nI (p + 1) := by rw [hG1, mp_eq]
    have g1 : G1 157 1 = m 5 p := by rw [hG1, mp_at (by decide), mp_eq]
    have g0 : G1 157 0 = G 157 0 := by rw [hG1, mp_at (by decide), mp_at (by decide)]
    have gk : ∀ k, k ≠ 157 → k ≠ 158 → G1 k = G k := fun k k1 _ => by rw [hG1, mput_ne k1, mput_ne k1]
    have hT1 : TxR G1 m L := ⟨hT.1, g0.trans hT.2.1, hT.2.2.1, fun i hi => by rw [gk 159 (by decide) (by decide)]; exact hT.2.2.2 i hi⟩
    have eK : sX3_readCommand n G = if 0 ≤ r then sX3_readArguments n G1 else some (0, G) := by
      have e8 : mput G 157 1 (m 5 p) 157 3 = nI p := by rw [mp_at (by decide)]; exact hp
      simp only [sX3_readCommand, hT.2.1, hp, hle, if_false, ix80 (show p < 80 by omega), hcl, e9, r1, bi_s, let_s, e8, nI_1, ← hG1, bi2_e]
    -- what a letter's reader gives
    have fin : ∀ (P : Mem → Nat → Prop), (∀ G' q, P G' q → Cmd n m G' L p q) → 0 ≤ r → (∃ ok q G', sX3_readArguments n G1 = some (b2 ok, G') ∧ sX7_commandEnd n m (nI p) = some (rE ok q) ∧ G' 157 3 = nI q ∧ K2 G1 G' ∧ p ≤ q ∧ q ≤ L ∧ (ok = true → p + 2 ≤ q ∧ P G' q)) → ∃ ok q G', sX3_readCommand n G = some (b2 ok, G') ∧ sX7_commandEnd n m (nI p) = some (rE ok q) ∧ G' 157 3 = nI q ∧ G' 157 0 = G 157 0 ∧ (∀ k, k ≠ 157 → k ≠ 158 → G' k = G k) ∧ p ≤ q ∧ q ≤ L ∧ (ok = true → p < L ∧ p + 2 ≤ q ∧ G' 157 1 = m 5 p ∧ Cmd n m G' L p q) := by
      intro P hP hr ⟨ok, q, G', a1, a2, a3, a4, a5, a6, a7⟩
      exact ⟨ok, q, G', by rw [eK, if_pos hr]; exact a1, a2, a3, a4.1.trans g0, fun k k1 k2 => (a4.2.2 k k1 k2).trans (gk k k1 k2), a5, a6, fun w => ⟨h, (a7 w).1, a4.2.1.trans g1, hP G' q (a7 w).2⟩⟩
    by_cases z : m 5 p = 97 ∨ m 5 p = 98 ∨ m 5 p = 99 ∨ m 5 p = 114 ∨ m 5 p = 115 ∨ m 5 p = 116 ∨ m 5 p = 119
    · have hr := r2.mpr z
      rcases z with z | z | z | z | z | z | z
      · refine fin (fun G' q => Cm1 n m G' L p q 0 39) (fun G' q w => Or.inl ⟨z, w⟩) hr (cmd_1 (xl := 0) (xh := 39) 0 39 rfl rfl (by decide) (by decide) hn hT1 g3 h ?_ ?_)
        · unfold sX3_readArguments
          rw [g1, z, if_neg (by decide), if_neg (by decide), if_neg (by decide), if_neg (by decide), if_neg (by decide), bi2_e]
        · unfold sX7_commandEnd
          rw [hs, bi_s, z, if_pos rfl, bi_e, nI_1]
      · refine fin (fun G' q => Cm1 n m G' L p q 0 2) (fun G' q w => Or.inr (Or.inl ⟨z, w⟩)) hr (cmd_1 (xl := 0) (xh := 2) 0 2 rfl rfl (by decide) (by decide) hn hT1 g3 h ?_ ?_)
        · unfold sX3_readArguments
          rw [g1, z, if_pos rfl, bi2_e]
        · unfold sX7_commandEnd
          rw [hs, bi_s, z, if_neg (by decide), if_pos rfl, bi_e, nI_1]
      · refine fin (fun G' q => Cm1 n m G' L p q 0 39) (fun G' q w => Or.inr (Or.inr (Or.inl ⟨z, w⟩))) hr (cmd_1 (xl := 0) (xh := 39) 0 39 rfl rfl (by decide) (by decide) hn hT1 g3 h ?_ ?_)
        · unfold sX3_readArguments
          rw [g1, z, if_neg (by decide), if_neg (by decide), if_neg (by decide), if_neg (by decide), if_neg (by decide), bi2_e]
        · unfold sX7_commandEnd
          rw [hs, bi_s, z, if_neg (by decide), if_neg (by decide), if_pos rfl, bi_e, nI_1]
      · refine fin (fun G' q => Cm2 n m G' L p q) (fun G' q w => Or.inr (Or.inr (Or.inr (Or.inl ⟨z, w⟩)))) hr (cmd_2 hn hT1 g3 h (by rw [z]; decide) ?_ ?_)
        · unfold sX3_readArguments
          rw [g1, z, if_neg (by decide), if_pos rfl, bi2_e]
        · unfold sX7_commandEnd
          simp only [bi_e]
          rw [hs, bi_s, z, if_neg (by decide), if_neg (by decide), if_neg (by decide), if_pos rfl, nI_1]
      · refine fin (fun G' q => CmS n m G' L p q) (fun G' q w => Or.inr (Or.inr (Or.inr (Or.inr (Or.inl ⟨z, w⟩))))) hr (cmd_S hn hT1 g3 h (by rw [z]; decide) ?_ ?_)
        · unfold sX3_readArguments
          rw [g1, z, if_neg (by decide), if_neg (by decide), if_pos rfl]
        · unfold sX7_commandEnd
          simp only [bi_e]
          rw [hs, bi_s, z, if_neg (by decide), if_neg (by decide), if_neg (by decide), if_neg (by decide), if_pos rfl, nI_1]
      · refine fin (fun G' q => Cm1 n m G' L p q 1 1000) (fun G' q w => Or.inr (Or.inr (Or.inr (Or.inr (Or.inr (Or.inl ⟨z, w⟩)))))) hr (cmd_1 (xl := 1) (xh := 1000) 1 1000 rfl rfl (by decide) (by decide) hn hT1 g3 h ?_ ?_)
        · unfold sX3_readArguments
          rw [g1, z, if_neg (by decide), if_neg (by decide), if_neg (by decide), if_pos rfl, bi2_e]
        · unfold sX7_commandEnd
          rw [hs, bi_s, z, if_neg (by decide), if_neg (by decide), if_neg (by decide), if_neg (by decide), if_neg (by decide), if_pos rfl, bi_e, nI_1]
      · refine fin (fun G' q => Cm3 n m G' L p q) (fun G' q w => Or.inr (Or.inr (Or.inr (Or.inr (Or.inr (Or.inr ⟨z, w⟩)))))) hr (cmd_3 hn hT1 g3 h (by rw [z]; decide) ?_ ?_)
        · unfold sX3_readArguments
          rw [g1, z, if_neg (by decide), if_neg (by decide), if_neg (by decide), if_neg (by decide), if_pos rfl]
        · unfold sX7_commandEnd
          simp only [bi_e]
          rw [hs, bi_s, z, if_neg (by decide), if_neg (by decide), if_neg (by decide), if_neg (by decide), if_neg (by decide), if_neg (by decide), if_pos rfl, nI_1]
    · have hr : ¬ 0 ≤ r := fun w => z (r2.mp w)
      refine ⟨false, p, G, by rw [eK, if_neg hr]; rfl, ?_, hp, rfl, fun _ _ _ => rfl, Nat.le_refl _, hL, fun w => by cases w⟩
      unfold sX7_commandEnd
      rw [hs, bi_s, if_neg (fun w => z (Or.inl w)), if_neg (fun w => z (Or.inr (Or.inl w))), if_neg (fun w => z (Or.inr (Or.inr (Or.inl w)))), if_neg (fun w => z (Or.inr (Or.inr (Or.inr (Or.inl w))))), if_neg (fun w => z (Or.inr (Or.inr (Or.inr (Or.inr (Or.inl w)))))), if_neg (fun w => z (Or.inr (Or.inr (Or.inr (Or.inr (Or.inr (Or.inl w))))))), if_neg (fun w => z (Or.inr (Or.inr (Or.inr (Or.inr (Or.inr (Or.inr w)))))))]
      rfl
  · have e1 : p = L := by omega
    have hle : nI L ≤ nI p := nI_le (by omega) (by omega)
    have es : sgn m L p = -1 := if_neg h
    rw [es] at hs
    refine ⟨false, p, G, ?_, ?_, hp, rfl, fun _ _ _ => rfl, Nat.le_refl _, hL, fun w => by cases w⟩
    · unfold sX3_readCommand
      rw [hT.2.1, hp, if_pos hle]
      rfl
    · unfold sX7_commandEnd
      rw [hs, bi_s, if_neg (by decide), if_neg (by decide), if_neg (by decide), if_neg (by decide), if_neg (by decide), if_neg (by decide), if_neg (by decide)]
      rfl
end QG
