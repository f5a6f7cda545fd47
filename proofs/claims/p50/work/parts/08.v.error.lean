/-! the pure part: the error position, and what a valid text is -/
theorem RelB.pr {bd : Int} {g G m : Mem} (h : RelB bd g m) (h0 : G 157 0 = g 157 0) (hk : ∀ k, k ≠ 157 → k ≠ 158 → G k = g k) : RelB bd G m := by
  obtain ⟨hC, hI, hS, hL, L, hT⟩ := h
  exact ⟨hC.fr (fun k _ k2 => hk k (by omega) (by omega)), hI, hS.tr (fun k k1 k2 => hk k (by omega) (by omega)) (hk 153 (by decide) (by decide)) rfl rfl, hL.tr (fun k k1 k2 => hk k (by omega) (by omega)) (hk 156 (by decide) (by decide)) rfl rfl, L, hT.tr h0 (hk 159 (by decide) (by decide)) rfl rfl⟩
section QH
variable {bd : Int} {g m m' G G1 G2 : Mem} {n L p q i f j : Nat} {c : Int32}
theorem c59 : (59 : Int32) ≠ -1 := by decide
theorem l_59 : ((59 : Int32)).toInt = 59 := by decide
theorem tx_ps {v : Int32} (hT : TxR G m L) : TxR (mput G 157 3 v) m L := (Kp.ps (a := 0)).tx hT
theorem tx_fr (hT : TxR G m L) (h0 : G1 157 0 = G 157 0) (hk : ∀ k, k ≠ 157 → k ≠ 158 → G1 k = G k) : TxR G1 m L := hT.tr h0 (hk 159 (by decide) (by decide)) rfl rfl
theorem err_lp (hn : 10010 ≤ n) : ∀ d i p (G : Mem), L + 1 - p ≤ d → TxR G m L → G 157 3 = nI p → p ≤ L → 3 * i ≤ p → ∀ f1 f2, d ≤ f1 → d ≤ f2 → ∃ y G', sX3_findError_6 n f1 G (nI i) = some (y, G') ∧ sX7_error_4 n m f2 (nI p) (nI i) = some y ∧ G' 157 0 = G 157 0 ∧ ∀ k, k ≠ 157 → k ≠ 158 → G' k = G k
  | 0, i, p, G, hd, hT, hp, hL, hi, f1, f2, h1, h2 => by omega
  | d + 1, i, p, G, hd, hT, hp, hL, hi, f1, f2, h1, h2 => by
    obtain ⟨f1, rfl⟩ : ∃ w, f1 = w + 1 := ⟨f1 - 1, by omega⟩
    obtain ⟨f2, rfl⟩ : ∃ w, f2 = w + 1 := ⟨f2 - 1, by omega⟩
    have h80 := hT.1
    obtain ⟨ok, q, G1, a1, a2, a3, a4, a5, a6, a7, a8⟩ := cmd_spec hn hT hp hL
    have b80 : ¬ (80 : Int32) ≤ nI i := nI_ge (b := 80) (by omega) (by decide)
    cases ok with
    | false =>
      have eR : sX7_error_4 n m (f2 + 1) (nI p) (nI i) = some (nI q) := by
        rw [sX7_error_4, if_neg b80, a2, bi_s, if_neg (rE_n (by omega)), rE_b (by omega)]
      by_cases z : L ≤ i
      · have hq : q = p := by omega
        refine ⟨nI q, G, ?_, eR, rfl, fun _ _ _ => rfl⟩
        rw [sX3_findError_6, hT.2.1, if_pos (nI_le z (by omega)), hp, hq]
      · refine ⟨nI q, G1, ?_, eR, a4, a5⟩
        rw [sX3_findError_6, hT.2.1, if_neg (nI_ge (by omega) (by omega)), a1, bi2_s, b2_f, if_pos rfl, a3]
    | true =>
      obtain ⟨c1, c2, c3, c4⟩ := a8 rfl
      have hq0 : 0 ≤ nI q := nI_pos' (by omega)
      have hT1 := tx_fr hT a4 a5
      have hLi : ¬ nI L ≤ nI i := nI_ge (by omega) (by omega)
      have e1 : ∀ {α : Type} {x y : α}, (if b2 true = 0 then x else y) = y := fun {α x y} => by rw [b2_ite, if_pos rfl]
      by_cases z : q = L
      · have zI : nI q = nI L := by rw [z]
        refine ⟨-1, G1, ?_, ?_, a4, a5⟩
        · rw [sX3_findError_6, hT.2.1, if_neg hLi, a1, bi2_s, e1, a3, a4, hT.2.1, if_pos zI]
        · rw [sX7_error_4, if_neg b80, a2, bi_s, rE_t, if_pos hq0, hT.2.2.1, if_pos zI]
      · have zI : ¬ nI q = nI L := by rw [nI_eq (by omega) (by omega)]; exact z
        by_cases y : q < L ∧ m 5 q = 59
        · obtain ⟨w, G2, b1, b2', b3, b4⟩ := err_lp hn d (i + 1) (q + 1) (mput G1 157 3 (nI (q + 1))) (by omega) (tx_ps hT1) mp_eq (by omega) (by omega) f1 f2 (by omega) (by omega)
          refine ⟨w, G2, ?_, ?_, ?_, fun k k1 k2 => ?_⟩
          · rw [sX3_findError_6, hT.2.1, if_neg hLi, a1, bi2_s, e1, a3, a4, hT.2.1, if_neg zI, k_take hT1 a3 a7, if_pos y, bi2_s, if_neg (by decide), nI_1]
            exact b1
          · rw [sX7_error_4, if_neg b80, a2, bi_s, rE_t, if_pos hq0, hT.2.2.1, if_neg zI, r_sign hT (by omega), bi_s, if_pos ((sgn_c c59).mpr y), nI_1, nI_1]
            exact b2'
          · rw [b3, mp_at (by decide), a4]
          · rw [b4 k k1 k2, mput_ne k1, a5 k k1 k2]
        · refine ⟨nI q, G1, ?_, ?_, a4, a5⟩
          · rw [sX3_findError_6, hT.2.1, if_neg hLi, a1, bi2_s, e1, a3, a4, hT.2.1, if_neg zI, k_take hT1 a3 a7, if_neg y, bi2_s, if_pos rfl, a3]
          · rw [sX7_error_4, if_neg b80, a2, bi_s, rE_t, if_pos hq0, hT.2.2.1, if_neg zI, r_sign hT (by omega), bi_s, if_neg (fun w => y ((sgn_c c59).mp w))]
theorem err_q (hn : 10010 ≤ n) (hT : TxR G m L) : ∃ y G', sX3_findError n G = some (y, G') ∧ sX7_error n m = some y ∧ G' 157 0 = G 157 0 ∧ ∀ k, k ≠ 157 → k ≠ 158 → G' k = G k := by
  have h80 := hT.1
  obtain ⟨y, G1, b1, b2', b3, b4⟩ := err_lp (m := m) (L := L) hn (L + 1) 0 0 (mput G 157 3 (nI 0)) (by omega) (tx_ps hT) mp_eq (by omega) (by omega) n n (by omega) (by omega)
  refine ⟨y, G1, ?_, b2', by rw [b3, mp_at (by decide)], fun k k1 k2 => by rw [b4 k k1 k2, mput_ne k1]⟩
  unfold sX3_findError sX3_rewind
  rw [let_s, bi_s]
  exact b1
theorem q_errorPosition (hn : 10010 ≤ n) (hj : j ≤ 512) : sim_errorPosition (Rel j) (Rel (j + 1)) n := by
  intro g m hR
  have hB := (hR.thr (v := 0)).1
  obtain ⟨m1, hm⟩ : ∃ z, z = mput m 0 7 0 := ⟨_, rfl⟩
  rw [← hm] at hB
  obtain ⟨L, hT⟩ := hB.2.2.2.2
  obtain ⟨y, G1, b1, b2', b3, b4⟩ := err_q hn hT
  refine ⟨(y, G1), (y, m1), ?_, ?_, Rel.of (hB.pr b3 b4) hj, rfl⟩
  · unfold sX6_errorPosition
    rw [b1, bi2_s]
  · unfold sX7_errorPosition
    rw [let_s, ← hm, b2', bi_s]
/-! texts that are alike -/
def Tq (m m' : Mem) : Prop := m' 0 6 = m 0 6 ∧ m' 5 = m 5
theorem tq_sign (h : Tq m m') (x : Int32) : sX7_sign m' x = sX7_sign m x := by
  unfold sX7_sign
  rw [h.1, h.2]
theorem tq_digit (h : Tq m m') (x : Int32) : sX7_digit m' x = sX7_digit m x := by
  unfold sX7_digit
  simp only [tq_sign h, r_in]
theorem tq_ne34 (h : Tq m m') : ∀ (f : Nat) (a b x : Int32), sX7_numberEnd_34 n m' f a b x = sX7_numberEnd_34 n m f a b x
  | 0, _, _, _ => rfl
  | f + 1, a, b, x => by simp only [sX7_numberEnd_34, tq_digit h, tq_ne34 h f]
theorem tq_ne (h : Tq m m') (x a b : Int32) : sX7_numberEnd n m' x a b = sX7_numberEnd n m x a b := by
  unfold sX7_numberEnd
  simp only [tq_digit h, tq_ne34 h]
theorem tq_bh (h : Tq m m') (x a : Int32) : sX7_behind m' x a = sX7_behind m x a := by
  unfold sX7_behind
  simp only [tq_sign h]
theorem tq_nb (h : Tq m m') (x a : Int32) : sX7_numberBehind n m' x a = sX7_numberBehind n m x a := by
  unfold sX7_numberBehind
  simp only [tq_bh h, tq_ne h]
theorem tq_of (h : Tq m m') (x : Int32) : sX7_offsetEnd n m' x = sX7_offsetEnd n m x := by
  unfold sX7_offsetEnd sX7_offsetEnd_26
  simp only [tq_bh h, tq_ne h, tq_sign h]
theorem tq_cmd (h : Tq m m') (x : Int32) : sX7_commandEnd n m' x = sX7_commandEnd n m x := by
  unfold sX7_commandEnd
  simp only [tq_nb h, tq_ne h, tq_sign h, tq_of h]
theorem tq_err (h : Tq m m') : ∀ (f : Nat) (a b : Int32), sX7_error_4 n m' f a b = sX7_error_4 n m f a b
  | 0, _, _ => rfl
  | f + 1, a, b => by simp only [sX7_error_4, tq_cmd h, tq_sign h, h.1, tq_err h f]
/-- one command of a valid text -/
theorem V_step (hn : 10010 ≤ n) (hT : TxR G m L) (hp : G 157 3 = nI p) (hL : p ≤ L) (hi : 3 * i ≤ p) (hv : sX7_error_4 n m f (nI p) (nI i) = some (-1)) : ∃ q G', sX3_readCommand n G = some (1, G') ∧ sX7_commandEnd n m (nI p) = some (nI q) ∧ G' 157 3 = nI q ∧ G' 157 0 = G 157 0 ∧ (∀ k, k ≠ 157 → k ≠ 158 → G' k = G k) ∧ p < L ∧ p + 2 ≤ q ∧ q ≤ L ∧ G' 157 1 = m 5 p ∧ Cmd n m G' L p q ∧ dgt m L q = none ∧ (q = L ∨ (q < L ∧ m 5 q = 59 ∧ ∃ f', sX7_error_4 n m f' (nI (q + 1)) (nI (i + 1)) = some (-1))) := by
  have h80 := hT.1
  cases f with
  | zero => cases hv
  | succ f =>
    obtain ⟨ok, q, G1, a1, a2, a3, a4, a5, a6, a7, a8⟩ := cmd_spec hn hT hp hL
    have b80 : ¬ (80 : Int32) ≤ nI i := nI_ge (b := 80) (by omega) (by decide)
    rw [sX7_error_4, if_neg b80, a2, bi_s] at hv
    cases ok with
    | false =>
      rw [if_neg (rE_n (by omega)), rE_b (by omega)] at hv
      exact absurd (Option.some.inj hv) (nI_nm1 (by omega))
    | true =>
      obtain ⟨c1, c2, c3, c4⟩ := a8 rfl
      have hq0 : 0 ≤ nI q := nI_pos' (by omega)
      rw [rE_t, if_pos hq0, hT.2.2.1] at hv
      refine ⟨q, G1, a1, a2, a3, a4, a5, c1, c2, a7, c3, c4, ?_⟩
      by_cases z : q = L
      · refine ⟨dgt_no ?_, Or.inl z⟩
        have es : sgn m L q = -1 := if_neg (by omega)
        rw [es, nm1]
        omega
      · have zI : ¬ nI q = nI L := by rw [nI_eq (by omega) (by omega)]; exact z
        rw [if_neg zI, r_sign hT (by omega), bi_s] at hv
        by_cases y : sgn m L q = 59
        · rw [if_pos y, nI_1, nI_1] at hv
          obtain ⟨y1, y2⟩ := (sgn_c c59).mp y
          refine ⟨dgt_no ?_, Or.inr ⟨y1, y2, f, hv⟩⟩
          rw [y, l_59]
          omega
        · rw [if_neg y] at hv
          exact absurd (Option.some.inj hv) (nI_nm1 (by omega))
end QH
