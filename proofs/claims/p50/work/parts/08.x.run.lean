/-! the pure part: a text is run -/
section QJ
variable {bd : Int} {g m m' G G1 G2 : Mem} {n L p q i f j x : Nat}
theorem nx_q (hT : TxR G m L) (hp : G 157 3 = nI q) (hq : q ≤ L) (h : ¬ (q < L ∧ m 5 q = 59)) : sX3_readNextCommand n G = sX3_readCommand n G := by
  unfold sX3_readNextCommand
  rw [k_take hT hp hq, if_neg h, bi2_s, bi2_e]
theorem nx_s (hT : TxR G m L) (hp : G 157 3 = nI q) (hq : q < L) (h : m 5 q = 59) : sX3_readNextCommand n G = sX3_readCommand n (mput G 157 3 (nI (q + 1))) := by
  unfold sX3_readNextCommand
  rw [k_take hT hp (by omega), if_pos ⟨hq, h⟩, bi2_s, bi2_e]
/-- where the reader of the class stands when the next command begins at p -/
def Ps (G m : Mem) (L p : Nat) : Prop := (p = L + 1 ∧ G 157 3 = nI L) ∨ (G 157 3 = nI p ∧ p ≤ L ∧ ¬ (p < L ∧ m 5 p = 59)) ∨ ∃ q, p = q + 1 ∧ G 157 3 = nI q ∧ q < L ∧ m 5 q = 59
theorem ps_rd (hT : TxR G m L) (hP : Ps G m L p) (hpL : p ≤ L) : ∃ G1, sX3_readNextCommand n G = sX3_readCommand n G1 ∧ G1 157 3 = nI p ∧ G1 157 0 = G 157 0 ∧ ∀ k, k ≠ 157 → G1 k = G k := by
  rcases hP with ⟨h1, h2⟩ | ⟨h1, h2, h3⟩ | ⟨q, h1, h2, h3, h4⟩
  · omega
  · exact ⟨G, nx_q hT h1 h2 h3, h1, rfl, fun _ _ => rfl⟩
  · subst h1
    exact ⟨_, nx_s hT h2 h3 h4, mp_eq, mp_at (by decide), fun k hk => mput_ne hk⟩
theorem cmd_n59 (h : Cmd n m G L p q) : m 5 p ≠ 59 := by
  rcases h with ⟨hc, -⟩ | ⟨hc, -⟩ | ⟨hc, -⟩ | ⟨hc, -⟩ | ⟨hc, -⟩ | ⟨hc, -⟩ | ⟨hc, -⟩ <;> (rw [hc]; decide)
theorem run_lp (hn : 10010 ≤ n) (hL2 : 2 ≤ L) (hlo : 3100000 ≤ bd) (hhi : bd + 100 ≤ 4000000) : ∀ (d x p : Nat) (G m : Mem), L + 2 - p ≤ d → RelB (bd + (x : Int)) G m → TxR G m L → Ps G m L p → 3 * x ≤ p → (p ≤ L → ∃ f, sX7_error_4 n m f (nI p) (nI x) = some (-1)) → ∀ f1 f2, d ≤ f1 → d ≤ f2 → ∃ y G' m', sX6_runText_41 n f1 G (nI x) = some (0, y, G') ∧ sX7_runText_30 n f2 m (nI x) (nI p) = some (y, m') ∧ RelB (bd + 100) G' m' ∧ m' 0 = m 0
  | 0, x, p, G, m, hd, hB, hT, hP, hx, hv, f1, f2, h1, h2 => by
    have h80 := hT.1
    exfalso
    rcases hP with ⟨w1, w2⟩ | ⟨w1, w2, w3⟩ | ⟨q, w1, w2, w3, w4⟩ <;> omega
  | d + 1, x, p, G, m, hd, hB, hT, hP, hx, hv, f1, f2, h1, h2 => by
    have h80 := hT.1
    have hp1 : p ≤ L + 1 := by
      rcases hP with ⟨w1, w2⟩ | ⟨w1, w2, w3⟩ | ⟨q, w1, w2, w3, w4⟩ <;> omega
    obtain ⟨f1, rfl⟩ : ∃ w, f1 = w + 1 := ⟨f1 - 1, by omega⟩
    obtain ⟨f2, rfl⟩ : ∃ w, f2 = w + 1 := ⟨f2 - 1, by omega⟩
    have hLx : ¬ nI L ≤ nI x := nI_ge (by omega) (by omega)
    by_cases hpL : p ≤ L
    · obtain ⟨f, hf⟩ := hv hpL
      have hLp : ¬ nI L ≤ nI p ∨ p = L := by
        by_cases w : p = L
        · exact Or.inr w
        · exact Or.inl (nI_ge (by omega) (by omega))
      obtain ⟨G1, a1, a2, a3, a4⟩ := ps_rd (n := n) hT hP hpL
      have hT1 : TxR G1 m L := hT.tr a3 (a4 159 (by decide)) rfl rfl
      obtain ⟨q, G2, b1, b2', b3, b4, b5, b6, b7, b8, b9, b10, b11, b12⟩ := V_step hn hT1 a2 hpL hx hf
      have hB2 : RelB (bd + x) G2 m := hB.pr (b4.trans a3) (fun k k1 k2 => (b5 k k1 k2).trans (a4 k k1))
      have hT2 : TxR G2 m L := tx_fr hT1 b4 b5
      obtain ⟨ok, G3, m3, c1, c2, c3, c4, c5⟩ := ex_all hn hB2 (by omega) (by omega) hT2 b6 b11 b9 b10
      have hLp' : ¬ nI L ≤ nI p := nI_ge b6 (by omega)
      have eC : sX6_runText_41 n (f1 + 1) G (nI x) = if ok = true then sX6_runText_41 n f1 G3 (nI (x + 1)) else some (0, nI x, G3) := by
        rw [sX6_runText_41, hT.2.1, if_neg hLx, a1, b1, bi2_s, if_neg (by decide), c1, bi2_s, b2_ite, nI_1]
      have eR : sX7_runText_30 n (f2 + 1) m (nI x) (nI p) = if ok = true then (sBi (sX7_commandEnd n m3 (nI p)) fun r9 => sX7_runText_30 n f2 m3 (nI (x + 1)) (r9 + 1)) else some (nI x, m3) := by
        rw [sX7_runText_30, hT.2.2.1, if_neg hLp', c2, bi2_s, b2_ite, nI_1]
      have hq : Tq m m3 := ⟨by rw [c5 0 (by decide)], c5 5 (by decide)⟩
      have hT3 : TxR G3 m3 L := hT2.tr (by rw [c4 157 (by decide)]) (c4 159 (by decide)) hq.1 hq.2
      cases ok with
      | false =>
        refine ⟨nI x, G3, m3, ?_, ?_, c3.mono (by omega) hhi, c5 0 (by decide)⟩
        · rw [eC, if_neg (by decide)]
        · rw [eR, if_neg (by decide)]
      | true =>
        have g3 : G3 157 3 = nI q := by rw [c4 157 (by decide)]; exact b3
        have hP3 : Ps G3 m3 L (q + 1) ∧ (q + 1 ≤ L → ∃ f, sX7_error_4 n m3 f (nI (q + 1)) (nI (x + 1)) = some (-1)) := by
          rcases b12 with w | ⟨w1, w2, f', w3⟩
          · exact ⟨Or.inl ⟨by omega, by rw [← w]; exact g3⟩, fun y => by omega⟩
          · exact ⟨Or.inr (Or.inr ⟨q, rfl, g3, w1, by rw [hq.2]; exact w2⟩), fun _ => ⟨f', by rw [tq_err hq]; exact w3⟩⟩
        have eb : bd + (x : Int) + 1 = bd + ((x + 1 : Nat) : Int) := by omega
        rw [eb] at c3
        obtain ⟨y, G4, m4, e1, e2, e3, e4⟩ := run_lp hn hL2 hlo hhi d (x + 1) (q + 1) G3 m3 (by omega) c3 hT3 hP3.1 (by omega) hP3.2 f1 f2 (by omega) (by omega)
        refine ⟨y, G4, m4, ?_, ?_, e3, e4.trans (c5 0 (by decide))⟩
        · rw [eC, if_pos rfl]
          exact e1
        · rw [eR, if_pos rfl, tq_cmd hq, b2', bi_s, nI_1]
          exact e2
    · have hpe : p = L + 1 := by omega
      have hLp : nI L ≤ nI p := nI_le (by omega) (by omega)
      have g3 : G 157 3 = nI L := by
        rcases hP with ⟨w1, w2⟩ | ⟨w1, w2, w3⟩ | ⟨q, w1, w2, w3, w4⟩
        · exact w2
        · omega
        · omega
      obtain ⟨ok, q, G1, a1, a2, a3, a4, a5, a6, a7, a8⟩ := cmd_spec hn hT g3 (Nat.le_refl _)
      have hok : ok = false := by
        cases ok with
        | false => rfl
        | true =>
          have := (a8 rfl).1
          omega
      subst hok
      refine ⟨nI x, G1, m, ?_, ?_, (hB.pr a4 a5).mono (by omega) hhi, rfl⟩
      · rw [sX6_runText_41, hT.2.1, if_neg hLx, nx_q hT g3 (Nat.le_refl _) (fun w => by omega), a1, bi2_s, b2_f, if_pos rfl]
      · rw [sX7_runText_30, hT.2.2.1, if_pos hLp]
theorem q_runText (hn : 10010 ≤ n) (hj : j ≤ 512) : sim_runText (Rel j) (Rel (j + 1)) n := by
  intro g m hR
  obtain ⟨L, hT⟩ := hR.1.2.2.2.2
  have h80 := hT.1
  obtain ⟨y, G1, b1, b2', b3, b4⟩ := err_q hn hT
  have hB1 : RelB (bdj j) G1 m := hR.1.pr b3 b4
  by_cases z : y = -1
  · subst z
    have hBm : RelB (bdj j) G1 (mput m 0 7 0) := hB1.thr
    obtain ⟨g2, m2, a1, a2, a3, a4, a5, a6, a7⟩ := op_push hn hBm
    have hq : Tq m m2 := ⟨by rw [a4 6 (by decide), th_n (by decide)], by rw [a5 5 (by decide) (by decide), th_m (by decide)]⟩
    have hT1 : TxR G1 m L := tx_fr hT b3 b4
    have hT2 : TxR g2 m2 L := hT1.tr (by rw [a7 157 (by decide) (by decide)]) (a7 159 (by decide) (by decide)) hq.1 hq.2
    have hT3 : TxR (mput g2 157 3 (nI 0)) m2 L := tx_ps hT2
    have hB3 : RelB (bdj j + (0 : Nat)) (mput g2 157 3 (nI 0)) m2 := by
      rw [show bdj j + ((0 : Nat) : Int) = bdj j by omega]
      exact a3.pr (mp_at (by decide)) (fun k k1 _ => mput_ne k1)
    have hv : sX7_error_4 n m2 n (nI 0) (nI 0) = some (-1) := by
      rw [tq_err hq]
      exact b2'
    obtain ⟨q, G4, d1, d2, d3, d4, d5, d6, d7, d8, d9, d10, d11, d12⟩ := V_step (i := 0) hn hT3 mp_eq (Nat.zero_le _) (Nat.le_refl _) hv
    have hP : Ps (mput g2 157 3 (nI 0)) m2 L 0 := Or.inr (Or.inl ⟨mp_eq, Nat.zero_le _, fun w => cmd_n59 d10 w.2⟩)
    have hbl := bdj_le (j := j + 1) (by omega)
    have hbj : bdj j + 100 = bdj (j + 1) := by unfold bdj; omega
    obtain ⟨w, G5, m5, e1, e2, e3, e4⟩ := run_lp (bd := bdj j) hn (by omega) bdj_lo (by omega) (L + 2) 0 0 _ m2 (by omega) hB3 hT3 hP (Nat.le_refl _) (fun _ => ⟨n, hv⟩) n n (by omega) (by omega)
    rw [hbj] at e3
    have e7 : m5 0 7 = 0 := by rw [e4, a4 7 (by decide), th_q]
    refine ⟨(0, w, G5), (w, m5), ?_, ?_, ⟨e3, by omega⟩, Or.inl ⟨rfl, e7, rfl⟩⟩
    · unfold sX6_runText sX3_rewind
      rw [b1, bi2_s, if_pos rfl, a1, bi_s, let_s, bi_s]
      exact e1
    · unfold sX7_runText
      rw [b2', bi_s, if_pos rfl, th_0, bi2_s, if_pos rfl, a2, bi_s]
      exact e2
  · obtain ⟨m1, hm⟩ : ∃ z, z = mput m 0 7 1 := ⟨_, rfl⟩
    have hR1 : Rel j G1 m := ⟨hB1, hR.2⟩
    refine ⟨(3, 0, G1), (0, m1), ?_, ?_, by rw [hm]; exact hR1.mono hj 1, Or.inr ⟨rfl, th_e hm⟩⟩
    · unfold sX6_runText
      rw [b1, bi2_s, if_neg z]
    · unfold sX7_runText
      rw [b2', bi_s, if_neg z, th_1, bi2_s, if_neg (by decide), ← hm]
end QJ
