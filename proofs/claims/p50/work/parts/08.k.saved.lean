/-! the pure part: saved states and slots -/
theorem mp_eq {m : Mem} {k j : Nat} {v : Int32} : mput m k j v k j = v := by simp [mput]
theorem SvR.tr {bd : Int} {g g' m m' : Mem} (h : SvR bd g m) (eg : ∀ k, 17 ≤ k → k < 119 → g' k = g k) (e3 : g' 153 = g 153) (e1 : m' 0 2 = m 0 2) (e2 : m' 2 = m 2) : SvR bd g' m' := by
  obtain ⟨c, p, h1, h2, h3, h4, h5, h6⟩ := h.cg e1 e2
  refine ⟨c, p, h1, h2, h3, by rw [e3]; exact h4, by rw [e3]; exact h5, fun i hi => ⟨?_, (h6 i hi).2⟩⟩
  exact (h6 i hi).1.fr (fun k k1 k2 => eg k (by omega) (by omega))
theorem SlR.tr {bd : Int} {g g' m m' : Mem} (h : SlR bd g m) (eg : ∀ k, 119 ≤ k → k < 153 → g' k = g k) (e6 : g' 156 = g 156) (e1 : m' 4 = m 4) (e2 : m' 3 = m 3) : SlR bd g' m' := by
  intro s hs
  rcases h.cg e1 e2 s hs with ⟨a, b⟩ | ⟨a, b, c, d⟩
  · exact Or.inl ⟨by rw [e6]; exact a, b⟩
  · exact Or.inr ⟨by rw [e6]; exact a, b, c.fr (fun k k1 k2 => eg k (by omega) (by omega)), d⟩
theorem TxR.tr {g g' m m' : Mem} {L : Nat} (h : TxR g m L) (e7 : g' 157 0 = g 157 0) (e9 : g' 159 = g 159) (e1 : m' 0 6 = m 0 6) (e2 : m' 5 = m 5) : TxR g' m' L := by
  obtain ⟨h1, h2, h3, h4⟩ := h.cg e1 e2
  exact ⟨h1, e7.trans h2, h3, by rw [e9]; exact h4⟩
/-- the state alone has changed -/
theorem RelB.st {bd bd' : Int} {g g' m m' : Mem} (h : RelB bd g m) (hb : bd ≤ bd') (hC : Cls g' 0 (m' 1)) (hI : Inv bd' (m' 1)) (eg : ∀ k, 17 ≤ k → g' k = g k) (em : ∀ k, k ≠ 1 → m' k = m k) : RelB bd' g' m' := by
  obtain ⟨-, -, hS, hL, L, hT⟩ := h
  have m0 := em 0 (by decide)
  exact ⟨hC, hI, (hS.tr (fun k k1 _ => eg k k1) (eg 153 (by decide)) (by rw [m0]) (em 2 (by decide))).mono hb hI.bdl, (hL.tr (fun k k1 _ => eg k (by omega)) (eg 156 (by decide)) (em 4 (by decide)) (em 3 (by decide))).mono hb hI.bdl, L, hT.tr (by rw [eg 157 (by decide)]) (eg 159 (by decide)) (by rw [m0]) (em 5 (by decide))⟩
theorem Rel.of {j : Nat} {g m : Mem} (h : RelB (bdj j) g m) (hj : j ≤ 512) : Rel (j + 1) g m := ⟨h.mono bdj_s (bdj_le (by omega)), by omega⟩
section PW
variable {bd : Int} {g m : Mem} {n c p s : Nat}
theorem c865 {i : Nat} : (865 : Int32) * nI c + nI i = nI (865 * c + i) := by
  show nI 865 * nI c + nI i = _
  rw [pk_mul, nI_add]
theorem r_saves52 (hn : 10010 ≤ n) (hc : c < 6) (e : m 0 2 = nI c) : ∃ m', sX7_saves_52 n n m 0 = some m' ∧ m' 0 2 = nI (c + 1) ∧ (∀ b, b ≠ 2 → m' 0 b = m 0 b) ∧ (∀ k, k ≠ 0 → k ≠ 2 → m' k = m k) ∧ (∀ j, j < 865 * c → m' 2 j = m 2 j) ∧ ∀ j, j < 865 → m' 2 (865 * c + j) = m 1 j := by
  have key := lp_iv (fun f s i => sX7_saves_52 n f s i) 865 (fun s => some (mput s 0 2 (s 0 2 + 1))) (fun i s => (∀ k, k ≠ 2 → s k = m k) ∧ (∀ j, j < 865 * c → s 2 j = m 2 j) ∧ ∀ j, j < i → s 2 (865 * c + j) = m 1 j) (fun f i s hi hp => by
      obtain ⟨p1, p2, p3⟩ := hp
      have hle : ¬ (865 : Int32) ≤ nI i := nI_ge (b := 865) hi (by decide)
      have hcl : (nI i).toNatClampNeg = i := nI_clamp (by omega)
      have hcl2 : (nI (865 * c + i)).toNatClampNeg = 865 * c + i := nI_clamp (by omega)
      have e0 : s 0 2 = nI c := by rw [p1 0 (by decide)]; exact e
      have i1 : ∀ {α : Type} {x : Option α}, (sIdx (nI i) 865 fun _ => x) = x := ix_e i rfl hi (by decide)
      have i2 : ∀ {α : Type} {x : Option α}, (sIdx (nI (865 * c + i)) 5190 fun _ => x) = x := ix_e (865 * c + i) rfl (by omega) (by decide)
      refine ⟨mput s 2 (865 * c + i) (s 1 i), ⟨fun k hk => by rw [mput_ne hk]; exact p1 k hk, fun j hj => by rw [mp_at (by omega)]; exact p2 j hj, fun j hj => ?_⟩, ?_⟩
      · by_cases z : j = i
        · rw [z, mp_eq, p1 1 (by decide)]
        · rw [mp_at (by omega)]; exact p3 j (by omega)
      · simp only [sX7_saves_52, hle, if_false, e0, c865, hcl, hcl2, i1, i2, let_s, nI_1]) (fun f s hp => by
      have hle : (865 : Int32) ≤ nI 865 := nI_le (Nat.le_refl _) (by decide)
      simp only [sX7_saves_52, hle, if_true, let_s]) 865 0 (by omega) n (by omega) m ⟨fun k _ => rfl, fun j _ => rfl, fun j hj => by omega⟩
  obtain ⟨s, ⟨p1, p2, p3⟩, p4⟩ := key
  have e0 : s 0 2 = nI c := by rw [p1 0 (by decide)]; exact e
  refine ⟨_, p4, ?_, fun b hb => ?_, fun k k1 k2 => ?_, fun j hj => ?_, fun j hj => ?_⟩
  · rw [mp_eq, e0, nI_1]
  · rw [mp_at hb, p1 0 (by decide)]
  · rw [mput_ne k1, p1 k k2]
  · rw [mput_ne (by decide)]; exact p2 j hj
  · rw [mput_ne (by decide)]; exact p3 j hj
theorem r_saves11 (hn : 10010 ≤ n) (e : m 0 2 = nI 6) : ∃ m', sX7_saves_11 n n m 0 = some m' ∧ m' 0 2 = nI 6 ∧ (∀ b, b ≠ 2 → m' 0 b = m 0 b) ∧ (∀ k, k ≠ 0 → k ≠ 2 → m' k = m k) ∧ (∀ j, j < 4325 → m' 2 j = m 2 (865 + j)) ∧ ∀ j, j < 865 → m' 2 (4325 + j) = m 1 j := by
  have key := lp_iv (fun f s i => sX7_saves_11 n f s i) 4325 (fun s => sX7_saves_52 n n (mput s 0 2 (s 0 2 - 1)) 0) (fun i s => (∀ k, k ≠ 2 → s k = m k) ∧ (∀ j, j < i → s 2 j = m 2 (865 + j)) ∧ ∀ j, i ≤ j → s 2 j = m 2 j) (fun f i s hi hp => by
      obtain ⟨p1, p2, p3⟩ := hp
      have hle : ¬ (4325 : Int32) ≤ nI i := nI_ge (b := 4325) hi (by decide)
      have hcl : (nI i).toNatClampNeg = i := nI_clamp (by omega)
      have hcl2 : (nI (865 + i)).toNatClampNeg = 865 + i := nI_clamp (by omega)
      have ea : (865 : Int32) + nI i = nI (865 + i) := nI_add 865 i
      have i1 : ∀ {α : Type} {x : Option α}, (sIdx (nI i) 5190 fun _ => x) = x := ix_e i rfl (by omega) (by decide)
      have i2 : ∀ {α : Type} {x : Option α}, (sIdx (nI (865 + i)) 5190 fun _ => x) = x := ix_e (865 + i) rfl (by omega) (by decide)
      refine ⟨mput s 2 i (s 2 (865 + i)), ⟨fun k hk => by rw [mput_ne hk]; exact p1 k hk, fun j hj => ?_, fun j hj => by rw [mp_at (by omega)]; exact p3 j (by omega)⟩, ?_⟩
      · by_cases z : j = i
        · rw [z, mp_eq]; exact p3 _ (by omega)
        · rw [mp_at z]; exact p2 j (by omega)
      · simp only [sX7_saves_11, hle, if_false, ea, hcl, hcl2, i1, i2, let_s, nI_1]) (fun f s hp => by
      have hle : (4325 : Int32) ≤ nI 4325 := nI_le (Nat.le_refl _) (by decide)
      simp only [sX7_saves_11, hle, if_true, let_s]) 4325 0 (by omega) n (by omega) m ⟨fun k _ => rfl, fun j hj => by omega, fun j _ => rfl⟩
  obtain ⟨s, ⟨p1, p2, p3⟩, p4⟩ := key
  have e0 : mput s 0 2 (s 0 2 - 1) 0 2 = nI 5 := by rw [mp_eq, p1 0 (by decide), e]; decide
  obtain ⟨m', q1, q2, q3, q4, q5, q6⟩ := r_saves52 hn (c := 5) (by decide) e0
  refine ⟨m', p4.trans q1, q2, fun b hb => ?_, fun k k1 k2 => ?_, fun j hj => ?_, fun j hj => ?_⟩
  · rw [q3 b hb, mp_at hb, p1 0 (by decide)]
  · rw [q4 k k1 k2, mput_ne k1, p1 k k2]
  · rw [q5 j (by omega), mput_ne (by decide)]; exact p2 j hj
  · rw [q6 j hj, mput_ne (by decide), p1 1 (by decide)]
theorem r_saves (hn : 10010 ≤ n) (hc : c ≤ 6) (e : m 0 2 = nI c) : ∃ m', sX7_saves n m = some m' ∧ m' 0 2 = nI (min (c + 1) 6) ∧ (∀ b, b ≠ 2 → m' 0 b = m 0 b) ∧ (∀ k, k ≠ 0 → k ≠ 2 → m' k = m k) ∧ (∀ j, j < 865 * (min (c + 1) 6 - 1) → m' 2 j = m 2 (865 * (c + 1 - min (c + 1) 6) + j)) ∧ ∀ j, j < 865 → m' 2 (865 * (min (c + 1) 6 - 1) + j) = m 1 j := by
  unfold sX7_saves
  by_cases z : c = 6
  · subst z
    rw [if_pos (show m 0 2 = 6 from e)]
    obtain ⟨m', q1, q2, q3, q4, q5, q6⟩ := r_saves11 hn e
    exact ⟨m', q1, q2, q3, q4, q5, q6⟩
  · have e6 : ¬ m 0 2 = 6 := by rw [e, show (6 : Int32) = nI 6 from rfl, nI_eq (by omega) (by decide)]; exact z
    rw [if_neg e6]
    have e1 : min (c + 1) 6 = c + 1 := by omega
    obtain ⟨m', q1, q2, q3, q4, q5, q6⟩ := r_saves52 hn (c := c) (by omega) e
    rw [e1]
    refine ⟨m', q1, q2, q3, q4, fun j hj => ?_, fun j hj => ?_⟩
    · rw [q5 j (by omega)]; congr 1; omega
    · rw [show 865 * (c + 1 - 1) + j = 865 * c + j by omega]; exact q6 j hj
theorem k_push (hn : 10010 ≤ n) (hp : p < 6) (hc : c ≤ 6) (e0 : g 153 0 = nI c) (e1 : g 153 1 = nI p) {r : Nat → Int32} (h : Inv bd r) (hC : Cls g 0 r) : ∃ g', sX0_push n g 0 = some g' ∧ Cls g' (17 * (p + 1)) r ∧ g' 153 0 = nI (min (c + 1) 6) ∧ g' 153 1 = nI ((p + 1) % 6) ∧ ∀ k, (k < 17 * (p + 1) ∨ 17 * (p + 1) + 17 ≤ k) → k ≠ 153 → g' k = g k := by
  obtain ⟨G, s1, s2, s3⟩ := k_copy hn (a := 17 * (p + 1)) (b := 0) h (by omega) hC
  have g3 : G 153 = g 153 := s3 153 (by omega)
  have hcl : (nI p).toNatClampNeg = p := nI_clamp (by omega)
  have er : nI (p + 1) - nI (p + 1) / (6 : Int32) * (6 : Int32) = nI ((p + 1) % 6) := pk_rem (d := 6) (by omega) (by decide) (by decide)
  have em : sMin (nI (c + 1)) (6 : Int32) = nI (min (c + 1) 6) := by
    rw [i_eq, sMin_i, nI_toInt (by omega), nI_toInt (by omega), show ((6 : Int32)).toInt = 6 by decide]; omega
  have ip : ∀ {α : Type} {x : Option α}, (sIdx (nI p) 6 fun _ => x) = x := ix_e p rfl hp (by decide)
  have e2 : mput G 153 1 (nI ((p + 1) % 6)) 153 0 = nI c := by rw [mp_at (by decide), g3, e0]
  refine ⟨mput (mput G 153 1 (nI ((p + 1) % 6))) 153 0 (nI (min (c + 1) 6)), ?_, ?_, mp_eq, ?_, fun k k1 k2 => ?_⟩
  · unfold sX0_push
    simp only [e1, ip, hcl, s1, bi_s, let_s, g3, nI_1, er, e2, em]
  · refine s2.fr (fun k k1 k2 => ?_)
    rw [mput_ne (by omega), mput_ne (by omega)]
  · rw [mp_at (by decide), mp_eq]
  · rw [mput_ne k2, mput_ne k2, s3 k k1]
theorem pst_cg {m' : Mem} {i i' : Nat} {r : Nat → Int32} (e : ∀ j, j < 865 → m' 2 (865 * i + j) = r j) : ∀ j, j < 865 → pst m' i j = r j := e
theorem op_push (hn : 10010 ≤ n) (h : RelB bd g m) : ∃ g' m', sX0_push n g 0 = some g' ∧ sX7_saves n m = some m' ∧ RelB bd g' m' ∧ (∀ b, b ≠ 2 → m' 0 b = m 0 b) ∧ (∀ k, k ≠ 0 → k ≠ 2 → m' k = m k) ∧ (∀ k, k < 17 → g' k = g k) ∧ (∀ k, 119 ≤ k → k ≠ 153 → g' k = g k) := by
  obtain ⟨hC, hI, ⟨c, p, h1, h2, h3, h4, h5, h6⟩, hL, L, hT⟩ := h
  obtain ⟨g', a1, a2, a3, a4, a5⟩ := k_push hn h2 h1 h4 h5 hI hC
  obtain ⟨m', b1, b2, b3, b4, b5, b6⟩ := r_saves hn h1 h3
  have m1 : m' 1 = m 1 := b4 1 (by decide) (by decide)
  have lo : ∀ k, k < 17 → g' k = g k := fun k hk => a5 k (by omega) (by omega)
  have hi : ∀ k, 119 ≤ k → k ≠ 153 → g' k = g k := fun k k1 k2 => a5 k (by omega) k2
  refine ⟨g', m', a1, b1, ⟨by rw [m1]; exact hC.fr (fun k _ k2 => lo k (by omega)), by rw [m1]; exact hI, ⟨min (c + 1) 6, (p + 1) % 6, by omega, by omega, b2, a3, a4, fun i hi => ?_⟩, hL.tr (fun k k1 k2 => hi k k1 (by omega)) (hi 156 (by decide) (by decide)) (b4 4 (by decide) (by decide)) (b4 3 (by decide) (by decide)), L, hT.tr (by rw [hi 157 (by decide) (by decide)]) (hi 159 (by decide) (by decide)) (b3 6 (by decide)) (b4 5 (by decide) (by decide))⟩, b3, b4, lo, hi⟩
  by_cases z : i = min (c + 1) 6 - 1
  · subst z
    have eK : ((p + 1) % 6 + 6 - min (c + 1) 6 + (min (c + 1) 6 - 1)) % 6 = p := by omega
    rw [eK]
    have e : ∀ j, j < 865 → pst m' (min (c + 1) 6 - 1) j = m 1 j := b6
    exact ⟨a2.cg e hI.b40, hI.cg e⟩
  · have hi' : i + (c + 1 - min (c + 1) 6) < c := by omega
    have eK : ((p + 1) % 6 + 6 - min (c + 1) 6 + i) % 6 = (p + 6 - c + (i + (c + 1 - min (c + 1) 6))) % 6 := by omega
    have nK : (p + 6 - c + (i + (c + 1 - min (c + 1) 6))) % 6 ≠ p := by omega
    rw [eK]
    obtain ⟨q1, q2⟩ := h6 (i + (c + 1 - min (c + 1) 6)) hi'
    have e : ∀ j, j < 865 → pst m' i j = pst m (i + (c + 1 - min (c + 1) 6)) j := by
      intro j hj
      show m' 2 (865 * i + j) = m 2 (865 * (i + (c + 1 - min (c + 1) 6)) + j)
      rw [b5 _ (by omega)]; congr 1; omega
    refine ⟨?_, q2.cg e⟩
    refine Cls.cg e q2.b40 (q1.fr (fun k k1 k2 => a5 k ?_ (by omega)))
    omega
end PW
