/-! the pure part: a state is copied -/
theorem nB_cg {r r' : Nat → Int32} (e : ∀ k, k < 865 → r' k = r k) : nB r' = nB r := by unfold nB; rw [e 3 (by decide)]
theorem TX_cg {r r' : Nat → Int32} (e : ∀ k, k < 865 → r' k = r k) {t f : Nat} (ht : t < 40) (hf : f < 21) : TX r' t f = TX r t f := e _ (by omega)
theorem CK_cg {r r' : Nat → Int32} (e : ∀ k, k < 865 → r' k = r k) {s f : Nat} (hs : s < 3) (hf : f < 6) : CK r' s f = CK r s f := e _ (by omega)
theorem wr_cg {r r' : Nat → Int32} (e : ∀ k, k < 865 → r' k = r k) {t k : Nat} (ht : t < 40) (hk : k < 8) : wr r' t k = wr r t k := by unfold wr; rw [TX_cg e ht (by omega)]
theorem ver_cg {r r' : Nat → Int32} (e : ∀ k, k < 865 → r' k = r k) {t k : Nat} (ht : t < 40) (hk : k < 8) : ver r' t k = ver r t k := by unfold ver; rw [wr_cg e ht hk, TX_cg e ht (by omega)]
theorem Inv.cg {bd : Int} {r r' : Nat → Int32} (e : ∀ k, k < 865 → r' k = r k) (h : Inv bd r) : Inv bd r' := by
  have hb := h.b40
  have eB := nB_cg e
  have h3 := h.r3
  refine ⟨⟨by rw [eB, e 3 (by decide)]; exact h3, by omega⟩, by rw [e 0 (by decide)]; exact h.tm, by rw [e 1 (by decide)]; exact h.fl, fun s hs => by rw [e _ (by omega)]; exact h.asg hs, fun s hs => ?_, fun t ht => ?_, fun t ht => ?_, h.bdl⟩
  · have := h.ck hs
    unfold ckok at this ⊢
    rw [CK_cg e hs (by omega), CK_cg e hs (by omega), CK_cg e hs (by omega), CK_cg e hs (by omega), CK_cg e hs (by omega), CK_cg e hs (by omega), e 0 (by decide)]
    exact this
  · rw [eB] at ht
    have := h.tx ht
    unfold txok at this ⊢
    rw [TX_cg e (by omega) (by omega), TX_cg e (by omega) (by omega), TX_cg e (by omega) (by omega), TX_cg e (by omega) (by omega), TX_cg e (by omega) (by omega)]
    obtain ⟨a1, a2, a3, a4, a5, a6⟩ := this
    exact ⟨a1, a2, a3, a4, a5, fun k hk => by rw [TX_cg e (by omega) (by omega), TX_cg e (by omega) (by omega)]; exact a6 k hk⟩
  · rw [eB] at ht
    rw [TX_cg e (by omega) (by omega), eB]
    intro h1 k hk hw u hu
    rw [wr_cg e (by omega) hk] at hw
    rw [TX_cg e (by omega) (by omega), TX_cg e (by omega) (by omega), TX_cg e (by omega) (by omega), wr_cg e (by omega) hk, ver_cg e (by omega) hk]
    exact h.lk t ht h1 k hk hw u hu
theorem cv_cg {r r' : Nat → Int32} (e : ∀ k, k < 865 → r' k = r k) (hb : nB r ≤ 40) {k : Nat} (hk : k < 8) : cv r' k = cv r k := by
  unfold cv
  rw [nB_cg e]
  exact cnt_cg _ (fun i hi => ver_cg e (by omega) hk)
theorem Cls.cg {g : Mem} {K : Nat} {r r' : Nat → Int32} (e : ∀ k, k < 865 → r' k = r k) (hb : nB r ≤ 40) (h : Cls g K r) : Cls g K r' := by
  have eB := nB_cg e
  obtain ⟨⟨a1, a2, a3, a4, a5⟩, ⟨b1, b2⟩, hV, hR⟩ := h
  refine ⟨⟨a1.trans (e 0 (by decide)).symm, a2.trans (e 1 (by decide)).symm, a3.trans (e 2 (by decide)).symm, fun s hs f hf => by rw [CK_cg e hs hf]; exact a4 s hs f hf, fun s hs => by rw [e _ (by omega)]; exact a5 s hs⟩, ⟨b1.trans (e 3 (by decide)).symm, fun t ht => ?_⟩, fun k hk => ?_, fun t ht k hk => ?_⟩
  · rw [eB] at ht
    rw [TX_cg e (by omega) (by omega), TX_cg e (by omega) (by omega), TX_cg e (by omega) (by omega), TX_cg e (by omega) (by omega), TX_cg e (by omega) (by omega)]
    obtain ⟨c1, c2, c3, c4, c5, c6⟩ := b2 t ht
    exact ⟨c1, c2, c3, c4, c5, fun k hk => by rw [TX_cg e (by omega) (by omega)]; exact c6 k hk⟩
  · have hv := hV k hk
    obtain ⟨c1, c2, c3, c4, c5, c6, c7⟩ := hv
    have ec := cv_cg e hb hk
    refine ⟨by rw [ec]; exact c1, c2, c3, fun i i1 i2 => ?_, fun t ht hv => ?_, fun i j h1 h2 => c6 i j h1 (by rw [← ec]; exact h2), fun i i1 i2 => ?_⟩
    · rw [ec] at i2
      obtain ⟨t, t1, t2, t3, t4⟩ := c4 i i1 i2
      exact ⟨t, by rw [eB]; exact t1, by rw [ver_cg e (by omega) hk]; exact t2, by rw [TX_cg e (by omega) (by omega)]; exact t3, by rw [TX_cg e (by omega) (by omega)]; exact t4⟩
    · rw [eB] at ht
      rw [ver_cg e (by omega) hk] at hv
      obtain ⟨i, t1, t2, t3, t4⟩ := c5 t ht hv
      exact ⟨i, t1, by rw [ec]; exact t2, by rw [TX_cg e (by omega) (by omega)]; exact t3, by rw [TX_cg e (by omega) (by omega)]; exact t4⟩
    · rw [ec] at i2
      have := c7 i i1 i2
      rw [eB]
      rw [← this]
      congr 1
      rw [this]
      exact cnt_cg _ (fun u hu => by rw [ver_cg e (by omega) hk, TX_cg e (by omega) (by omega)])
  · rw [eB] at ht
    rw [TX_cg e (by omega) (by omega), cv_cg e hb hk]
    exact hR t ht k hk
/-- the cells of a state are alike up to what counts -/
def CpR (g g' : Mem) (K0 K1 : Nat) (r : Nat → Int32) : Prop := (∀ j, j < 3 → g' K0 j = g K1 j) ∧ (∀ s, s < 3 → ∀ f, f < 7 → g' (K0 + 2 + s) f = g (K1 + 2 + s) f) ∧ (∀ k, k < 8 → g' (K0 + 6) k = g (K1 + 6) k ∧ ∀ i, i ≤ cv r k → g' (K0 + 7) (k * 41 + i) = g (K1 + 7) (k * 41 + i) ∧ g' (K0 + 8) (k * 41 + i) = g (K1 + 8) (k * 41 + i)) ∧ g' (K0 + 9) 0 = g (K1 + 9) 0 ∧ (∀ t, t < nB r → g' (K0 + 10) t = g (K1 + 10) t ∧ g' (K0 + 11) t = g (K1 + 11) t ∧ g' (K0 + 12) t = g (K1 + 12) t ∧ g' (K0 + 13) t = g (K1 + 13) t ∧ g' (K0 + 14) t = g (K1 + 14) t ∧ ∀ k, k < 8 → g' (K0 + 15) (t * 8 + k) = g (K1 + 15) (t * 8 + k) ∧ g' (K0 + 16) (t * 8 + k) = g (K1 + 16) (t * 8 + k))
theorem Cls.cp {g g' : Mem} {K0 K1 : Nat} {r : Nat → Int32} (hc : CpR g g' K0 K1 r) (h : Cls g K1 r) : Cls g' K0 r := by
  obtain ⟨p1, p2, p3, p4, p5⟩ := hc
  obtain ⟨⟨a1, a2, a3, a4, a5⟩, ⟨b1, b2⟩, hV, hR⟩ := h
  refine ⟨⟨(p1 0 (by decide)).trans a1, (p1 1 (by decide)).trans a2, (p1 2 (by decide)).trans a3, fun s hs f hf => (p2 s hs f (by omega)).trans (a4 s hs f hf), fun s hs => (p2 s hs 6 (by omega)).trans (a5 s hs)⟩, ⟨p4.trans b1, fun t ht => ?_⟩, fun k hk => ?_, fun t ht k hk => ?_⟩
  · obtain ⟨c1, c2, c3, c4, c5, c6⟩ := b2 t ht
    obtain ⟨d1, d2, d3, d4, d5, d6⟩ := p5 t ht
    exact ⟨d1.trans c1, d2.trans c2, d3.trans c3, d4.trans c4, d5.trans c5, fun k hk => (d6 k hk).1.trans (c6 k hk)⟩
  · obtain ⟨c1, c2, c3, c4, c5, c6, c7⟩ := hV k hk
    obtain ⟨q1, q2⟩ := p3 k hk
    have q7 : ∀ i, i ≤ cv r k → g' (K0 + 7) (k * 41 + i) = g (K1 + 7) (k * 41 + i) := fun i hi => (q2 i hi).1
    have q8 : ∀ i, i ≤ cv r k → g' (K0 + 8) (k * 41 + i) = g (K1 + 8) (k * 41 + i) := fun i hi => (q2 i hi).2
    refine ⟨q1.trans c1, (q7 0 (Nat.zero_le _)).trans c2, (q8 0 (Nat.zero_le _)).trans c3, fun i i1 i2 => by rw [q7 i i2, q8 i i2]; exact c4 i i1 i2, fun t ht hv => ?_, fun i j h1 h2 => by rw [q7 i (by omega), q7 j h2]; exact c6 i j h1 h2, fun i i1 i2 => by rw [q7 i i2]; exact c7 i i1 i2⟩
    obtain ⟨i, t1, t2, t3, t4⟩ := c5 t ht hv
    exact ⟨i, t1, t2, by rw [q7 i t2]; exact t3, by rw [q8 i t2]; exact t4⟩
  · obtain ⟨d1, d2, d3, d4, d5, d6⟩ := p5 t ht
    rw [(d6 k hk).2]
    rcases hR t ht k hk with z | ⟨i, i1, i2, i3⟩
    · exact Or.inl z
    · exact Or.inr ⟨i, i1, i2, by rw [((p3 k hk).2 i i1).1]; exact i3⟩
theorem Cls.fr {g g' : Mem} {K : Nat} {r : Nat → Int32} (e : ∀ k, K ≤ k → k < K + 17 → g' k = g k) (h : Cls g K r) : Cls g' K r := by
  refine Cls.cp (g := g) (K1 := K) ⟨fun j hj => by rw [e K (by omega) (by omega)], fun s hs f hf => by rw [e _ (by omega) (by omega)], fun k hk => ⟨by rw [e _ (by omega) (by omega)], fun i hi => ⟨by rw [e _ (by omega) (by omega)], by rw [e _ (by omega) (by omega)]⟩⟩, by rw [e _ (by omega) (by omega)], fun t ht => ⟨by rw [e _ (by omega) (by omega)], by rw [e _ (by omega) (by omega)], by rw [e _ (by omega) (by omega)], by rw [e _ (by omega) (by omega)], by rw [e _ (by omega) (by omega)], fun k hk => ⟨by rw [e _ (by omega) (by omega)], by rw [e _ (by omega) (by omega)]⟩⟩⟩ h
theorem cpy_s {α : Type} {n0 n1 a b c : Nat} {f : Option α} (h0 : a + c ≤ n0) (h1 : b + c ≤ n1) (hn0 : n0 < 1000) (hn1 : n1 < 1000) : sCpy n0 n1 (nI a) (nI b) (nI c) f = f := by
  unfold sCpy
  rw [nI_toInt (by omega), nI_toInt (by omega), nI_toInt (by omega)]
  exact if_pos (by omega)
theorem mc_ne {g : Mem} {src dst sp dp n a : Nat} (h : a ≠ dst) : mcpy g src dst sp dp n a = g a := by
  funext b
  simp [mcpy, h]
theorem mc_in {g : Mem} {src dst sp dp n j : Nat} (h : dp ≤ j) (h2 : j < dp + n) : mcpy g src dst sp dp n dst j = g src (sp + (j - dp)) := by
  unfold mcpy
  rw [if_pos rfl]
  exact pk_cpy_in h h2
theorem mc_out {g : Mem} {src dst sp dp n j : Nat} (h : j < dp ∨ dp + n ≤ j) : mcpy g src dst sp dp n dst j = g dst j := by
  unfold mcpy
  rw [if_pos rfl]
  exact pk_cpy_out h
theorem k_cp1 {g : Mem} {a b : Nat} (h : a ≠ b) : ∃ g', sX1_copyFrom g a b = some g' ∧ (∀ f, f < 7 → g' a f = g b f) ∧ ∀ k, k ≠ a → g' k = g k := by
  refine ⟨_, rfl, fun f hf => ?_, fun k hk => ?_⟩
  · rcases (show f = 0 ∨ f = 1 ∨ f = 2 ∨ f = 3 ∨ f = 4 ∨ f = 5 ∨ f = 6 by omega) with rfl | rfl | rfl | rfl | rfl | rfl | rfl <;> simp [mput, h.symm]
  · rw [mput_ne hk, mput_ne hk, mput_ne hk, mput_ne hk, mput_ne hk, mput_ne hk, mput_ne hk]
theorem k_cp5 {n : Nat} (hn : 10010 ≤ n) {g : Mem} {a b : Nat} (h : a + 3 < b ∨ b + 3 < a) {c : Nat → Nat} (hc : ∀ k, k < 8 → g (b + 1) k = nI (c k) ∧ c k ≤ 41) : ∃ g', sX5_copyFrom n g a b = some g' ∧ (∀ k, k < 8 → g' (a + 1) k = g (b + 1) k ∧ ∀ i, i < c k → g' (a + 2) (k * 41 + i) = g (b + 2) (k * 41 + i) ∧ g' (a + 3) (k * 41 + i) = g (b + 3) (k * 41 + i)) ∧ ∀ k, k ≠ a + 1 → k ≠ a + 2 → k ≠ a + 3 → g' k = g k := by
  have key := lp_iv (fun f s i => sX5_copyFrom_2 n f s a b i) 8 some (fun i g' => (∀ k, k < i → g' (a + 1) k = g (b + 1) k ∧ ∀ q, q < c k → g' (a + 2) (k * 41 + q) = g (b + 2) (k * 41 + q) ∧ g' (a + 3) (k * 41 + q) = g (b + 3) (k * 41 + q)) ∧ ∀ k, k ≠ a + 1 → k ≠ a + 2 → k ≠ a + 3 → g' k = g k) (fun f i s hi hp => by
      obtain ⟨p1, p2⟩ := hp
      obtain ⟨c1, c2⟩ := hc i hi
      have hle : ¬ (8 : Int32) ≤ nI i := nI_ge (b := 8) hi (by decide)
      have e41 : nI i * (41 : Int32) = nI (i * 41) := pk_mul i 41
      have hcl : (nI i).toNatClampNeg = i := nI_clamp (by omega)
      have hcl4 : (nI (i * 41)).toNatClampNeg = i * 41 := nI_clamp (by omega)
      have hclc : (nI (c i)).toNatClampNeg = c i := nI_clamp (by omega)
      have b1 : s (b + 1) = g (b + 1) := p2 _ (by omega) (by omega) (by omega)
      have b2 : s (b + 2) = g (b + 2) := p2 _ (by omega) (by omega) (by omega)
      have b3 : s (b + 3) = g (b + 3) := p2 _ (by omega) (by omega) (by omega)
      have e1 : mput s (a + 1) i (s (b + 1) i) (a + 1) i = nI (c i) := by rw [b1, c1]; simp [mput]
      have e2 : ∀ x y z u v, mcpy (mput s (a + 1) i (s (b + 1) i)) x (a + 2) y z u (a + 1) v = mput s (a + 1) i (s (b + 1) i) (a + 1) v := fun x y z u v => by rw [mc_ne (by omega)]
      refine ⟨mcpy (mcpy (mput s (a + 1) i (s (b + 1) i)) (b + 2) (a + 2) (i * 41) (i * 41) (c i)) (b + 3) (a + 3) (i * 41) (i * 41) (c i), ⟨fun k hk => ?_, fun k k1 k2 k3 => ?_⟩, ?_⟩
      · by_cases z : k = i
        · subst z
          refine ⟨?_, fun q hq => ⟨?_, ?_⟩⟩
          · rw [mc_ne (by omega), mc_ne (by omega), e1, c1]
          · rw [mc_ne (by omega), mc_in (by omega) (by omega), mput_ne (by omega), b2]
            congr 1; omega
          · rw [mc_in (by omega) (by omega), mc_ne (by omega), mput_ne (by omega), b3]
            congr 1; omega
        · obtain ⟨q1, q2⟩ := p1 k (by omega)
          have hck := (hc k (by omega)).2
          refine ⟨?_, fun q hq => ⟨?_, ?_⟩⟩
          · rw [mc_ne (by omega), mc_ne (by omega), mp_at z, q1]
          · rw [mc_ne (by omega), mc_out (by omega), mput_ne (by omega), (q2 q hq).1]
          · rw [mc_out (by omega), mc_ne (by omega), mput_ne (by omega), (q2 q hq).2]
      · rw [mc_ne k3, mc_ne k2, mput_ne k1, p2 k k1 k2 k3]
      · simp only [sX5_copyFrom_2, hle, if_false, ix8 hi, let_s, hcl, e41, e1, e2, cpy_s (show i * 41 + c i ≤ 328 by omega) (show i * 41 + c i ≤ 328 by omega) (by decide) (by decide), hcl4, hclc, nI_1]) (fun f s hp => by
      have hle : (8 : Int32) ≤ nI 8 := nI_le (Nat.le_refl _) (by decide)
      simp only [sX5_copyFrom_2, hle, if_true]) 8 0 (by omega) n (by omega) g ⟨fun k hk => by omega, fun k _ _ _ => rfl⟩
  obtain ⟨g', ⟨h1, h2⟩, h3⟩ := key
  exact ⟨g', h3, h1, h2⟩
theorem k_cp4 {g : Mem} {a b B : Nat} (h : a + 7 < b ∨ b + 7 < a) (hB : g b 0 = nI B) (h40 : B ≤ 40) : ∃ g', sX4_copyFrom g a b = some g' ∧ g' a 0 = g b 0 ∧ (∀ q, 1 ≤ q → q ≤ 5 → ∀ t, t < B → g' (a + q) t = g (b + q) t) ∧ (∀ q, 6 ≤ q → q ≤ 7 → ∀ t, t < B * 8 → g' (a + q) t = g (b + q) t) ∧ ∀ k, (k < a ∨ a + 7 < k) → g' k = g k := by
  have e8 : nI B * (8 : Int32) = nI (B * 8) := pk_mul B 8
  have c0 : (0 : Int32).toNatClampNeg = 0 := rfl
  have cB : (nI B).toNatClampNeg = B := nI_clamp (by omega)
  have c8 : (nI (B * 8)).toNatClampNeg = B * 8 := nI_clamp (by omega)
  have n0 : (0 : Int32) = nI 0 := rfl
  have m0 : mput g a 0 (g b 0) a 0 = nI B := by rw [hB]; simp [mput]
  have en : ∀ (G : Mem) (x y z u v : Nat), 1 ≤ y → mcpy G x (a + y) z u v a = G a := fun G x y z u v hy => mc_ne (by omega)
  refine ⟨mcpy (mcpy (mcpy (mcpy (mcpy (mcpy (mcpy (mput g a 0 (g b 0)) (b + 1) (a + 1) 0 0 B) (b + 2) (a + 2) 0 0 B) (b + 3) (a + 3) 0 0 B) (b + 4) (a + 4) 0 0 B) (b + 5) (a + 5) 0 0 B) (b + 6) (a + 6) 0 0 (B * 8)) (b + 7) (a + 7) 0 0 (B * 8), ?_, ?_, fun q q1 q2 t ht => ?_, fun q q1 q2 t ht => ?_, fun k hk => ?_⟩
  · simp only [sX4_copyFrom, let_s, c0, m0, en _ _ _ _ _ _ (show 1 ≤ 1 by omega), en _ _ _ _ _ _ (show 1 ≤ 2 by omega), en _ _ _ _ _ _ (show 1 ≤ 3 by omega), en _ _ _ _ _ _ (show 1 ≤ 4 by omega), en _ _ _ _ _ _ (show 1 ≤ 5 by omega), en _ _ _ _ _ _ (show 1 ≤ 6 by omega), cB, e8, c8]
    rw [n0]
    simp only [cpy_s (show 0 + B ≤ 40 by omega) (show 0 + B ≤ 40 by omega) (by decide) (by decide), cpy_s (show 0 + B * 8 ≤ 320 by omega) (show 0 + B * 8 ≤ 320 by omega) (by decide) (by decide)]
  · rw [en _ _ _ _ _ _ (by omega), en _ _ _ _ _ _ (by omega), en _ _ _ _ _ _ (by omega), en _ _ _ _ _ _ (by omega), en _ _ _ _ _ _ (by omega), en _ _ _ _ _ _ (by omega), en _ _ _ _ _ _ (by omega), m0, hB]
  · rcases (show q = 1 ∨ q = 2 ∨ q = 3 ∨ q = 4 ∨ q = 5 by omega) with rfl | rfl | rfl | rfl | rfl
    · rw [mc_ne (by omega), mc_ne (by omega), mc_ne (by omega), mc_ne (by omega), mc_ne (by omega), mc_ne (by omega), mc_in (by omega) (by omega), mput_ne (by omega)]
      congr 1; omega
    · rw [mc_ne (by omega), mc_ne (by omega), mc_ne (by omega), mc_ne (by omega), mc_ne (by omega), mc_in (by omega) (by omega), mc_ne (by omega), mput_ne (by omega)]
      congr 1; omega
    · rw [mc_ne (by omega), mc_ne (by omega), mc_ne (by omega), mc_ne (by omega), mc_in (by omega) (by omega), mc_ne (by omega), mc_ne (by omega), mput_ne (by omega)]
      congr 1; omega
    · rw [mc_ne (by omega), mc_ne (by omega), mc_ne (by omega), mc_in (by omega) (by omega), mc_ne (by omega), mc_ne (by omega), mc_ne (by omega), mput_ne (by omega)]
      congr 1; omega
    · rw [mc_ne (by omega), mc_ne (by omega), mc_in (by omega) (by omega), mc_ne (by omega), mc_ne (by omega), mc_ne (by omega), mc_ne (by omega), mput_ne (by omega)]
      congr 1; omega
  · rcases (show q = 6 ∨ q = 7 by omega) with rfl | rfl
    · rw [mc_ne (by omega), mc_in (by omega) (by omega), mc_ne (by omega), mc_ne (by omega), mc_ne (by omega), mc_ne (by omega), mc_ne (by omega), mput_ne (by omega)]
      congr 1; omega
    · rw [mc_in (by omega) (by omega), mc_ne (by omega), mc_ne (by omega), mc_ne (by omega), mc_ne (by omega), mc_ne (by omega), mc_ne (by omega), mput_ne (by omega)]
      congr 1; omega
  · rw [mc_ne (by omega), mc_ne (by omega), mc_ne (by omega), mc_ne (by omega), mc_ne (by omega), mc_ne (by omega), mc_ne (by omega), mput_ne (by omega)]
theorem k_copy {n : Nat} (hn : 10010 ≤ n) {bd : Int} {g : Mem} {a b : Nat} {r : Nat → Int32} (h : Inv bd r) (hd : a + 17 ≤ b ∨ b + 17 ≤ a) (hC : Cls g b r) : ∃ g', sX2_copyFrom n g a b = some g' ∧ Cls g' a r ∧ ∀ k, (k < a ∨ a + 17 ≤ k) → g' k = g k := by
  obtain ⟨f, hf⟩ : ∃ q, n = q + 4 := ⟨n - 4, by omega⟩
  have h40 := h.b40
  obtain ⟨G0, hG0⟩ : ∃ z, z = mput (mput (mput g a 0 (g b 0)) a 1 (mput g a 0 (g b 0) b 1)) a 2 (mput (mput g a 0 (g b 0)) a 1 (mput g a 0 (g b 0) b 1) b 2) := ⟨_, rfl⟩
  have e0 : ∀ j, j < 3 → G0 a j = g b j := by
    intro j hj
    rw [hG0]
    have hba : ¬ b = a := by omega
    rcases (show j = 0 ∨ j = 1 ∨ j = 2 by omega) with rfl | rfl | rfl <;> simp [mput, hba]
  have u0 : ∀ k, k ≠ a → G0 k = g k := fun k hk => by rw [hG0, mput_ne hk, mput_ne hk, mput_ne hk]
  obtain ⟨G1, s1, e1, u1⟩ := k_cp1 (g := G0) (a := a + 2 + 0) (b := b + 2 + 0) (by omega)
  obtain ⟨G2, s2, e2, u2⟩ := k_cp1 (g := G1) (a := a + 2 + 1) (b := b + 2 + 1) (by omega)
  obtain ⟨G3, s3, e3, u3⟩ := k_cp1 (g := G2) (a := a + 2 + 2) (b := b + 2 + 2) (by omega)
  have w3 : ∀ k, k ≠ a → k ≠ a + 2 + 0 → k ≠ a + 2 + 1 → k ≠ a + 2 + 2 → G3 k = g k := fun k h1 h2 h3 h4 => by rw [u3 k h4, u2 k h3, u1 k h2, u0 k h1]
  obtain ⟨G4, s4, e4, u4⟩ := k_cp5 hn (g := G3) (a := a + 5) (b := b + 5) (by omega) (c := fun k => cv r k + 1) (fun k hk => ⟨by rw [w3 _ (by omega) (by omega) (by omega) (by omega)]; exact (hC.2.2.1 k hk).1, by have := cv_le (k := k) h; omega⟩)
  have w4 : ∀ k, k ≠ a → k ≠ a + 2 + 0 → k ≠ a + 2 + 1 → k ≠ a + 2 + 2 → k ≠ a + 5 + 1 → k ≠ a + 5 + 2 → k ≠ a + 5 + 3 → G4 k = g k := fun k h1 h2 h3 h4 h5 h6 h7 => by rw [u4 k h5 h6 h7, w3 k h1 h2 h3 h4]
  obtain ⟨G5, s5, e5, e6, e7, u5⟩ := k_cp4 (g := G4) (a := a + 9) (b := b + 9) (B := nB r) (by omega) (by rw [w4 _ (by omega) (by omega) (by omega) (by omega) (by omega) (by omega) (by omega)]; exact hC.2.1.1.trans h.r3) h40
  refine ⟨G5, ?_, ?_, fun k hk => ?_⟩
  · have c0 : ¬ (3 : Int32) ≤ 0 := by decide
    have c1 : ¬ (3 : Int32) ≤ 0 + 1 := by decide
    have c2 : ¬ (3 : Int32) ≤ 0 + 1 + 1 := by decide
    have c3 : (3 : Int32) ≤ 0 + 1 + 1 + 1 := by decide
    have i0 : ∀ {α : Type} {x : Option α}, (sIdx (0 : Int32) 3 fun _ => x) = x := ix_e 0 rfl (by decide) (by decide)
    have i1 : ∀ {α : Type} {x : Option α}, (sIdx (0 + 1 : Int32) 3 fun _ => x) = x := ix_e 1 rfl (by decide) (by decide)
    have i2 : ∀ {α : Type} {x : Option α}, (sIdx (0 + 1 + 1 : Int32) 3 fun _ => x) = x := ix_e 2 rfl (by decide) (by decide)
    have t1 : sX1_copyFrom G0 (a + 1 + 1 + (0 : Int32).toNatClampNeg) (b + 1 + 1 + (0 : Int32).toNatClampNeg) = some G1 := s1
    have t2 : sX1_copyFrom G1 (a + 1 + 1 + (0 + 1 : Int32).toNatClampNeg) (b + 1 + 1 + (0 + 1 : Int32).toNatClampNeg) = some G2 := s2
    have t3 : sX1_copyFrom G2 (a + 1 + 1 + (0 + 1 + 1 : Int32).toNatClampNeg) (b + 1 + 1 + (0 + 1 + 1 : Int32).toNatClampNeg) = some G3 := s3
    unfold sX2_copyFrom
    simp only [let_s]
    rw [← hG0]
    have key : sX2_copyFrom_26 n (f + 4) G0 a b 0 = some G5 := by
      rw [sX2_copyFrom_26, if_neg c0, i0, i0, t1, bi_s, sX2_copyFrom_26, if_neg c1, i1, i1, t2, bi_s, sX2_copyFrom_26, if_neg c2, i2, i2, t3, bi_s, sX2_copyFrom_26, if_pos c3, s4, bi_s, s5, bi_s]
    rw [← hf] at key
    exact key
  · refine Cls.cp (g := g) (K1 := b) ⟨fun j hj => ?_, fun s hs f hf => ?_, fun k hk => ⟨?_, fun i hi => ⟨?_, ?_⟩⟩, ?_, fun t ht => ⟨?_, ?_, ?_, ?_, ?_, fun k hk => ⟨?_, ?_⟩⟩⟩ hC
    · rw [u5 a (by omega), u4 a (by omega) (by omega) (by omega), u3 a (by omega), u2 a (by omega), u1 a (by omega), e0 j hj]
    · rw [u5 _ (by omega), u4 _ (by omega) (by omega) (by omega)]
      rcases (show s = 0 ∨ s = 1 ∨ s = 2 by omega) with rfl | rfl | rfl
      · rw [u3 _ (by omega), u2 _ (by omega), e1 f hf, u0 _ (by omega)]
      · rw [u3 _ (by omega), e2 f hf, u1 _ (by omega), u0 _ (by omega)]
      · rw [e3 f hf, u2 _ (by omega), u1 _ (by omega), u0 _ (by omega)]
    · rw [u5 _ (by omega), (e4 k hk).1, w3 _ (by omega) (by omega) (by omega) (by omega)]
    · rw [u5 _ (by omega)]
      have := ((e4 k hk).2 i (by show i < cv r k + 1; omega)).1
      rw [w3 _ (by omega) (by omega) (by omega) (by omega)] at this
      exact this
    · rw [u5 _ (by omega)]
      have := ((e4 k hk).2 i (by show i < cv r k + 1; omega)).2
      rw [w3 _ (by omega) (by omega) (by omega) (by omega)] at this
      exact this
    · rw [e5, w4 _ (by omega) (by omega) (by omega) (by omega) (by omega) (by omega) (by omega)]
    · have := e6 1 (by omega) (by omega) t ht
      rw [w4 _ (by omega) (by omega) (by omega) (by omega) (by omega) (by omega) (by omega)] at this
      exact this
    · have := e6 2 (by omega) (by omega) t ht
      rw [w4 _ (by omega) (by omega) (by omega) (by omega) (by omega) (by omega) (by omega)] at this
      exact this
    · have := e6 3 (by omega) (by omega) t ht
      rw [w4 _ (by omega) (by omega) (by omega) (by omega) (by omega) (by omega) (by omega)] at this
      exact this
    · have := e6 4 (by omega) (by omega) t ht
      rw [w4 _ (by omega) (by omega) (by omega) (by omega) (by omega) (by omega) (by omega)] at this
      exact this
    · have := e6 5 (by omega) (by omega) t ht
      rw [w4 _ (by omega) (by omega) (by omega) (by omega) (by omega) (by omega) (by omega)] at this
      exact this
    · have := e7 6 (by omega) (by omega) (t * 8 + k) (by omega)
      rw [w4 _ (by omega) (by omega) (by omega) (by omega) (by omega) (by omega) (by omega)] at this
      exact this
    · have := e7 7 (by omega) (by omega) (t * 8 + k) (by omega)
      rw [w4 _ (by omega) (by omega) (by omega) (by omega) (by omega) (by omega) (by omega)] at this
      exact this
  · rw [u5 k (by omega), w4 k (by omega) (by omega) (by omega) (by omega) (by omega) (by omega) (by omega)]
