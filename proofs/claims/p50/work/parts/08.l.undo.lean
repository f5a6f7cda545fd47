/-! the pure part: undo, save, restore -/
section PX
variable {bd : Int} {g m : Mem} {n c p s j : Nat}
theorem r_undo33 (hn : 10010 ≤ n) (hc : c < 6) (e : m 0 2 = nI c) : ∃ m', sX7_undo_33 n n m 0 = some (nI c, m') ∧ (∀ k, k ≠ 1 → m' k = m k) ∧ ∀ j, j < 865 → m' 1 j = m 2 (865 * c + j) := by
  have key := lp_iv (fun f s i => sX7_undo_33 n f s i) 865 (fun s => some (s 0 2, s)) (fun i s => (∀ k, k ≠ 1 → s k = m k) ∧ ∀ j, j < i → s 1 j = m 2 (865 * c + j)) (fun f i s hi hp => by
      obtain ⟨p1, p2⟩ := hp
      have hle : ¬ (865 : Int32) ≤ nI i := nI_ge (b := 865) hi (by decide)
      have hcl : (nI i).toNatClampNeg = i := nI_clamp (by omega)
      have hcl2 : (nI (865 * c + i)).toNatClampNeg = 865 * c + i := nI_clamp (by omega)
      have e0 : s 0 2 = nI c := by rw [p1 0 (by decide)]; exact e
      have i1 : ∀ {α : Type} {x : Option α}, (sIdx (nI i) 865 fun _ => x) = x := ix_e i rfl hi (by decide)
      have i2 : ∀ {α : Type} {x : Option α}, (sIdx (nI (865 * c + i)) 5190 fun _ => x) = x := ix_e (865 * c + i) rfl (by omega) (by decide)
      refine ⟨mput s 1 i (s 2 (865 * c + i)), ⟨fun k hk => by rw [mput_ne hk]; exact p1 k hk, fun j hj => ?_⟩, ?_⟩
      · by_cases z : j = i
        · rw [z, mp_eq, p1 2 (by decide)]
        · rw [mp_at z]; exact p2 j (by omega)
      · simp only [sX7_undo_33, hle, if_false, e0, c865, hcl, hcl2, i1, i2, let_s, nI_1]) (fun f s hp => by
      have hle : (865 : Int32) ≤ nI 865 := nI_le (Nat.le_refl _) (by decide)
      simp only [sX7_undo_33, hle, if_true]) 865 0 (by omega) n (by omega) m ⟨fun k _ => rfl, fun j hj => by omega⟩
  obtain ⟨s, ⟨p1, p2⟩, p4⟩ := key
  have p4' : sX7_undo_33 n n m 0 = some (s 0 2, s) := p4
  rw [p1 0 (by decide), e] at p4'
  exact ⟨s, p4', p1, p2⟩
theorem r_save25 (hn : 10010 ≤ n) (hs : s < 2) : ∃ m', sX7_save_25 n n m (nI s) 0 = some (m 1 0, m') ∧ (∀ k, k ≠ 3 → k ≠ 4 → m' k = m k) ∧ m' 4 s = 1 ∧ (∀ j, j ≠ s → m' 4 j = m 4 j) ∧ (∀ j, j < 865 → m' 3 (865 * s + j) = m 1 j) ∧ ∀ j, (j < 865 * s ∨ 865 * s + 865 ≤ j) → m' 3 j = m 3 j := by
  have i2s : ∀ {α : Type} {x : Option α}, (sIdx (nI s) 2 fun _ => x) = x := ix_e s rfl hs (by decide)
  have hcs : (nI s).toNatClampNeg = s := nI_clamp (by omega)
  have key := lp_iv (fun f u i => sX7_save_25 n f u (nI s) i) 865 (fun u => some (u 1 0, mput u 4 s 1)) (fun i u => (∀ k, k ≠ 3 → u k = m k) ∧ (∀ j, j < i → u 3 (865 * s + j) = m 1 j) ∧ ∀ j, (j < 865 * s ∨ 865 * s + 865 ≤ j) → u 3 j = m 3 j) (fun f i u hi hp => by
      obtain ⟨p1, p2, p3⟩ := hp
      have hle : ¬ (865 : Int32) ≤ nI i := nI_ge (b := 865) hi (by decide)
      have hcl : (nI i).toNatClampNeg = i := nI_clamp (by omega)
      have hcl2 : (nI (865 * s + i)).toNatClampNeg = 865 * s + i := nI_clamp (by omega)
      have i1 : ∀ {α : Type} {x : Option α}, (sIdx (nI i) 865 fun _ => x) = x := ix_e i rfl hi (by decide)
      have i2 : ∀ {α : Type} {x : Option α}, (sIdx (nI (865 * s + i)) 1730 fun _ => x) = x := ix_e (865 * s + i) rfl (by omega) (by decide)
      refine ⟨mput u 3 (865 * s + i) (u 1 i), ⟨fun k hk => by rw [mput_ne hk]; exact p1 k hk, fun j hj => ?_, fun j hj => by rw [mp_at (by omega)]; exact p3 j hj⟩, ?_⟩
      · by_cases z : j = i
        · rw [z, mp_eq, p1 1 (by decide)]
        · rw [mp_at (by omega)]; exact p2 j (by omega)
      · simp only [sX7_save_25, hle, if_false, c865, hcl, hcl2, i1, i2, let_s, nI_1]) (fun f u hp => by
      have hle : (865 : Int32) ≤ nI 865 := nI_le (Nat.le_refl _) (by decide)
      simp only [sX7_save_25, hle, if_true, i2s, hcs, let_s, r_i0, c_0]
      rw [mput_ne (by decide)]) 865 0 (by omega) n (by omega) m ⟨fun k _ => rfl, fun j hj => by omega, fun j _ => rfl⟩
  obtain ⟨u, ⟨p1, p2, p3⟩, p4⟩ := key
  have p4' : sX7_save_25 n n m (nI s) 0 = some (u 1 0, mput u 4 s 1) := p4
  rw [p1 1 (by decide)] at p4'
  refine ⟨_, p4', fun k k3 k4 => by rw [mput_ne k4, p1 k k3], mp_eq, fun j hj => by rw [mp_at hj, p1 4 (by decide)], fun j hj => ?_, fun j hj => ?_⟩
  · rw [mput_ne (by decide)]; exact p2 j hj
  · rw [mput_ne (by decide)]; exact p3 j hj
theorem r_restore42 (hn : 10010 ≤ n) (hs : s < 2) : ∃ m', sX7_restore_42 n n m (nI s) 0 = some (m' 1 0, m') ∧ (∀ k, k ≠ 1 → m' k = m k) ∧ ∀ j, j < 865 → m' 1 j = m 3 (865 * s + j) := by
  have key := lp_iv (fun f u i => sX7_restore_42 n f u (nI s) i) 865 (fun u => some (u 1 0, u)) (fun i u => (∀ k, k ≠ 1 → u k = m k) ∧ ∀ j, j < i → u 1 j = m 3 (865 * s + j)) (fun f i u hi hp => by
      obtain ⟨p1, p2⟩ := hp
      have hle : ¬ (865 : Int32) ≤ nI i := nI_ge (b := 865) hi (by decide)
      have hcl : (nI i).toNatClampNeg = i := nI_clamp (by omega)
      have hcl2 : (nI (865 * s + i)).toNatClampNeg = 865 * s + i := nI_clamp (by omega)
      have i1 : ∀ {α : Type} {x : Option α}, (sIdx (nI i) 865 fun _ => x) = x := ix_e i rfl hi (by decide)
      have i2 : ∀ {α : Type} {x : Option α}, (sIdx (nI (865 * s + i)) 1730 fun _ => x) = x := ix_e (865 * s + i) rfl (by omega) (by decide)
      refine ⟨mput u 1 i (u 3 (865 * s + i)), ⟨fun k hk => by rw [mput_ne hk]; exact p1 k hk, fun j hj => ?_⟩, ?_⟩
      · by_cases z : j = i
        · rw [z, mp_eq, p1 3 (by decide)]
        · rw [mp_at z]; exact p2 j (by omega)
      · simp only [sX7_restore_42, hle, if_false, c865, hcl, hcl2, i1, i2, let_s, nI_1]) (fun f u hp => by
      have hle : (865 : Int32) ≤ nI 865 := nI_le (Nat.le_refl _) (by decide)
      simp only [sX7_restore_42, hle, if_true, r_i0, c_0]) 865 0 (by omega) n (by omega) m ⟨fun k _ => rfl, fun j hj => by omega⟩
  obtain ⟨u, ⟨p1, p2⟩, p4⟩ := key
  exact ⟨u, p4, p1, p2⟩
theorem k_pop (hn : 10010 ≤ n) (hp : p < 6) (hc : c < 6) (e0 : g 153 0 = nI (c + 1)) (e1 : g 153 1 = nI p) {r : Nat → Int32} (h : Inv bd r) (hC : Cls g (17 * ((p + 5) % 6 + 1)) r) : ∃ g', sX0_popInto n g 0 = some g' ∧ Cls g' 0 r ∧ g' 153 0 = nI c ∧ g' 153 1 = nI ((p + 5) % 6) ∧ ∀ k, 17 ≤ k → k ≠ 153 → g' k = g k := by
  have ep : nI p + (6 : Int32) - 1 = nI (p + 5) := by
    rw [show nI p + (6 : Int32) = nI (p + 5 + 1) from nI_add p 6, nI_pred]
  have er : nI (p + 5) - nI (p + 5) / (6 : Int32) * (6 : Int32) = nI ((p + 5) % 6) := pk_rem (d := 6) (by omega) (by decide) (by decide)
  have ip : ∀ {α : Type} {x : Option α}, (sIdx (nI ((p + 5) % 6)) 6 fun _ => x) = x := ix_e _ rfl (by omega) (by decide)
  have hcl : (nI ((p + 5) % 6)).toNatClampNeg = (p + 5) % 6 := nI_clamp (by omega)
  have e2 : mput g 153 1 (nI ((p + 5) % 6)) 153 0 = nI (c + 1) := by rw [mp_at (by decide), e0]
  obtain ⟨G, hG⟩ : ∃ z, z = mput (mput g 153 1 (nI ((p + 5) % 6))) 153 0 (nI c) := ⟨_, rfl⟩
  have g1 : G 153 1 = nI ((p + 5) % 6) := by rw [hG, mp_at (by decide), mp_eq]
  have gk : ∀ k, k ≠ 153 → G k = g k := fun k hk => by rw [hG, mput_ne hk, mput_ne hk]
  obtain ⟨g', s1, s2, s3⟩ := k_copy hn (g := G) (a := 0) (b := 17 * ((p + 5) % 6 + 1)) h (by omega) (hC.fr (fun k k1 k2 => gk k (by omega)))
  refine ⟨g', ?_, s2, ?_, ?_, fun k k1 k2 => ?_⟩
  · unfold sX0_popInto
    simp only [e1, ep, er, let_s, e2, nI_pred, ← hG, g1, ip, hcl, s1, bi_s]
  · rw [s3 153 (by omega), hG, mp_eq]
  · rw [s3 153 (by omega), g1]
  · rw [s3 k (by omega), gk k k2]
theorem q_undo (hn : 10010 ≤ n) (hj : j ≤ 512) : sim_undo (Rel j) (Rel (j + 1)) n := by
  intro g m hR
  obtain ⟨⟨hC, hI, ⟨c, p, h1, h2, h3, h4, h5, h6⟩, hL, L, hT⟩, -⟩ := hR
  by_cases z : c = 0
  · subst z
    obtain ⟨m1, hm⟩ : ∃ z, z = mput m 0 7 1 := ⟨_, rfl⟩
    have hR : Rel j g m := ⟨⟨hC, hI, ⟨0, p, h1, h2, h3, h4, h5, h6⟩, hL, L, hT⟩, by omega⟩
    refine ⟨(3, 0, g), (0, m1), ?_, ?_, by rw [hm]; exact hR.mono hj 1, Or.inr ⟨rfl, th_e hm⟩⟩
    · unfold sX6_undo
      rw [if_pos (show g 153 0 = 0 from h4)]
    · unfold sX7_undo
      rw [if_pos (show m 0 2 = 0 from h3), th_1, bi2_s, ← hm]
      rfl
  · obtain ⟨c, rfl⟩ : ∃ d, c = d + 1 := ⟨c - 1, by omega⟩
    have n4 : ¬ g 153 0 = 0 := by rw [h4]; exact nI_ne0 (by omega) (by omega)
    have n3 : ¬ m 0 2 = 0 := by rw [h3]; exact nI_ne0 (by omega) (by omega)
    obtain ⟨q1, q2⟩ := h6 c (by omega)
    rw [show (p + 6 - (c + 1) + c) % 6 = (p + 5) % 6 by omega] at q1
    obtain ⟨g', a1, a2, a3, a4, a5⟩ := k_pop hn h2 (by omega) h4 h5 q2 q1
    obtain ⟨m1, hm⟩ : ∃ z, z = mput (mput m 0 7 0) 0 2 (nI c) := ⟨_, rfl⟩
    have em : ∀ k, k ≠ 0 → m1 k = m k := fun k hk => by rw [hm, mput_ne hk, mput_ne hk]
    have em0 : ∀ b, b ≠ 2 → b ≠ 7 → m1 0 b = m 0 b := fun b b2 b7 => by rw [hm, mp_at b2, mp_at b7]
    obtain ⟨m', b1, b2, b3⟩ := r_undo33 hn (m := m1) (c := c) (by omega) (by rw [hm, mp_eq])
    have e7 : m' 0 7 = 0 := by rw [b2 0 (by decide), hm, mp_at (by decide), mp_eq]
    have eR : ∀ j, j < 865 → m' 1 j = pst m c j := fun j hj => by rw [b3 j hj, em 2 (by decide)]; rfl
    have hB : RelB (bdj j) g' m' := by
      refine ⟨a2.cg eR q2.b40, q2.cg eR, ⟨c, (p + 5) % 6, by omega, by omega, ?_, a3, a4, fun i hi => ?_⟩, hL.tr (fun k k1 k2 => a5 k (by omega) (by omega)) (a5 156 (by decide) (by decide)) (by rw [b2 4 (by decide), em 4 (by decide)]) (by rw [b2 3 (by decide), em 3 (by decide)]), L, hT.tr (by rw [a5 157 (by decide) (by decide)]) (a5 159 (by decide) (by decide)) (by rw [b2 0 (by decide), em0 6 (by decide) (by decide)]) (by rw [b2 5 (by decide), em 5 (by decide)])⟩
      · rw [b2 0 (by decide), hm, mp_eq]
      · obtain ⟨w1, w2⟩ := h6 i (by omega)
        have eK : ((p + 5) % 6 + 6 - c + i) % 6 = (p + 6 - (c + 1) + i) % 6 := by omega
        rw [eK]
        have e : ∀ j, j < 865 → pst m' i j = pst m i j := fun j hj => by
          show m' 2 _ = m 2 _
          rw [b2 2 (by decide), em 2 (by decide)]
        exact ⟨Cls.cg e w2.b40 (w1.fr (fun k k1 k2 => a5 k (by omega) (by omega))), w2.cg e⟩
    refine ⟨(0, nI c, g'), (nI c, m'), ?_, ?_, Rel.of hB hj, Or.inl ⟨rfl, e7, rfl⟩⟩
    · unfold sX6_undo
      rw [if_neg n4, a1, bi_s, a3]
    · unfold sX7_undo
      have e2 : mput m 0 7 0 0 2 - 1 = nI c := by rw [mp_at (by decide), h3, nI_pred]
      rw [if_neg n3, th_0, bi2_s, let_s, e2, ← hm, if_pos rfl]
      exact b1
theorem q_save (hn : 10010 ≤ n) (hj : j ≤ 512) : sim_save (Rel j) (Rel (j + 1)) n := by
  intro g m x hR
  rcases slot_c x g m with ⟨s, hs, rfl, e1, e2⟩ | ⟨e1, e2⟩
  · obtain ⟨⟨hC, hI, hS, hL, L, hT⟩, -⟩ := hR.thr (v := 0)
    obtain ⟨m1, hm⟩ : ∃ z, z = mput m 0 7 0 := ⟨_, rfl⟩
    rw [← hm] at hC hI hS hL hT
    have i2s : ∀ {α : Type} {x : Option α}, (sIdx (nI s) 2 fun _ => x) = x := ix_e s rfl hs (by decide)
    have hcs : (nI s).toNatClampNeg = s := nI_clamp (by omega)
    obtain ⟨G, a1, a2, a3⟩ := k_copy hn (a := 17 * (s + 7)) (b := 0) hI (by omega) hC
    obtain ⟨m', b1, b2, b3, b4, b5, b6⟩ := r_save25 hn (m := m1) hs
    have ek : ∀ k, k ≠ 156 → (k < 17 * (s + 7) ∨ 17 * (s + 7) + 17 ≤ k) → mput G 156 s 1 k = g k := fun k h1 h2 => by rw [mput_ne h1]; exact a3 k h2
    have em : ∀ k, k ≠ 3 → k ≠ 4 → m' k = m1 k := b2
    have m11 : m' 1 = m1 1 := em 1 (by decide) (by decide)
    have m10 : m' 0 = m1 0 := em 0 (by decide) (by decide)
    have hB : RelB (bdj j) (mput G 156 s 1) m' := by
      refine ⟨?_, by rw [m11]; exact hI, hS.tr (fun k k1 k2 => ek k (by omega) (by omega)) (ek 153 (by decide) (by omega)) (by rw [m10]) (em 2 (by decide) (by decide)), fun u hu => ?_, L, hT.tr (by rw [ek 157 (by decide) (by omega)]) (ek 159 (by decide) (by omega)) (by rw [m10]) (em 5 (by decide) (by decide))⟩
      · rw [m11]
        exact hC.fr (fun k _ k2 => ek k (by omega) (by omega))
      · by_cases z : u = s
        · subst z
          have e : ∀ j, j < 865 → slt m' u j = m1 1 j := b5
          refine Or.inr ⟨mp_eq, b3, ?_, hI.cg e⟩
          refine Cls.cg e hI.b40 (a2.fr (fun k k1 k2 => ?_))
          rw [mput_ne (by omega)]
        · have e : ∀ j, j < 865 → slt m' u j = slt m1 u j := fun j hj => by
            show m' 3 _ = m1 3 _
            exact b6 _ (by omega)
          rcases hL u hu with ⟨q1, q2⟩ | ⟨q1, q2, q3, q4⟩
          · exact Or.inl ⟨by rw [mp_at z, a3 156 (by omega)]; exact q1, by rw [b4 u z]; exact q2⟩
          · refine Or.inr ⟨by rw [mp_at z, a3 156 (by omega)]; exact q1, by rw [b4 u z]; exact q2, ?_, q4.cg e⟩
            exact Cls.cg e q4.b40 (q3.fr (fun k k1 k2 => ek k (by omega) (by omega)))
    refine ⟨(0, m1 1 0, mput G 156 s 1), (m1 1 0, m'), ?_, ?_, Rel.of hB hj, Or.inl ⟨rfl, (congrFun m10 7).trans (th_e hm), rfl⟩⟩
    · simp only [sX6_save, e1, rq_0, i2s, hcs, a1, bi_s, let_s]
      rw [mput_ne (by decide), a3 0 (by omega), k_t0 hC]
    · simp only [sX7_save, e2, bi_s, i10, if_false, th_0, bi2_s, ← hm, if_true]
      exact b1
  · obtain ⟨m1, hm⟩ : ∃ z, z = mput m 0 7 1 := ⟨_, rfl⟩
    refine ⟨(1, 0, g), (0, m1), ?_, ?_, by rw [hm]; exact hR.mono hj 1, Or.inr ⟨rfl, th_e hm⟩⟩
    · simp only [sX6_save, e1, rq_1]
    · simp only [sX7_save, e2, bi_s, bi2_s, th_1, ← hm, i10, if_true, if_false]
theorem q_restore (hn : 10010 ≤ n) (hj : j ≤ 512) : sim_restore (Rel j) (Rel (j + 1)) n := by
  intro g m x hR
  rcases slot_c x g m with ⟨s, hs, rfl, e1, e2⟩ | ⟨e1, e2⟩
  · have i2s : ∀ {α : Type} {x : Option α}, (sIdx (nI s) 2 fun _ => x) = x := ix_e s rfl hs (by decide)
    have hcs : (nI s).toNatClampNeg = s := nI_clamp (by omega)
    rcases hR.1.2.2.2.1 s hs with ⟨q1, q2⟩ | ⟨q1, q2, q3, q4⟩
    · obtain ⟨m1, hm⟩ : ∃ z, z = mput m 0 7 2 := ⟨_, rfl⟩
      refine ⟨(3, 0, g), (0, m1), ?_, ?_, by rw [hm]; exact hR.mono hj 2, Or.inr (Or.inr ⟨rfl, th_e hm⟩)⟩
      · simp only [sX6_restore, e1, rq_0, i2s, hcs, q1, if_true]
      · simp only [sX7_restore, e2, bi_s, i10, if_false, i2s, hcs, q2, if_true, th_2, bi2_s, ← hm]
    · have hB := (hR.thr (v := 0)).1
      obtain ⟨m1, hm⟩ : ∃ z, z = mput m 0 7 0 := ⟨_, rfl⟩
      rw [← hm] at hB
      obtain ⟨g1, m2, a1, a2, a3, a4, a5, a6, a7⟩ := op_push hn hB
      have g6 : ∀ k, 119 ≤ k → k ≠ 153 → g1 k = g k := a7
      obtain ⟨g2, c1, c2, c3⟩ := k_copy hn (g := g1) (a := 0) (b := 17 * (s + 7)) q4 (by omega) (q3.fr (fun k k1 k2 => g6 k (by omega) (by omega)))
      obtain ⟨m', b1, b2, b3⟩ := r_restore42 hn (m := m2) hs
      have eR : ∀ j, j < 865 → m' 1 j = slt m s j := fun j hj => by
        rw [b3 j hj, a5 3 (by decide) (by decide), hm, th_m (by decide)]
        rfl
      have hC' : Cls g2 0 (m' 1) := c2.cg eR q4.b40
      have e7 : m' 0 7 = 0 := by rw [b2 0 (by decide), a4 7 (by decide)]; exact th_e hm
      refine ⟨(0, m' 1 0, g2), (m' 1 0, m'), ?_, ?_, Rel.of (a3.st (Int.le_refl _) hC' (q4.cg eR) (fun k hk => c3 k (by omega)) b2) hj, Or.inl ⟨rfl, e7, rfl⟩⟩
      · simp only [sX6_restore, e1, rq_0, i2s, hcs, q1, i10, if_false, a1, bi_s, c1, k_t0 hC']
      · have q2' : ¬ m 4 s = 0 := by rw [q2]; decide
        simp only [sX7_restore, e2, bi_s, i10, if_false, i2s, hcs, q2', th_0, bi2_s, ← hm, if_true, a2]
        exact b1
  · obtain ⟨m1, hm⟩ : ∃ z, z = mput m 0 7 1 := ⟨_, rfl⟩
    refine ⟨(1, 0, g), (0, m1), ?_, ?_, by rw [hm]; exact hR.mono hj 1, Or.inr (Or.inl ⟨rfl, th_e hm⟩)⟩
    · simp only [sX6_restore, e1, rq_1]
    · simp only [sX7_restore, e2, bi_s, bi2_s, th_1, ← hm, i10, if_true, if_false]
end PX
