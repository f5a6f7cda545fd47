/-! one round of the law's loop, and its start -/
/-- a round of the law at the place e with the cell y: from the memory g to gd, all its checks true -/
def Lw5 (n e : Nat) (y : Int32) (g gd : Mem) : Prop := ∃ g1 : Mem, sL_does n g y = some (1, g1) ∧ ∃ gb : Mem, ((((y >>> ((19 : Int32) &&& 31)) &&& (3 : Int32)) = 0 ∧ ∃ g2 : Mem, sL_clocks n (m161 g1 g) (y >>> ((5 : Int32) &&& 31)) = some (1, g2) ∧ gb = m161 g2 (m161 g1 g)) ∨ (¬ ((y >>> ((19 : Int32) &&& 31)) &&& (3 : Int32)) = 0 ∧ gb = m161 g1 g)) ∧ ((e % 8 = 5 ∧ sL_isRead n gb (y >>> ((3 : Int32) &&& 31)) = some (1, gd)) ∨ (¬ e % 8 = 5 ∧ gd = gb)) ∧ (e % 5 = 4 → sL_areAll n gd = some 1) ∧ sX6_valueAt n gd (gd 161 0) (gd 161 1) = some (0, gd 161 2)
def Ok5 (e : Nat) (g : Mem) : Prop := ∃ (r : Nat → Int32) (k : Nat) (x v : Int32), Oh (bdj e) (100 * e) (40 * e) g r k x v ∧ g 161 0 = nI k ∧ g 161 1 = x ∧ g 161 2 = v
section VI
variable {bd ub tb : Int} {g g' : Mem} {r : Nat → Int32} {n e k s : Nat} {x v y : Int32}
theorem oh_all (hn : 10010 ≤ n) (h : Oh bd ub tb g r k x v) : sL_areAll n g = some 1 := z_all hn h.1.2.1 h.1.1 h.2.1
theorem oh_val (hn : 10010 ≤ n) (h : Oh bd ub tb g r k x v) : sX6_valueAt n g (nI k) x = some (0, v) := by
  obtain ⟨hP, h2, h3, h4, h5, h6, h7⟩ := h
  obtain ⟨w, w1, w2⟩ := x_val hn hP.2.1 hP.1 h4 h5
  rw [w2, WV_uq (hP.1.2.2.1 k h4) w1 h7]
theorem oh_m (h : Oh bd ub tb g r k x v) (g9 : Mem) : Oh bd ub tb (m161 g g9) r k x v := h.cg (fun k hk => m161_ne (by omega))
theorem ok_step (hn : 10010 ≤ n) (he : e < 90) (h : Ok5 e g) (y : Int32) : ∃ gd, Lw5 n e y g gd ∧ Ok5 (e + 1) gd := by
  obtain ⟨r, k, x, v, hO, e0, e1, e2⟩ := h
  have hb : bdj e = 3200000 + 100 * e := rfl
  have hb1 : bdj (e + 1) = 3200000 + 100 * (e + 1 : Nat) := rfl
  obtain ⟨g1, r1, d1, d2⟩ := z_does hn hO (by omega) (by omega) (by omega) (by omega) y
  have d3 := oh_m d2 g
  -- the clocks
  have hcl : ∃ (gb : Mem) (rb : Nat → Int32), ((((y >>> ((19 : Int32) &&& 31)) &&& (3 : Int32)) = 0 ∧ ∃ g2 : Mem, sL_clocks n (m161 g1 g) (y >>> ((5 : Int32) &&& 31)) = some (1, g2) ∧ gb = m161 g2 (m161 g1 g)) ∨ (¬ ((y >>> ((19 : Int32) &&& 31)) &&& (3 : Int32)) = 0 ∧ gb = m161 g1 g)) ∧ Oh (bdj e + 1) (100 * e + 40) (40 * e + 30) gb rb k x v ∧ gb 161 = g 161 := by
    by_cases z : ((y >>> ((19 : Int32) &&& 31)) &&& (3 : Int32)) = 0
    · obtain ⟨g2, r2, c1, c2⟩ := z_clocks hn d3 (y >>> ((5 : Int32) &&& 31))
      exact ⟨_, r2, Or.inl ⟨z, g2, c1, rfl⟩, oh_m c2 _, by rw [m161_at, m161_at]⟩
    · exact ⟨_, r1, Or.inr ⟨z, rfl⟩, d3, m161_at⟩
  obtain ⟨gb, rb, c1, c2, c3⟩ := hcl
  have hrd : ∃ (gd : Mem) (rd : Nat → Int32) (k' : Nat) (x' v' : Int32), ((e % 8 = 5 ∧ sL_isRead n gb (y >>> ((3 : Int32) &&& 31)) = some (1, gd)) ∨ (¬ e % 8 = 5 ∧ gd = gb)) ∧ Oh (bdj e + 1) (100 * e + 40) (40 * e + 30) gd rd k' x' v' ∧ gd 161 0 = nI k' ∧ gd 161 1 = x' ∧ gd 161 2 = v' := by
    by_cases z : e % 8 = 5
    · obtain ⟨gd, rd, k', x', v', p1, p2, p3, p4, p5⟩ := z_isRead hn c2 (by omega) (y >>> ((3 : Int32) &&& 31))
      exact ⟨gd, rd, k', x', v', Or.inl ⟨z, p1⟩, p2, p3, p4, p5⟩
    · exact ⟨gb, rb, k, x, v, Or.inr ⟨z, rfl⟩, c2, by rw [c3]; exact e0, by rw [c3]; exact e1, by rw [c3]; exact e2⟩
  obtain ⟨gd, rd, k', x', v', p1, p2, p3, p4, p5⟩ := hrd
  refine ⟨gd, ⟨g1, d1, gb, c1, p1, fun _ => oh_all hn p2, ?_⟩, rd, k', x', v', p2.up (by omega) (by omega) (by omega) (by omega), p3, p4, p5⟩
  rw [p3, p4, p5]
  exact oh_val hn p2
theorem ok_all (hn : 10010 ≤ n) (h : Ok5 e g) : sL_areAll n g = some 1 := by
  obtain ⟨r, k, x, v, hO, -⟩ := h
  exact oh_all hn hO
/-! the start -/
theorem kp_0 : KP (bdj 0) gC0 (gM0 1) := ⟨cls_0 (i := 0) (by decide), inv_0, 0, 0, by decide, by decide, rfl, rfl⟩
theorem ok_0 : Ok5 0 gC0 := by
  have z := nB_0
  have e0 : gM0 1 0 = 0 := m0_lo (by decide)
  have e1 : gM0 1 1 = 0 := m0_lo (by decide)
  have e2 : gM0 1 2 = 0 := m0_lo (by decide)
  refine ⟨gM0 1, 0, 0, 0, ⟨kp_0, ⟨fun t ht => by omega, fun t ht => by omega, fun t ht => by omega, fun t u ht => by omega, fun t u ht => by omega, fun t ht => by omega, by rw [e2]; decide, by rw [e2]; decide, fun _ => ⟨fun t ht => by omega, fun t ht => by omega⟩⟩, by rw [e0]; decide, by decide, by decide, by rw [e1]; decide, Or.inl ⟨rfl, fun t ht => by omega⟩⟩, rfl, rfl, rfl⟩
theorem off_00 (hs : s < 3) : offI (gM0 1) s 0 = 0 := by
  unfold offI
  rw [ck_0 hs (by decide), ck_0 hs (by decide), ck_0 hs (by decide)]
  decide
theorem unc_00 (hs : s < 3) : uncI (gM0 1) s 0 = 5 := by
  unfold uncI
  rw [ck_0 hs (by decide), ck_0 hs (by decide), ck_0 hs (by decide)]
  decide
theorem st_tm : sX6_trueTime gC0 = some 0 := by rw [x_tm kp_0.1, m0_lo (by decide)]
theorem e00 : (gM0 1 0).toInt = 0 := by rw [m0_lo (by decide)]; rfl
theorem st_rd : sX6_reading gC0 2 = some (0, 0) := by
  have q := x_rdg (s := 2) kp_0.2.1 kp_0.1 (by decide)
  rw [e00, off_00 (by decide), m0_lo (by decide)] at q
  exact q
theorem st_lat : sX6_latest gC0 1 = some (0, 5) := by
  have q := x_lat (s := 1) kp_0.2.1 kp_0.1 (by decide)
  unfold latI at q
  rw [e00, off_00 (by decide), unc_00 (by decide)] at q
  exact q
theorem st_ear : sX6_earliest gC0 1 = some (0, -5) := by
  have q := x_ear (s := 1) kp_0.2.1 kp_0.1 (by decide)
  unfold earI at q
  rw [e00, off_00 (by decide), unc_00 (by decide)] at q
  exact q
theorem st_safe (hn : 10010 ≤ n) : sX6_safeTime n gC0 = some 4 := by
  have hI := kp_0.2.1
  have z := nB_0
  have as : ∀ s, s < 3 → gM0 1 (4 + s) = 0 := fun s hs => m0_lo (by omega)
  have q : ∀ s, s < 3 → (nx (gM0 1) s 0).toInt = 5 := fun s hs => by
    rw [nx_i hI hs (by rw [e00]; exact Int.le_refl _) (by decide), as s hs, m0_lo (by decide)]
    unfold latI
    rw [off_00 hs, unc_00 hs]
    decide
  have e : (sfN (gM0 1)).toInt = 4 := by
    unfold sfN
    rw [z]
    show (sf3 (gM0 1) (gM0 1 0).toInt).toInt = 4
    rw [sf3_i hI (Int.le_refl _) (by rw [e00]; decide), e00, q 0 (by decide), q 1 (by decide), q 2 (by decide)]
    decide
  rw [x_safe hn hI kp_0.1]
  exact congrArg some (i_eq.mpr (e.trans (by decide)))
theorem st_sav : sX6_savedStates gC0 = some 0 := rfl
end VI
