/-! the start: the heap behind the constructors is the law's world -/
theorem arrV_cg {c : ClassId} {n : Nat} {f g : Nat → Value} (h : ∀ j, j < n → f j = g j) : arrV c n f = arrV c n g := by
  unfold arrV
  rw [show (fun (j : Fin n) => f j.val) = fun j => g j.val from funext fun j => h j.1 j.2]
theorem at_I {D : va_G} {cl : List vw_C} {a n : Nat} {cA : ClassId} {f g : Nat → Int32} {H : Heap} (h : ∀ j, j < n → f j = g j) (hx : va_at D cl (a, .inl (cA, n, .inl f)) H) : va_at D cl (a, .inl (cA, n, .inl g)) H := by
  have e : vp_cell cA (n, .inl f) = vp_cell cA (n, .inl g) := (vp_cell_i cA n f).trans ((arrV_cg (f := fun j => .int (f j)) (g := fun j => .int (g j)) (fun j hj => by rw [h j hj])).trans (vp_cell_i cA n g).symm)
  exact Eq.trans hx (congrArg some e)
theorem at_Q {D : va_G} {cl : List vw_C} {a n : Nat} {cA : ClassId} {f g : Nat → Option Nat} {H : Heap} (h : ∀ j, j < n → f j = g j) (hx : va_at D cl (a, .inl (cA, n, .inr (.inr (.inr (.inr f))))) H) : va_at D cl (a, .inl (cA, n, .inr (.inr (.inr (.inr g))))) H := by
  have e : vp_cell cA (n, .inr (.inr (.inr (.inr f)))) = vp_cell cA (n, .inr (.inr (.inr (.inr g)))) := (vp_cell_q cA n f).trans ((arrV_cg (f := fun j => va_rf (f j)) (g := fun j => va_rf (g j)) (fun j hj => by rw [h j hj])).trans (vp_cell_q cA n g).symm)
  exact Eq.trans hx (congrArg some e)
theorem stL_cg {G : LY} {a b : Nat → Nat} (h : ∀ r, r < 17 → a r = b r) : stL G a = stL G b := by
  unfold stL
  rw [h 0 (by omega), h 1 (by omega), h 2 (by omega), h 3 (by omega), h 4 (by omega), h 5 (by omega), h 6 (by omega), h 7 (by omega), h 8 (by omega), h 9 (by omega), h 10 (by omega), h 11 (by omega), h 12 (by omega), h 13 (by omega), h 14 (by omega), h 15 (by omega), h 16 (by omega)]
def stA (G : LY) (i : Nat) : Nat → Nat := fun r => G.1 (17 * i + r)
/-- the source, its cells by G's addresses -/
def srcL (G : LY) : va_W := x6L G (G.1 160) (G.1 155) (G.1 156) (G.1 157) (G.1 158) (G.1 159) (G.1 153) (G.1 154) (stA G 0) (stA G 7) (stA G 8) (fun k => stA G (k + 1)) ++ [(G.1 161, .inl (G.2.1 0, 3, .inl (fun _ => 0)))]
theorem kdst : ∀ i, i < 9 → KD (17 * i + 0) = 2 ∧ KD (17 * i + 1) = 11 ∧ KD (17 * i + 2) = 1 ∧ KD (17 * i + 3) = 1 ∧ KD (17 * i + 4) = 1 ∧ KD (17 * i + 5) = 5 ∧ KD (17 * i + 6) = 9 ∧ KD (17 * i + 7) = 9 ∧ KD (17 * i + 8) = 9 ∧ KD (17 * i + 9) = 4 ∧ KD (17 * i + 10) = 9 ∧ KD (17 * i + 11) = 9 ∧ KD (17 * i + 12) = 9 ∧ KD (17 * i + 13) = 9 ∧ KD (17 * i + 14) = 9 ∧ KD (17 * i + 15) = 9 ∧ KD (17 * i + 16) = 9 := by decide +kernel
theorem lnst : ∀ i, i < 9 → LN (17 * i + 6) = 8 ∧ LN (17 * i + 7) = 328 ∧ LN (17 * i + 8) = 328 ∧ LN (17 * i + 10) = 40 ∧ LN (17 * i + 11) = 40 ∧ LN (17 * i + 12) = 40 ∧ LN (17 * i + 13) = 40 ∧ LN (17 * i + 14) = 40 ∧ LN (17 * i + 15) = 320 ∧ LN (17 * i + 16) = 320 := by decide +kernel
def gSt (r : Nat) : Nat → Int32 := fun j => if r = 2 ∨ r = 3 ∨ r = 4 then (if j = 3 then 5 else if j = 4 then 2 else 0) else if r = 6 then 1 else 0
theorem gCst {i r : Nat} (hi : i < 9) (hr : r < 17) : gC0 (17 * i + r) = gSt r := by
  funext j
  unfold gC0 gSt
  rw [if_pos (by omega), show (17 * i + r) % 17 = r by omega]

set_option maxHeartbeats 4000000 in
set_option maxRecDepth 100000 in
theorem stc {G : LY} {H : Heap} {i : Nat} (hi : i < 9) (h : va_P G.2.2 vwCl (stL G (stA G i)) H) : ∀ r, r < 17 → va_at G.2.2 vwCl (G.1 (17 * i + r), eC G gC0 (17 * i + r)) H := by
  obtain ⟨d0, d1, d2, d3, d4, d5, d6, d7, d8, d9, d10, d11, d12, d13, d14, d15, d16⟩ := kdst i hi
  obtain ⟨n6, n7, n8, n10, n11, n12, n13, n14, n15, n16⟩ := lnst i hi
  have c0 : va_at G.2.2 vwCl (G.1 (17 * i + 0), eC G gC0 (17 * i + 0)) H := by
    rw [show eC G gC0 (17 * i + 0) = .inr (2, fX2 (17 * i + 0) G gC0) by simp only [eC, d0]; rfl]
    unfold fX2
    rw [gCst hi (by decide)]
    exact h 0 _ rfl
  have c1 : va_at G.2.2 vwCl (G.1 (17 * i + 1), eC G gC0 (17 * i + 1)) H := by
    rw [show eC G gC0 (17 * i + 1) = .inl (G.2.1 3, 3, .inr (.inr (.inr (.inr (fun j => some (G.1 (17 * i + 1 + 1 + j))))))) by simp only [eC, d1]; rfl]
    exact at_Q (fun j hj => by rcases (show j = 0 ∨ j = 1 ∨ j = 2 by omega) with rfl | rfl | rfl <;> rfl) (h 1 _ rfl)
  have c2 : va_at G.2.2 vwCl (G.1 (17 * i + 2), eC G gC0 (17 * i + 2)) H := by
    rw [show eC G gC0 (17 * i + 2) = .inr (1, fX1 (17 * i + 2) G gC0) by simp only [eC, d2]; rfl]
    unfold fX1
    rw [gCst hi (by decide)]
    exact h 14 _ rfl
  have c3 : va_at G.2.2 vwCl (G.1 (17 * i + 3), eC G gC0 (17 * i + 3)) H := by
    rw [show eC G gC0 (17 * i + 3) = .inr (1, fX1 (17 * i + 3) G gC0) by simp only [eC, d3]; rfl]
    unfold fX1
    rw [gCst hi (by decide)]
    exact h 15 _ rfl
  have c4 : va_at G.2.2 vwCl (G.1 (17 * i + 4), eC G gC0 (17 * i + 4)) H := by
    rw [show eC G gC0 (17 * i + 4) = .inr (1, fX1 (17 * i + 4) G gC0) by simp only [eC, d4]; rfl]
    unfold fX1
    rw [gCst hi (by decide)]
    exact h 16 _ rfl
  have c5 : va_at G.2.2 vwCl (G.1 (17 * i + 5), eC G gC0 (17 * i + 5)) H := by
    rw [show eC G gC0 (17 * i + 5) = .inr (5, fX5 (17 * i + 5) G gC0) by simp only [eC, d5]; rfl]
    unfold fX5
    exact h 2 _ rfl
  have c6 : va_at G.2.2 vwCl (G.1 (17 * i + 6), eC G gC0 (17 * i + 6)) H := by
    rw [show eC G gC0 (17 * i + 6) = .inl (G.2.1 0, 8, .inl (gC0 (17 * i + 6))) by simp only [eC, d6, n6]; rfl, gCst hi (by decide)]
    exact at_I (fun j hj => by rcases (show j = 0 ∨ j = 1 ∨ j = 2 ∨ j = 3 ∨ j = 4 ∨ j = 5 ∨ j = 6 ∨ j = 7 by omega) with rfl | rfl | rfl | rfl | rfl | rfl | rfl | rfl <;> rfl) (h 3 _ rfl)
  have c7 : va_at G.2.2 vwCl (G.1 (17 * i + 7), eC G gC0 (17 * i + 7)) H := by
    rw [show eC G gC0 (17 * i + 7) = .inl (G.2.1 0, 328, .inl (gC0 (17 * i + 7))) by simp only [eC, d7, n7]; rfl, gCst hi (by decide)]
    exact at_I (fun j hj => rfl) (h 4 _ rfl)
  have c8 : va_at G.2.2 vwCl (G.1 (17 * i + 8), eC G gC0 (17 * i + 8)) H := by
    rw [show eC G gC0 (17 * i + 8) = .inl (G.2.1 0, 328, .inl (gC0 (17 * i + 8))) by simp only [eC, d8, n8]; rfl, gCst hi (by decide)]
    exact at_I (fun j hj => rfl) (h 5 _ rfl)
  have c9 : va_at G.2.2 vwCl (G.1 (17 * i + 9), eC G gC0 (17 * i + 9)) H := by
    rw [show eC G gC0 (17 * i + 9) = .inr (4, fX4 (17 * i + 9) G gC0) by simp only [eC, d9]; rfl]
    unfold fX4
    rw [gCst hi (by decide)]
    exact h 6 _ rfl
  have c10 : va_at G.2.2 vwCl (G.1 (17 * i + 10), eC G gC0 (17 * i + 10)) H := by
    rw [show eC G gC0 (17 * i + 10) = .inl (G.2.1 0, 40, .inl (gC0 (17 * i + 10))) by simp only [eC, d10, n10]; rfl, gCst hi (by decide)]
    exact at_I (fun j hj => rfl) (h 7 _ rfl)
  have c11 : va_at G.2.2 vwCl (G.1 (17 * i + 11), eC G gC0 (17 * i + 11)) H := by
    rw [show eC G gC0 (17 * i + 11) = .inl (G.2.1 0, 40, .inl (gC0 (17 * i + 11))) by simp only [eC, d11, n11]; rfl, gCst hi (by decide)]
    exact at_I (fun j hj => rfl) (h 8 _ rfl)
  have c12 : va_at G.2.2 vwCl (G.1 (17 * i + 12), eC G gC0 (17 * i + 12)) H := by
    rw [show eC G gC0 (17 * i + 12) = .inl (G.2.1 0, 40, .inl (gC0 (17 * i + 12))) by simp only [eC, d12, n12]; rfl, gCst hi (by decide)]
    exact at_I (fun j hj => rfl) (h 9 _ rfl)
  have c13 : va_at G.2.2 vwCl (G.1 (17 * i + 13), eC G gC0 (17 * i + 13)) H := by
    rw [show eC G gC0 (17 * i + 13) = .inl (G.2.1 0, 40, .inl (gC0 (17 * i + 13))) by simp only [eC, d13, n13]; rfl, gCst hi (by decide)]
    exact at_I (fun j hj => rfl) (h 10 _ rfl)
  have c14 : va_at G.2.2 vwCl (G.1 (17 * i + 14), eC G gC0 (17 * i + 14)) H := by
    rw [show eC G gC0 (17 * i + 14) = .inl (G.2.1 0, 40, .inl (gC0 (17 * i + 14))) by simp only [eC, d14, n14]; rfl, gCst hi (by decide)]
    exact at_I (fun j hj => rfl) (h 11 _ rfl)
  have c15 : va_at G.2.2 vwCl (G.1 (17 * i + 15), eC G gC0 (17 * i + 15)) H := by
    rw [show eC G gC0 (17 * i + 15) = .inl (G.2.1 0, 320, .inl (gC0 (17 * i + 15))) by simp only [eC, d15, n15]; rfl, gCst hi (by decide)]
    exact at_I (fun j hj => rfl) (h 12 _ rfl)
  have c16 : va_at G.2.2 vwCl (G.1 (17 * i + 16), eC G gC0 (17 * i + 16)) H := by
    rw [show eC G gC0 (17 * i + 16) = .inl (G.2.1 0, 320, .inl (gC0 (17 * i + 16))) by simp only [eC, d16, n16]; rfl, gCst hi (by decide)]
    exact at_I (fun j hj => rfl) (h 13 _ rfl)
  exact lt_s (lt_s (lt_s (lt_s (lt_s (lt_s (lt_s (lt_s (lt_s (lt_s (lt_s (lt_s (lt_s (lt_s (lt_s (lt_s (lt_s (lt_0) c0) c1) c2) c3) c4) c5) c6) c7) c8) c9) c10) c11) c12) c13) c14) c15) c16
theorem stc_all {G : LY} {H : Heap} (h : ∀ i, i < 9 → va_P G.2.2 vwCl (stL G (stA G i)) H) : ∀ k, k < 153 → va_at G.2.2 vwCl (G.1 k, eC G gC0 k) H := by
  intro k hk
  have h1 := stc (show k / 17 < 9 by omega) (h (k / 17) (by omega)) (k % 17) (Nat.mod_lt _ (by decide))
  have e : 17 * (k / 17) + k % 17 = k := by omega
  rw [e] at h1
  exact h1
set_option maxHeartbeats 4000000 in
set_option maxRecDepth 100000 in
theorem start_P {G : LY} {H : Heap} (h : va_P G.2.2 vwCl (srcL G) H) : va_P G.2.2 vwCl (wD G gC0) H := by
  unfold srcL at h
  obtain ⟨h2, hO⟩ := va_P_app.mp h
  unfold x6L at h2
  obtain ⟨hX, h3⟩ := va_P_app.mp h2
  obtain ⟨h4, h8⟩ := va_P_app.mp h3
  obtain ⟨h5, h7⟩ := va_P_app.mp h4
  obtain ⟨h0, hV⟩ := va_P_app.mp h5
  unfold svL at hV
  obtain ⟨hV0, g1⟩ := va_P_app.mp hV
  obtain ⟨g2, s6⟩ := va_P_app.mp g1
  obtain ⟨g3, s5⟩ := va_P_app.mp g2
  obtain ⟨g4, s4⟩ := va_P_app.mp g3
  obtain ⟨g5, s3⟩ := va_P_app.mp g4
  obtain ⟨s1, s2⟩ := va_P_app.mp g5
  have hS : ∀ i, i < 9 → va_P G.2.2 vwCl (stL G (stA G i)) H := lt_s (p := fun i => va_P G.2.2 vwCl (stL G (stA G i)) H) (lt_s (lt_s (lt_s (lt_s (lt_s (lt_s (lt_s (lt_s lt_0 h0) s1) s2) s3) s4) s5) s6) h7) h8
  have hC := stc_all hS
  have c153 : va_at G.2.2 vwCl (G.1 153, eC G gC0 153) H := hV0 0 _ rfl
  have c154 : va_at G.2.2 vwCl (G.1 154, eC G gC0 154) H := by
    show va_at G.2.2 vwCl (G.1 154, .inl (G.2.1 4, 6, .inr (.inr (.inr (.inr (fun j => some (G.1 (rX 154 j)))))))) H
    exact at_Q (fun j hj => by rcases (show j = 0 ∨ j = 1 ∨ j = 2 ∨ j = 3 ∨ j = 4 ∨ j = 5 by omega) with rfl | rfl | rfl | rfl | rfl | rfl <;> rfl) (hV0 1 _ rfl)
  have c155 : va_at G.2.2 vwCl (G.1 155, eC G gC0 155) H := by
    show va_at G.2.2 vwCl (G.1 155, .inl (G.2.1 4, 2, .inr (.inr (.inr (.inr (fun j => some (G.1 (rX 155 j)))))))) H
    exact at_Q (fun j hj => by rcases (show j = 0 ∨ j = 1 by omega) with rfl | rfl <;> rfl) (hX 1 _ rfl)
  have c156 : va_at G.2.2 vwCl (G.1 156, eC G gC0 156) H := at_I (fun _ _ => rfl) (hX 2 _ rfl)
  have c157 : va_at G.2.2 vwCl (G.1 157, eC G gC0 157) H := hX 3 _ rfl
  have c158 : va_at G.2.2 vwCl (G.1 158, eC G gC0 158) H := at_I (fun _ _ => rfl) (hX 4 _ rfl)
  have c159 : va_at G.2.2 vwCl (G.1 159, eC G gC0 159) H := at_I (fun _ _ => rfl) (hX 5 _ rfl)
  have c160 : va_at G.2.2 vwCl (G.1 160, eC G gC0 160) H := hX 0 _ rfl
  have hC2 : ∀ k, k < 161 → va_at G.2.2 vwCl (G.1 k, eC G gC0 k) H := lt_s (p := fun k => va_at G.2.2 vwCl (G.1 k, eC G gC0 k) H) (lt_s (lt_s (lt_s (lt_s (lt_s (lt_s (lt_s hC c153) c154) c155) c156) c157) c158) c159) c160
  unfold wD
  refine va_P_app.mpr ⟨fun k q hk => ?_, fun k q hk => ?_⟩
  · have h1 : k < 161 := by
      have := (List.getElem?_eq_some_iff.mp hk).1
      unfold wC at this
      rw [List.length_map, List.length_range] at this
      exact this
    have e1 := (map_at (fun k => (G.1 k, eC G gC0 k)) h1).symm.trans hk
    rw [← Option.some.inj e1]
    exact hC2 k h1
  · match k, hk with
    | 0, hk =>
      rw [← Option.some.inj hk]
      exact hO 0 _ rfl
    | k + 1, hk => cases hk
def ixSt (i : Nat) : List Nat := [0, 1, 5, 6, 7, 8, 9, 10, 11, 12, 13, 14, 15, 16, 2, 3, 4].map (fun r => 17 * i + r)
def ixS : List Nat := ([160, 155, 156, 157, 158, 159] ++ (ixSt 0 ++ ([153, 154] ++ (ixSt 1 ++ ixSt 2 ++ ixSt 3 ++ ixSt 4 ++ ixSt 5 ++ ixSt 6)) ++ ixSt 7 ++ ixSt 8)) ++ [161]
def ixD : List Nat := List.range 161 ++ [161]
theorem ix_perm : ixS.Perm ixD := by decide +kernel
theorem st_ad (G : LY) (i : Nat) : (stL G (stA G i)).map Prod.fst = (ixSt i).map G.1 := rfl
theorem src_ad (G : LY) : (srcL G).map Prod.fst = ixS.map G.1 := by
  unfold srcL x6L svL ixS
  simp only [List.map_append]
  rw [st_ad G 0, st_ad G 7, st_ad G 8, st_ad G (0 + 1), st_ad G (1 + 1), st_ad G (2 + 1), st_ad G (3 + 1), st_ad G (4 + 1), st_ad G (5 + 1)]
  rfl
theorem dst_ad (G : LY) : (wD G gC0).map Prod.fst = ixD.map G.1 := by
  unfold wD ixD wC
  rw [List.map_append, List.map_map, List.map_append]
  rfl
theorem start_D {G : LY} {A : Nat → Prop} (h : va_D A (srcL G)) : va_D A (wD G gC0) := by
  rw [va_D_iff] at h ⊢
  have hp : ((srcL G).map Prod.fst).Perm ((wD G gC0).map Prod.fst) := by
    rw [src_ad, dst_ad]
    exact ix_perm.map _
  refine ⟨hp.nodup_iff.mp h.1, fun q hq => ?_⟩
  have h1 : q.1 ∈ (srcL G).map Prod.fst := hp.mem_iff.mpr (List.mem_map.mpr ⟨q, hq, rfl⟩)
  obtain ⟨q', hq', e⟩ := List.mem_map.mp h1
  rw [← e]
  exact h.2 q' hq'

