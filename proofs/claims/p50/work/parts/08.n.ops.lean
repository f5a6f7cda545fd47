/-! the pure part: begin, read, write, abort -/
def StO (bd' : Int) (g m : Mem) (cl rf : Option (Int32 × Mem)) : Prop := ∃ v g' m', cl = some (v, g') ∧ rf = some (v, m') ∧ Cls g' 0 (m' 1) ∧ Inv bd' (m' 1) ∧ (∀ k, 17 ≤ k → g' k = g k) ∧ ∀ k, k ≠ 1 → m' k = m k
section PZ
variable {bd bd' : Int} {g g' m : Mem} {r r' : Nat → Int32} {n t k s K T B : Nat}
theorem cla_keep (h : ClA g 0 r) (eg : ∀ k, k < 5 → g' k = g k) (er : ∀ j, j < 25 → j ≠ 3 → r' j = r j) : ClA g' 0 r' := by
  obtain ⟨a1, a2, a3, a4, a5⟩ := h
  refine ⟨by rw [eg 0 (by decide), er 0 (by decide) (by decide)]; exact a1, by rw [eg 0 (by decide), er 1 (by decide) (by decide)]; exact a2, by rw [eg 0 (by decide), er 2 (by decide) (by decide)]; exact a3, fun s hs f hf => ?_, fun s hs => ?_⟩
  · rw [eg _ (by omega)]
    show _ = r' (7 + 6 * s + f)
    rw [er _ (by omega) (by omega)]
    exact a4 s hs f hf
  · rw [eg _ (by omega), er _ (by omega) (by omega)]
    exact a5 s hs
theorem e8_q {i : Nat} : nI B * (8 : Int32) + nI i = nI (B * 8 + i) := by
  show nI B * nI 8 + nI i = _
  rw [pk_mul, nI_add]
theorem k_bv {i : Nat} {v : Int32} (h : B * 8 + i < 320) : sX4_bufferValue g 9 (nI B) (nI i) v = some (mput g 15 (B * 8 + i) v) := by
  unfold sX4_bufferValue
  rw [e8_q, ix_n h (by decide), let_s, nI_clamp (by omega)]
theorem k_rv {i : Nat} {v : Int32} (h : B * 8 + i < 320) : sX4_recordVersion g 9 (nI B) (nI i) v = some (mput g 16 (B * 8 + i) v) := by
  unfold sX4_recordVersion
  rw [e8_q, ix_n h (by decide), let_s, nI_clamp (by omega)]
theorem k_add52 (hn : 10010 ≤ n) (hB : B < 40) : ∃ g', sX4_add_52 n n g 9 (nI B) 0 = some (nI B, g') ∧ (∀ k, k ≠ 15 → k ≠ 16 → g' k = g k) ∧ (∀ k, k < 8 → g' 15 (B * 8 + k) = -1 ∧ g' 16 (B * 8 + k) = -1) ∧ ∀ j, (j < B * 8 ∨ B * 8 + 8 ≤ j) → g' 15 j = g 15 j ∧ g' 16 j = g 16 j := by
  have key := lp_iv (fun f s i => sX4_add_52 n f s 9 (nI B) i) 8 (fun s => some (nI B, s)) (fun i s => (∀ k, k ≠ 15 → k ≠ 16 → s k = g k) ∧ (∀ k, k < i → s 15 (B * 8 + k) = -1 ∧ s 16 (B * 8 + k) = -1) ∧ ∀ j, (j < B * 8 ∨ B * 8 + 8 ≤ j) → s 15 j = g 15 j ∧ s 16 j = g 16 j) (fun f i s hi hp => by
      obtain ⟨p1, p2, p3⟩ := hp
      have hle : ¬ (8 : Int32) ≤ nI i := nI_ge (b := 8) hi (by decide)
      refine ⟨mput (mput s 15 (B * 8 + i) (-1)) 16 (B * 8 + i) (-1), ⟨fun k h1 h2 => by rw [mput_ne h2, mput_ne h1]; exact p1 k h1 h2, fun k hk => ?_, fun j hj => ?_⟩, ?_⟩
      · by_cases z : k = i
        · rw [z]; exact ⟨by rw [mput_ne (by decide), mp_eq], mp_eq⟩
        · rw [mput_ne (show (15 : Nat) ≠ 16 by decide), mp_at (by omega), mp_at (by omega), mput_ne (show (16 : Nat) ≠ 15 by decide)]
          exact p2 k (by omega)
      · rw [mput_ne (show (15 : Nat) ≠ 16 by decide), mp_at (by omega), mp_at (by omega), mput_ne (show (16 : Nat) ≠ 15 by decide)]
        exact p3 j hj
      · simp only [sX4_add_52, hle, if_false, k_bv (show B * 8 + i < 320 by omega), k_rv (show B * 8 + i < 320 by omega), bi_s, nI_1]) (fun f s hp => by
      have hle : (8 : Int32) ≤ nI 8 := nI_le (Nat.le_refl _) (by decide)
      simp only [sX4_add_52, hle, if_true]) 8 0 (by omega) n (by omega) g ⟨fun k _ _ => rfl, fun k hk => by omega, fun j _ => ⟨rfl, rfl⟩⟩
  obtain ⟨s, ⟨p1, p2, p3⟩, p4⟩ := key
  exact ⟨s, p4, p1, p2, p3⟩
theorem r_begins28 (hn : 10010 ≤ n) (hB : B < 40) (h3 : m 1 3 = nI B) : ∃ m', sX7_begins_28 n n m ((21 : Int32) * nI B) 2 = some (nI B, m') ∧ (∀ k, k ≠ 1 → m' k = m k) ∧ m' 1 3 = nI (B + 1) ∧ (∀ f, 2 ≤ f → f < 21 → m' 1 (25 + 21 * B + f) = -1) ∧ ∀ j, j ≠ 3 → (j < 25 + 21 * B + 2 ∨ 25 + 21 * B + 21 ≤ j) → m' 1 j = m 1 j := by
  have key := lp_iv (fun f s i => sX7_begins_28 n f s ((21 : Int32) * nI B) i) 21 (fun s => some (s 1 3 + 1 - 1, mput s 1 3 (s 1 3 + 1))) (fun i s => 2 ≤ i ∧ (∀ k, k ≠ 1 → s k = m k) ∧ (∀ f, 2 ≤ f → f < i → s 1 (25 + 21 * B + f) = -1) ∧ ∀ j, (j < 25 + 21 * B + 2 ∨ 25 + 21 * B + 21 ≤ j) → s 1 j = m 1 j) (fun f i s hi hp => by
      obtain ⟨p0, p1, p2, p3⟩ := hp
      have hle : ¬ (21 : Int32) ≤ nI i := nI_ge (b := 21) hi (by decide)
      refine ⟨mput s 1 (25 + 21 * B + i) (-1), ⟨by omega, fun k hk => by rw [mput_ne hk]; exact p1 k hk, fun f h1 h2 => ?_, fun j hj => ?_⟩, ?_⟩
      · by_cases z : f = i
        · rw [z, mp_eq]
        · rw [mp_at (by omega)]; exact p2 f h1 (by omega)
      · by_cases z : j = 25 + 21 * B + i
        · rw [z, mp_eq]
          exfalso
          omega
        · rw [mp_at z]; exact p3 j hj
      · simp only [sX7_begins_28, hle, if_false, lay_q (m := s) (v := -1) (l21 (T := B) (F := i)) hB hi, bi_s, nI_1]) (fun f s hp => by
      have hle : (21 : Int32) ≤ nI 21 := nI_le (Nat.le_refl _) (by decide)
      simp only [sX7_begins_28, hle, if_true, r_i3, c_3, let_s, mp_eq]) 19 2 (by omega) n (by omega) m ⟨by omega, fun k _ => rfl, fun f h1 h2 => by omega, fun j _ => rfl⟩
  obtain ⟨s, ⟨-, p1, p2, p3⟩, p4⟩ := key
  have e3 : s 1 3 = nI B := (p3 3 (by omega)).trans h3
  rw [e3, nI_1, nI_pred] at p4
  refine ⟨_, p4, fun k hk => by rw [mput_ne hk]; exact p1 k hk, mp_eq, fun f h1 h2 => ?_, fun j h1 h2 => ?_⟩
  · rw [mp_at (by omega)]; exact p2 f h1 h2
  · rw [mp_at h1]; exact p3 j h2
theorem op_begin (hn : 10010 ≤ n) (hC : Cls g 0 (m 1)) (hI : Inv bd (m 1)) (h40 : nB (m 1) < 40) (hs : s < 3) : StO bd g m (sX2_beginAt n g 0 (nI s)) (sX7_begins n m (nI s)) := by
  obtain ⟨B, hB⟩ : ∃ z, z = nB (m 1) := ⟨_, rfl⟩
  rw [← hB] at h40
  have hb : g 9 0 = nI B := by rw [hB]; exact k_b hC hI
  have h3 : m 1 3 = nI B := by rw [hB]; exact hI.r3
  have hcl : (nI B).toNatClampNeg = B := nI_clamp (by omega)
  obtain ⟨G, hG⟩ : ∃ z, z = mput (mput (mput (mput (mput (mput g 9 0 (nI (B + 1))) 10 B (nI s)) 11 B 0) 12 B (-1)) 13 B (-1)) 14 B (-1) := ⟨_, rfl⟩
  obtain ⟨g', a1, a2, a3, a4⟩ := k_add52 (g := G) hn h40
  obtain ⟨M, hM⟩ : ∃ z, z = mput (mput m 1 (25 + 21 * B + 0) (nI s)) 1 (25 + 21 * B + 1) 0 := ⟨_, rfl⟩
  have hM3 : M 1 3 = nI B := by rw [hM, mp_at (by omega), mp_at (by omega), h3]
  obtain ⟨m', b1, b2, b3, b4, b5⟩ := r_begins28 hn h40 hM3
  have gk : ∀ k, k < 9 ∨ 17 ≤ k → g' k = g k := fun k hk => by
    rw [a2 k (by omega) (by omega), hG, mput_ne (by omega), mput_ne (by omega), mput_ne (by omega), mput_ne (by omega), mput_ne (by omega), mput_ne (by omega)]
  have mk' : ∀ k, k ≠ 1 → m' k = m k := fun k hk => by rw [b2 k hk, hM, mput_ne hk, mput_ne hk]
  have mj : ∀ j, j ≠ 3 → (j < 25 + 21 * B ∨ 25 + 21 * B + 21 ≤ j) → m' 1 j = m 1 j := fun j h1 h2 => by rw [b5 j h1 (by omega), hM, mp_at (by omega), mp_at (by omega)]
  have t0 : TX (m' 1) B 0 = nI s := by
    show m' 1 (25 + 21 * B + 0) = _
    rw [b5 _ (by omega) (by omega), hM, mp_at (by omega), mp_eq]
  have t1 : TX (m' 1) B 1 = 0 := by
    show m' 1 (25 + 21 * B + 1) = _
    rw [b5 _ (by omega) (by omega), hM, mp_eq]
  have t2 : ∀ f, 2 ≤ f → f < 21 → TX (m' 1) B f = -1 := b4
  have nB' : nB (m' 1) = B + 1 := by
    unfold nB
    rw [b3, nI_clamp (by omega)]
  have hR : Row1 (m 1) (m' 1) B := fun t f ht hf hne => mj _ (by omega) (by omega)
  have ho : ∀ t, t < nB (m' 1) → t ≠ B → t < nB (m 1) := fun t h1 h2 => by omega
  have n1 : TX (m' 1) B 1 ≠ 1 := by rw [t1]; decide
  have n2 : TX (m' 1) B 1 ≠ 2 := by rw [t1]; decide
  have hsv : SV (m 1) (m' 1) := sv_row (by omega) (by omega) ho hR n2 (fun z => by omega)
  refine ⟨nI B, g', m', ?_, ?_, ?_, ?_, fun k hk => gk k (Or.inr hk), mk'⟩
  · have ix : ∀ {α : Type} {x : Option α}, (sIdx (nI B) 40 fun _ => x) = x := ix40 h40
    simp only [sX2_beginAt, sX4_add, Nat.zero_add, Nat.reduceAdd, let_s, hb, ix, hcl, nI_1, ← hG]
    rw [a1, bi2_s]
  · unfold sX7_begins
    rw [r_i3, c_3, h3, lay_q (F := 0) (l21n 0 0 rfl) h40 (by decide), bi_s, lay_q (F := 1) (l21n 1 1 rfl) h40 (by decide), bi_s, ← hM]
    exact b1
  · refine cls_row hC hsv (by omega) ho hR (cla_keep hC.1 (fun k hk => gk k (by omega)) (fun j h1 h2 => mj j h2 (by omega))) ?_ (gk 6 (by decide)) (gk 7 (by decide)) (gk 8 (by decide)) (fun t hne => ?_) (fun _ => ?_) (fun _ k hk => ?_)
    · rw [a2 9 (by decide) (by decide), hG, mput_ne (by decide), mput_ne (by decide), mput_ne (by decide), mput_ne (by decide), mput_ne (by decide), mp_eq, b3]
    · refine ⟨?_, ?_, ?_, ?_, ?_, fun k hk => ?_⟩
      · rw [a2 10 (by decide) (by decide), hG, mput_ne (by decide), mput_ne (by decide), mput_ne (by decide), mput_ne (by decide), mp_at hne, mput_ne (by decide)]
      · rw [a2 11 (by decide) (by decide), hG, mput_ne (by decide), mput_ne (by decide), mput_ne (by decide), mp_at hne, mput_ne (by decide), mput_ne (by decide)]
      · rw [a2 12 (by decide) (by decide), hG, mput_ne (by decide), mput_ne (by decide), mp_at hne, mput_ne (by decide), mput_ne (by decide), mput_ne (by decide)]
      · rw [a2 13 (by decide) (by decide), hG, mput_ne (by decide), mp_at hne, mput_ne (by decide), mput_ne (by decide), mput_ne (by decide), mput_ne (by decide)]
      · rw [a2 14 (by decide) (by decide), hG, mp_at hne, mput_ne (by decide), mput_ne (by decide), mput_ne (by decide), mput_ne (by decide), mput_ne (by decide)]
      · obtain ⟨q1, q2⟩ := a4 (t * 8 + k) (by omega)
        have o15 : G 15 = g 15 := by rw [hG, mput_ne (by decide), mput_ne (by decide), mput_ne (by decide), mput_ne (by decide), mput_ne (by decide), mput_ne (by decide)]
        have o16 : G 16 = g 16 := by rw [hG, mput_ne (by decide), mput_ne (by decide), mput_ne (by decide), mput_ne (by decide), mput_ne (by decide), mput_ne (by decide)]
        rw [q1, q2, o15, o16]
        exact ⟨rfl, rfl⟩
    · refine ⟨?_, ?_, ?_, ?_, ?_, fun k hk => ?_⟩
      · rw [a2 10 (by decide) (by decide), hG, mput_ne (by decide), mput_ne (by decide), mput_ne (by decide), mput_ne (by decide), mp_eq, t0]
      · rw [a2 11 (by decide) (by decide), hG, mput_ne (by decide), mput_ne (by decide), mput_ne (by decide), mp_eq, t1]
      · rw [a2 12 (by decide) (by decide), hG, mput_ne (by decide), mput_ne (by decide), mp_eq, t2 2 (by decide) (by decide)]
      · rw [a2 13 (by decide) (by decide), hG, mput_ne (by decide), mp_eq, t2 3 (by decide) (by decide)]
      · rw [a2 14 (by decide) (by decide), hG, mp_eq, t2 4 (by decide) (by decide)]
      · rw [(a3 k hk).1, t2 (5 + k) (by omega) (by omega)]
    · exact Or.inl ⟨(a3 k hk).2, t2 (13 + k) (by omega) (by omega)⟩
  · refine inv_row hI (Int.le_refl _) hI.bdl (by rw [b3, nB']) (by omega) ho hR (mj 0 (by decide) (by omega)) (mj 1 (by decide) (by omega)) (fun s hs f hf => mj _ (by omega) (by omega)) (fun s hs => by rw [mj (4 + s) (by omega) (by omega)]; exact hI.asg hs) (fun _ => ?_) (lk_row hI.lk (by omega) ho hR n1 n2)
    refine ⟨⟨s, hs, t0⟩, Or.inl t1, fun z => ?_, fun _ => ⟨t2 2 (by decide) (by decide), t2 3 (by decide) (by decide)⟩, fun _ => t2 4 (by decide) (by decide), fun k hk => ⟨Or.inl (t2 (5 + k) (by omega) (by omega)), Or.inl (t2 (13 + k) (by omega) (by omega))⟩⟩
    rcases z with z | z
    · exact absurd z n1
    · exact absurd z n2
/-! one field of a row -/
theorem txok_up {F : Nat} {v : Int32} (h : txok bd r t) (hF : 5 ≤ F) (hF2 : F < 21) (hv : v = -1 ∨ 0 ≤ v.toInt) : txok bd (upd r (25 + 21 * t + F) v) t := by
  have e : ∀ f, f < 5 → TX (upd r (25 + 21 * t + F) v) t f = TX r t f := fun f hf => by rw [TX_up hF2 (by omega), if_neg (by omega)]
  obtain ⟨x1, x2, x3, x4, x5, x6⟩ := h
  unfold txok
  rw [e 0 (by decide), e 1 (by decide), e 2 (by decide), e 3 (by decide), e 4 (by decide)]
  refine ⟨x1, x2, x3, x4, x5, fun k hk => ⟨?_, ?_⟩⟩
  · rw [TX_up hF2 (by omega)]
    split
    · exact hv
    · exact (x6 k hk).1
  · rw [TX_up hF2 (by omega)]
    split
    · exact hv
    · exact (x6 k hk).2
theorem row_up {F : Nat} {v : Int32} (hF : F < 21) : Row1 r (upd r (25 + 21 * T + F) v) T := fun t f ht hf hne => by rw [TX_up hF hf, if_neg (fun z => hne z.1)]
theorem inv_up {F : Nat} {v : Int32} (h : Inv bd r) (hT : T < nB r) (hF2 : F < 21) (ht : txok bd (upd r (25 + 21 * T + F) v) T) (n1 : TX (upd r (25 + 21 * T + F) v) T 1 ≠ 1) (n2 : TX (upd r (25 + 21 * T + F) v) T 1 ≠ 2) : Inv bd (upd r (25 + 21 * T + F) v) := by
  have hb := h.b40
  have eB : nB (upd r (25 + 21 * T + F) v) = nB r := nB_up
  have ho : ∀ t, t < nB (upd r (25 + 21 * T + F) v) → t ≠ T → t < nB r := fun t q _ => by rw [eB] at q; exact q
  refine inv_row h (Int.le_refl _) h.bdl (by rw [lo_up (by decide), eB]; exact h.r3) (by rw [eB]; exact hb) ho (row_up hF2) (lo_up (by decide)) (lo_up (by decide)) (fun s hs f hf => CK_up hs hf) (fun s hs => by rw [lo_up (by omega)]; exact h.asg hs) (fun _ => ht) (lk_row h.lk (by rw [eB]; exact hb) ho (row_up hF2) n1 n2)
theorem sv_up {F : Nat} {v : Int32} (h : Inv bd r) (hT : T < nB r) (hF2 : F < 21) (n2 : TX (upd r (25 + 21 * T + F) v) T 1 ≠ 2) (n0 : TX r T 1 ≠ 2) : SV r (upd r (25 + 21 * T + F) v) := by
  have hb := h.b40
  have eB : nB (upd r (25 + 21 * T + F) v) = nB r := nB_up
  exact sv_row (by rw [eB]; exact Nat.le_refl _) (by rw [eB]; exact hb) (fun t q _ => by rw [eB] at q; exact q) (row_up hF2) n2 (fun _ => n0)
theorem op_write (hn : 10010 ≤ n) (hC : Cls g 0 (m 1)) (hI : Inv bd (m 1)) (ht : t < nB (m 1)) (h0 : TX (m 1) t 1 = 0) (hk : k < 8) {x : Int32} (hx : 0 ≤ x.toInt) : StO bd g m (sX2_writeKey n g 0 (nI t) (nI k) x) (sX7_writes n m (nI t) (nI k) x) := by
  have hb := hI.b40
  have e1 : TX (upd (m 1) (25 + 21 * t + (5 + k)) x) t 1 = TX (m 1) t 1 := by rw [TX_up (by omega) (by decide), if_neg (by omega)]
  have n1 : TX (upd (m 1) (25 + 21 * t + (5 + k)) x) t 1 ≠ 1 := by rw [e1, h0]; decide
  have n2 : TX (upd (m 1) (25 + 21 * t + (5 + k)) x) t 1 ≠ 2 := by rw [e1, h0]; decide
  have hI' : Inv bd (upd (m 1) (25 + 21 * t + (5 + k)) x) := inv_up hI ht (by omega) (txok_up (hI.tx ht) (by omega) (by omega) (Or.inr hx)) n1 n2
  have hsv : SV (m 1) (upd (m 1) (25 + 21 * t + (5 + k)) x) := sv_up hI ht (by omega) n2 (by rw [h0]; decide)
  have eB : nB (upd (m 1) (25 + 21 * t + (5 + k)) x) = nB (m 1) := nB_up
  have hC' : Cls (mput g 15 (t * 8 + k) x) 0 (upd (m 1) (25 + 21 * t + (5 + k)) x) := by
    refine cls_row (T := t) hC hsv (by rw [eB]; exact hb) (fun u q _ => by rw [eB] at q; exact q) (row_up (by omega)) (cla_keep hC.1 (fun k hk => mput_ne (by omega)) (fun j h1 h2 => lo_up h1)) ?_ (mput_ne (by decide)) (mput_ne (by decide)) (mput_ne (by decide)) (fun u hne => ?_) (fun _ => ?_) (fun _ k' hk' => ?_)
    · rw [mput_ne (by decide), lo_up (by decide)]; exact (k_b hC hI).trans hI.r3.symm
    · rw [mput_ne (by decide), mput_ne (by decide), mput_ne (by decide), mput_ne (by decide), mput_ne (by decide)]
      refine ⟨rfl, rfl, rfl, rfl, rfl, fun k' hk' => ⟨?_, ?_⟩⟩
      · rw [mp_at (by omega)]
      · rw [mput_ne (by decide)]
    · rw [mput_ne (by decide), mput_ne (by decide), mput_ne (by decide), mput_ne (by decide), mput_ne (by decide)]
      rw [TX_up (by omega) (by decide), if_neg (by omega), TX_up (by omega) (by decide), if_neg (by omega), TX_up (by omega) (by decide), if_neg (by omega), TX_up (by omega) (by decide), if_neg (by omega), TX_up (by omega) (by decide), if_neg (by omega)]
      refine ⟨k_f0 hC ht, k_f1 hC ht, k_f2 hC ht, k_f3 hC ht, k_f4 hC ht, fun k' hk' => ?_⟩
      rw [TX_up (by omega) (by omega)]
      by_cases z : k' = k
      · rw [z, mp_eq, if_pos ⟨rfl, rfl⟩]
      · rw [mp_at (by omega), if_neg (by omega)]
        have := (hC.2.1.2 t ht).2.2.2.2.2 k' hk'
        simpa using this
    · rw [mput_ne (by decide), TX_up (by omega) (by omega), if_neg (by omega)]
      have := hC.2.2.2 t ht k' hk'
      simpa using this
  refine ⟨wk (upd (m 1) (25 + 21 * t + (5 + k)) x) t, mput g 15 (t * 8 + k) x, mput m 1 (25 + 21 * t + (5 + k)) x, ?_, ?_, by rw [p_eq]; exact hC', by rw [p_eq]; exact hI', fun j hj => mput_ne (by omega), fun j hj => mput_ne hj⟩
  · unfold sX2_writeKey
    simp only [Nat.zero_add]
    rw [k_bv (by omega), bi_s, k_wk hn hI' hC' (by rw [eB]; exact ht), bi_s]
  · unfold sX7_writes
    have el : (21 : Int32) * nI t + (5 : Int32) + nI k = nI (21 * t + (5 + k)) := by
      rw [show (21 : Int32) * nI t + (5 : Int32) = nI (21 * t + 5) from l21, nI_add, Nat.add_assoc]
    rw [lay_q el (by omega) (by omega), bi_s]
    have := r_wk (m := mput m 1 (25 + 21 * t + (5 + k)) x) hn (by rw [p_eq]; exact hI') (by rw [p_eq, eB]; exact ht)
    rw [this, bi_s, p_eq]
theorem op_read (hn : 10010 ≤ n) (hC : Cls g 0 (m 1)) (hI : Inv bd (m 1)) (ht : t < nB (m 1)) (h0 : TX (m 1) t 1 = 0) (hk : k < 8) : StO bd g m (sX2_readKey g 0 (nI t) (nI k)) (sX7_reads n m (nI t) (nI k)) := by
  have hb := hI.b40
  unfold sX2_readKey sX7_reads
  simp only [Nat.zero_add]
  rw [k_wr hI hC ht hk, bi_s, r_wr hI ht hk, bi_s, b2_ite, b2_ite]
  cases ew : wr (m 1) t k with
  | true =>
    rw [if_pos rfl, if_pos rfl, k_bf hI hC ht hk, bi_s, r_of5 (by omega) hk, bi_s]
    exact ⟨_, g, m, rfl, rfl, hC, hI, fun _ _ => rfl, fun _ _ => rfl⟩
  | false =>
    rw [if_neg (by decide), if_neg (by decide), k_rd hI hC ht hk, bi_s, r_rd hI ht hk, bi_s, b2_ite, b2_ite]
    have hV := hC.2.2.1 k hk
    cases er : rd (m 1) t k with
    | true =>
      obtain ⟨i, i1, i2, i3⟩ := rd_ix hI hC ht hk er
      rw [if_pos rfl, if_pos rfl, k_rc hI ht hk, bi_s, i2, k_vaOf hI hk i1, bi_s, r_of13 (by omega) hk, bi_s, i3]
      obtain ⟨v, v1, v2⟩ := r_value hn hI hk (g 7 (k * 41 + i))
      rw [v2, bi_s, WV_uq hV v1 (WV_at hV i1)]
      exact ⟨_, g, m, rfl, rfl, hC, hI, fun _ _ => rfl, fun _ _ => rfl⟩
    | false =>
      rw [if_neg (by decide), if_neg (by decide), k_newest hI hV hk, bi_s, k_rv (by omega), bi_s, r_newest hn hI hV hk, bi_s]
      obtain ⟨v, hv⟩ : ∃ z, z = g 7 (k * 41 + cv (m 1) k) := ⟨_, rfl⟩
      rw [← hv]
      have hv0 : 0 ≤ v.toInt := by rw [hv]; exact vt_nn hV (Nat.le_refl _)
      have el : (21 : Int32) * nI t + (13 : Int32) + nI k = nI (21 * t + (13 + k)) := by
        rw [show (21 : Int32) * nI t + (13 : Int32) = nI (21 * t + 13) from l21, nI_add, Nat.add_assoc]
      have e1 : TX (upd (m 1) (25 + 21 * t + (13 + k)) v) t 1 = TX (m 1) t 1 := by rw [TX_up (by omega) (by decide), if_neg (by omega)]
      have n1 : TX (upd (m 1) (25 + 21 * t + (13 + k)) v) t 1 ≠ 1 := by rw [e1, h0]; decide
      have n2 : TX (upd (m 1) (25 + 21 * t + (13 + k)) v) t 1 ≠ 2 := by rw [e1, h0]; decide
      have hI' : Inv bd (upd (m 1) (25 + 21 * t + (13 + k)) v) := inv_up hI ht (by omega) (txok_up (hI.tx ht) (by omega) (by omega) (Or.inr hv0)) n1 n2
      have hsv : SV (m 1) (upd (m 1) (25 + 21 * t + (13 + k)) v) := sv_up hI ht (by omega) n2 (by rw [h0]; decide)
      have eB : nB (upd (m 1) (25 + 21 * t + (13 + k)) v) = nB (m 1) := nB_up
      have hC' : Cls (mput g 16 (t * 8 + k) (nI (cv (m 1) k))) 0 (upd (m 1) (25 + 21 * t + (13 + k)) v) := by
        refine cls_row (T := t) hC hsv (by rw [eB]; exact hb) (fun u q _ => by rw [eB] at q; exact q) (row_up (by omega)) (cla_keep hC.1 (fun k hk => mput_ne (by omega)) (fun j h1 h2 => lo_up h1)) ?_ (mput_ne (by decide)) (mput_ne (by decide)) (mput_ne (by decide)) (fun u hne => ?_) (fun _ => ?_) (fun _ k' hk' => ?_)
        · rw [mput_ne (by decide), lo_up (by decide)]; exact (k_b hC hI).trans hI.r3.symm
        · rw [mput_ne (by decide), mput_ne (by decide), mput_ne (by decide), mput_ne (by decide), mput_ne (by decide)]
          refine ⟨rfl, rfl, rfl, rfl, rfl, fun k' hk' => ⟨?_, ?_⟩⟩
          · rw [mput_ne (by decide)]
          · rw [mp_at (by omega)]
        · rw [mput_ne (by decide), mput_ne (by decide), mput_ne (by decide), mput_ne (by decide), mput_ne (by decide)]
          rw [TX_up (by omega) (by decide), if_neg (by omega), TX_up (by omega) (by decide), if_neg (by omega), TX_up (by omega) (by decide), if_neg (by omega), TX_up (by omega) (by decide), if_neg (by omega), TX_up (by omega) (by decide), if_neg (by omega)]
          refine ⟨k_f0 hC ht, k_f1 hC ht, k_f2 hC ht, k_f3 hC ht, k_f4 hC ht, fun k' hk' => ?_⟩
          rw [mput_ne (by decide), TX_up (by omega) (by omega), if_neg (by omega)]
          have := (hC.2.1.2 t ht).2.2.2.2.2 k' hk'
          simpa using this
        · by_cases z : k' = k
          · subst z
            refine Or.inr ⟨cv (m 1) k', Nat.le_refl _, mp_eq, ?_⟩
            rw [TX_up (by omega) (by omega), if_pos ⟨rfl, rfl⟩, hv]
          · rw [mp_at (by omega), TX_up (by omega) (by omega), if_neg (by omega)]
            have := hC.2.2.2 t ht k' hk'
            simpa using this
      have hkk := hsv.ecv hk
      have hV' := hC'.2.2.1 k hk
      rw [lay_q el (by omega) (by omega), bi_s]
      have hw : sX4_recordedVersion (mput g 16 (t * 8 + k) (nI (cv (m 1) k))) 9 (nI t) (nI k) = some (nI (cv (m 1) k)) := by
        rw [k_rc hI ht hk, mp_eq]
      have hw2 : sX5_valueOfVersion (mput g 16 (t * 8 + k) (nI (cv (m 1) k))) 5 (nI k) (nI (cv (m 1) k)) = some (g 8 (k * 41 + cv (m 1) k)) := by
        rw [k_vaOf hI hk (Nat.le_refl _), mput_ne (by decide)]
      rw [hw, bi_s, hw2, bi_s, r_of13 (by omega) hk, bi_s, p_eq, TX_up (by omega) (by omega), if_pos ⟨rfl, rfl⟩]
      obtain ⟨w, w1, w2⟩ := r_value (m := mput m 1 (25 + 21 * t + (13 + k)) v) hn (by rw [p_eq]; exact hI') hk v
      rw [p_eq] at w1
      have hat : WV (upd (m 1) (25 + 21 * t + (13 + k)) v) k v (g 8 (k * 41 + cv (m 1) k)) := by
        have := WV_at (i := cv (m 1) k) hV' (by rw [hkk]; exact Nat.le_refl _)
        rw [mput_ne (by decide), mput_ne (by decide), ← hv] at this
        exact this
      rw [w2, bi_s, WV_uq hV' w1 hat]
      exact ⟨_, _, _, rfl, rfl, by rw [p_eq]; exact hC', by rw [p_eq]; exact hI', fun j hj => mput_ne (by omega), fun j hj => mput_ne hj⟩
theorem op_abort (hn : 10010 ≤ n) (hC : Cls g 0 (m 1)) (hI : Inv bd (m 1)) (ht : t < nB (m 1)) (h0 : TX (m 1) t 1 = 0) : ∃ g' m', sX2_makeAborted n g 0 (nI t) = some (wk (m' 1) t, g') ∧ sX7_lays m ((21 : Int32) * nI t + (1 : Int32)) 3 = some m' ∧ Cls g' 0 (m' 1) ∧ Inv bd (m' 1) ∧ (∀ k, 17 ≤ k → g' k = g k) ∧ (∀ k, k ≠ 1 → m' k = m k) ∧ t < nB (m' 1) := by
  have hb := hI.b40
  have e1 : TX (upd (m 1) (25 + 21 * t + 1) 3) t 1 = 3 := by rw [TX_up (by omega) (by decide), if_pos ⟨rfl, rfl⟩]
  have eo : ∀ f, f < 21 → f ≠ 1 → TX (upd (m 1) (25 + 21 * t + 1) 3) t f = TX (m 1) t f := fun f hf hne => by rw [TX_up (by omega) hf, if_neg (by omega)]
  have n1 : TX (upd (m 1) (25 + 21 * t + 1) 3) t 1 ≠ 1 := by rw [e1]; decide
  have n2 : TX (upd (m 1) (25 + 21 * t + 1) 3) t 1 ≠ 2 := by rw [e1]; decide
  obtain ⟨x1, x2, x3, x4, x5, x6⟩ := hI.tx ht
  have hI' : Inv bd (upd (m 1) (25 + 21 * t + 1) 3) := by
    refine inv_up hI ht (by omega) ?_ n1 n2
    unfold txok
    rw [e1, eo 0 (by decide) (by decide), eo 2 (by decide) (by decide), eo 3 (by decide) (by decide), eo 4 (by decide) (by decide)]
    refine ⟨x1, Or.inr (Or.inr (Or.inr rfl)), fun z => ?_, fun _ => x4 (Or.inl h0), fun _ => x5 (by rw [h0]; decide), fun k hk => by rw [eo _ (by omega) (by omega), eo _ (by omega) (by omega)]; exact x6 k hk⟩
    rcases z with z | z
    · exact absurd z (by decide)
    · exact absurd z (by decide)
  have hsv : SV (m 1) (upd (m 1) (25 + 21 * t + 1) 3) := sv_up hI ht (by omega) n2 (by rw [h0]; decide)
  have eB : nB (upd (m 1) (25 + 21 * t + 1) 3) = nB (m 1) := nB_up
  have hC' : Cls (mput g 11 t 3) 0 (upd (m 1) (25 + 21 * t + 1) 3) := by
    refine cls_row (T := t) hC hsv (by rw [eB]; exact hb) (fun u q _ => by rw [eB] at q; exact q) (row_up (by omega)) (cla_keep hC.1 (fun k hk => mput_ne (by omega)) (fun j h1 h2 => lo_up h1)) ?_ (mput_ne (by decide)) (mput_ne (by decide)) (mput_ne (by decide)) (fun u hne => ?_) (fun _ => ?_) (fun _ k' hk' => ?_)
    · rw [mput_ne (by decide), lo_up (by decide)]; exact (k_b hC hI).trans hI.r3.symm
    · rw [mput_ne (by decide), mp_at hne, mput_ne (by decide), mput_ne (by decide), mput_ne (by decide)]
      refine ⟨rfl, rfl, rfl, rfl, rfl, fun k' hk' => ⟨?_, ?_⟩⟩
      · rw [mput_ne (by decide)]
      · rw [mput_ne (by decide)]
    · rw [mput_ne (by decide), mp_eq, mput_ne (by decide), mput_ne (by decide), mput_ne (by decide), e1, eo 0 (by decide) (by decide), eo 2 (by decide) (by decide), eo 3 (by decide) (by decide), eo 4 (by decide) (by decide)]
      refine ⟨k_f0 hC ht, rfl, k_f2 hC ht, k_f3 hC ht, k_f4 hC ht, fun k' hk' => ?_⟩
      rw [mput_ne (by decide), eo _ (by omega) (by omega)]
      have := (hC.2.1.2 t ht).2.2.2.2.2 k' hk'
      simpa using this
    · rw [mput_ne (by decide), eo _ (by omega) (by omega)]
      have := hC.2.2.2 t ht k' hk'
      simpa using this
  refine ⟨mput g 11 t 3, mput m 1 (25 + 21 * t + 1) 3, ?_, lay_q l21 (by omega) (by decide), by rw [p_eq]; exact hC', by rw [p_eq]; exact hI', fun j hj => mput_ne (by omega), fun j hj => mput_ne hj, by rw [p_eq, eB]; exact ht⟩
  unfold sX2_makeAborted
  rw [ix40 (by omega), let_s, nI_clamp (by omega)]
  simp only [Nat.zero_add, Nat.reduceAdd]
  rw [k_wk hn hI' hC' (by rw [eB]; exact ht), bi_s, p_eq]
end PZ
