/-! the class alone: what each call makes of the row -/
section VB
variable {bd bd' : Int} {g g' : Mem} {r r' : Nat → Int32} {n t k s K T B : Nat} {x : Int32}
def KP (bd : Int) (g : Mem) (r : Nat → Int32) : Prop := Cls g 0 r ∧ Inv bd r ∧ ∃ c p : Nat, c ≤ 6 ∧ p < 6 ∧ g 153 0 = nI c ∧ g 153 1 = nI p
theorem kp_push (hn : 10010 ≤ n) (h : KP bd g r) : ∃ g1, sX0_push n g 0 = some g1 ∧ KP bd g1 r ∧ ∀ k, k < 17 → g1 k = g k := by
  obtain ⟨hC, hI, c, p, h1, h2, h4, h5⟩ := h
  obtain ⟨g', a1, a2, a3, a4, a5⟩ := k_push hn h2 h1 h4 h5 hI hC
  have lo : ∀ k, k < 17 → g' k = g k := fun k hk => a5 k (by omega) (by omega)
  exact ⟨g', a1, ⟨hC.fr (fun k _ k2 => lo k (by omega)), hI, min (c + 1) 6, (p + 1) % 6, by omega, by omega, a3, a4⟩, lo⟩
theorem KP.st (h : KP bd g r) (hC : Cls g' 0 r') (hI : Inv bd' r') (eg : ∀ k, 17 ≤ k → g' k = g k) : KP bd' g' r' := by
  obtain ⟨-, -, c, p, h1, h2, h4, h5⟩ := h
  exact ⟨hC, hI, c, p, h1, h2, by rw [eg 153 (by decide)]; exact h4, by rw [eg 153 (by decide)]; exact h5⟩
theorem KP.mono (h : KP bd g r) (hb : bd ≤ bd') (hl : bd' ≤ 4000000) : KP bd' g r := ⟨h.1, h.2.1.mono hb hl, h.2.2⟩
theorem KP.cg (h : KP bd g r) (e : ∀ k, k < 161 → g' k = g k) : KP bd g' r := by
  obtain ⟨hC, hI, c, p, h1, h2, h4, h5⟩ := h
  exact ⟨hC.fr (fun k _ k2 => e k (by omega)), hI, c, p, h1, h2, by rw [e 153 (by decide)]; exact h4, by rw [e 153 (by decide)]; exact h5⟩
/-- what an operation of the state leaves -/
def YO (bd' : Int) (g : Mem) (R : Nat → Int32) (cl : Option (Int32 × Mem)) (P : Int32 → Prop) : Prop := ∃ v g', cl = some (v, g') ∧ P v ∧ Cls g' 0 R ∧ Inv bd' R ∧ ∀ k, 17 ≤ k → g' k = g k
def bgR (r : Nat → Int32) (s : Nat) : Nat → Int32 := fun j => if j = 3 then nI (nB r + 1) else if 25 + 21 * nB r ≤ j ∧ j < 25 + 21 * nB r + 21 then (if j = 25 + 21 * nB r then nI s else if j = 25 + 21 * nB r + 1 then 0 else -1) else r j
theorem bgR_o {j : Nat} (h1 : j ≠ 3) (h2 : j < 25 + 21 * nB r ∨ 25 + 21 * nB r + 21 ≤ j) : bgR r s j = r j := by
  unfold bgR
  rw [if_neg h1, if_neg (by omega)]
theorem bgR_3 : bgR r s 3 = nI (nB r + 1) := if_pos rfl
theorem bgR_nB (hb : nB r < 40) : nB (bgR r s) = nB r + 1 := by
  show (bgR r s 3).toNatClampNeg = _
  rw [bgR_3, nI_clamp (by omega)]
theorem bgR_t0 : TX (bgR r s) (nB r) 0 = nI s := by
  unfold TX bgR
  rw [if_neg (by omega), if_pos (by omega), if_pos (by omega)]
theorem bgR_t1 : TX (bgR r s) (nB r) 1 = 0 := by
  unfold TX bgR
  rw [if_neg (by omega), if_pos (by omega), if_neg (by omega), if_pos rfl]
theorem bgR_t {f : Nat} (h2 : 2 ≤ f) (hf : f < 21) : TX (bgR r s) (nB r) f = -1 := by
  unfold TX bgR
  rw [if_neg (by omega), if_pos (by omega), if_neg (by omega), if_neg (by omega)]
theorem y_begin (hn : 10010 ≤ n) (hC : Cls g 0 r) (hI : Inv bd r) (h40 : nB r < 40) (hs : s < 3) : YO bd g (bgR r s) (sX2_beginAt n g 0 (nI s)) (fun v => v = nI (nB r)) := by
  obtain ⟨B, hB⟩ : ∃ z, z = nB r := ⟨_, rfl⟩
  rw [← hB] at h40
  have hb : g 9 0 = nI B := by rw [hB]; exact k_b hC hI
  have hcl : (nI B).toNatClampNeg = B := nI_clamp (by omega)
  obtain ⟨G, hG⟩ : ∃ z, z = mput (mput (mput (mput (mput (mput g 9 0 (nI (B + 1))) 10 B (nI s)) 11 B 0) 12 B (-1)) 13 B (-1)) 14 B (-1) := ⟨_, rfl⟩
  obtain ⟨g', a1, a2, a3, a4⟩ := k_add52 (g := G) hn h40
  obtain ⟨R, hR0⟩ : ∃ z, z = bgR r s := ⟨_, rfl⟩
  have gk : ∀ k, k < 9 ∨ 17 ≤ k → g' k = g k := fun k hk => by
    rw [a2 k (by omega) (by omega), hG, mput_ne (by omega), mput_ne (by omega), mput_ne (by omega), mput_ne (by omega), mput_ne (by omega), mput_ne (by omega)]
  have mj : ∀ j, j ≠ 3 → (j < 25 + 21 * B ∨ 25 + 21 * B + 21 ≤ j) → R j = r j := fun j h1 h2 => by rw [hR0]; exact bgR_o h1 (by rw [← hB]; exact h2)
  have b3 : R 3 = nI (B + 1) := by rw [hR0, hB]; exact bgR_3
  have t0 : TX R B 0 = nI s := by rw [hR0, hB]; exact bgR_t0
  have t1 : TX R B 1 = 0 := by rw [hR0, hB]; exact bgR_t1
  have t2 : ∀ f, 2 ≤ f → f < 21 → TX R B f = -1 := fun f h1 h2 => by rw [hR0, hB]; exact bgR_t h1 h2
  have nB' : nB R = B + 1 := by rw [hR0, bgR_nB (by omega), hB]
  have hR : Row1 r R B := fun t f ht hf hne => mj _ (by omega) (by omega)
  have ho : ∀ t, t < nB R → t ≠ B → t < nB r := fun t h1 h2 => by omega
  have n1 : TX R B 1 ≠ 1 := by rw [t1]; decide
  have n2 : TX R B 1 ≠ 2 := by rw [t1]; decide
  have hsv : SV r R := sv_row (by omega) (by omega) ho hR n2 (fun z => by omega)
  rw [← hR0]
  refine ⟨nI B, g', ?_, by rw [hB], ?_, ?_, fun k hk => gk k (Or.inr hk)⟩
  · have ix : ∀ {α : Type} {x : Option α}, (sIdx (nI B) 40 fun _ => x) = x := ix40 h40
    simp only [sX2_beginAt, sX4_add, Nat.zero_add, Nat.reduceAdd, let_s, hb, ix, hcl, nI_1, ← hG]
    rw [a1, bi2_s]
  · refine cls_row hC hsv (by omega) ho hR (cla_keep hC.1 (fun k hk => gk k (by omega)) (fun j h1 h2 => mj j h2 (by omega))) ?_ (gk 6 (by decide)) (gk 7 (by decide)) (gk 8 (by decide)) (fun t hne => ?_) (fun _ => ?_) (fun _ k hk => ?_)
    · rw [a2 9 (by decide) (by decide), hG, mput_ne (by decide), mput_ne (by decide), mput_ne (by decide), mput_ne (by decide), mput_ne (by decide), mp_eq, b3]
    · refine ⟨?_, ?_, ?_, ?_, ?_, fun k hk => ?_⟩
      · rw [a2 10 (by decide) (by decide), hG, mput_ne (by decide), mput_ne (by decide), mput_ne (by decide), mput_ne (by decide), mp_at hne, mput_ne (by decide)]
      · rw [a2 11 (by decide) (by decide), hG, mput_ne (by decide), mput_ne (by decide), mput_ne (by decide), mp_at hne, mput_ne (by decide), mput_ne (by decide)]
      · rw [a2 12 (by decide) (by decide), hG, mput_ne (by decide), mput_ne (by decide), mp_at hne, mput_ne (by decide), mput_ne (by decide), mput_ne (by decide)]
      · rw [a2 13 (by decide) (by decide), hG, mput_ne (by decide), mp_at hne, mput_ne (by decide), mput_ne (by decide), mput_ne (by decide), mput_ne (by decide)]
      · rw [a2 14 (by decide) (by decide), hG, mp_at hne, mput_ne (by decide), mput_ne (by decide), mput_ne (by decide), mput_ne (by decide), mput_ne (by decide)]
      · obtain ⟨q1, q2⟩ := a4 (t * 8 + k) (by omega)
        have o15 : G 15 = g 15 := by rw [hG, mput_ne (by decide), mput_ne (by decide), mput_ne (by decide), mput_ne (by decide), mput_ne (by decide), mput_ne (by decide)]
        have o16 : G 16 = g 16 := by rw [hG, mput_ne (by decide), mput_ne (by decide), mput_ne (by decide), mput_ne (by decide), mput_ne (by decide), mput_ne (by decide)]
        rw [q1, q2, o15, o16]
        exact ⟨rfl, rfl⟩
    · refine ⟨?_, ?_, ?_, ?_, ?_, fun k hk => ?_⟩
      · rw [a2 10 (by decide) (by decide), hG, mput_ne (by decide), mput_ne (by decide), mput_ne (by decide), mput_ne (by decide), mp_eq, t0]
      · rw [a2 11 (by decide) (by decide), hG, mput_ne (by decide), mput_ne (by decide), mput_ne (by decide), mp_eq, t1]
      · rw [a2 12 (by decide) (by decide), hG, mput_ne (by decide), mput_ne (by decide), mp_eq, t2 2 (by decide) (by decide)]
      · rw [a2 13 (by decide) (by decide), hG, mput_ne (by decide), mp_eq, t2 3 (by decide) (by decide)]
      · rw [a2 14 (by decide) (by decide), hG, mp_eq, t2 4 (by decide) (by decide)]
      · rw [(a3 k hk).1, t2 (5 + k) (by omega) (by omega)]
    · exact Or.inl ⟨(a3 k hk).2, t2 (13 + k) (by omega) (by omega)⟩
  · refine inv_row hI (Int.le_refl _) hI.bdl (by rw [b3, nB']) (by omega) ho hR (mj 0 (by decide) (by omega)) (mj 1 (by decide) (by omega)) (fun s hs f hf => mj _ (by omega) (by omega)) (fun s hs => by rw [mj (4 + s) (by omega) (by omega)]; exact hI.asg hs) (fun _ => ?_) (lk_row hI.lk (by omega) ho hR n1 n2)
    refine ⟨⟨s, hs, t0⟩, Or.inl t1, fun z => ?_, fun _ => ⟨t2 2 (by decide) (by decide), t2 3 (by decide) (by decide)⟩, fun _ => t2 4 (by decide) (by decide), fun k hk => ⟨Or.inl (t2 (5 + k) (by omega) (by omega)), Or.inl (t2 (13 + k) (by omega) (by omega))⟩⟩
    rcases z with z | z
    · exact absurd z n1
    · exact absurd z n2
theorem y_write (hn : 10010 ≤ n) (hC : Cls g 0 r) (hI : Inv bd r) (ht : t < nB r) (h0 : TX r t 1 = 0) (hk : k < 8) {x : Int32} (hx : 0 ≤ x.toInt) : YO bd g (upd r (25 + 21 * t + (5 + k)) x) (sX2_writeKey n g 0 (nI t) (nI k) x) (fun v => v = wk (upd r (25 + 21 * t + (5 + k)) x) t) := by
  have hb := hI.b40
  have e1 : TX (upd r (25 + 21 * t + (5 + k)) x) t 1 = TX r t 1 := by rw [TX_up (by omega) (by decide), if_neg (by omega)]
  have n1 : TX (upd r (25 + 21 * t + (5 + k)) x) t 1 ≠ 1 := by rw [e1, h0]; decide
  have n2 : TX (upd r (25 + 21 * t + (5 + k)) x) t 1 ≠ 2 := by rw [e1, h0]; decide
  have hI' : Inv bd (upd r (25 + 21 * t + (5 + k)) x) := inv_up hI ht (by omega) (txok_up (hI.tx ht) (by omega) (by omega) (Or.inr hx)) n1 n2
  have hsv : SV r (upd r (25 + 21 * t + (5 + k)) x) := sv_up hI ht (by omega) n2 (by rw [h0]; decide)
  have eB : nB (upd r (25 + 21 * t + (5 + k)) x) = nB r := nB_up
  have hC' : Cls (mput g 15 (t * 8 + k) x) 0 (upd r (25 + 21 * t + (5 + k)) x) := by
    refine cls_row (T := t) hC hsv (by rw [eB]; exact hb) (fun u q _ => by rw [eB] at q; exact q) (row_up (by omega)) (cla_keep hC.1 (fun k hk => mput_ne (by omega)) (fun j h1 h2 => lo_up h1)) ?_ (mput_ne (by decide)) (mput_ne (by decide)) (mput_ne (by decide)) (fun u hne => ?_) (fun _ => ?_) (fun _ k' hk' => ?_)
    · rw [mput_ne (by decide), lo_up (by decide)]; exact (k_b hC hI).trans hI.r3.symm
    · rw [mput_ne (by decide), mput_ne (by decide), mput_ne (by decide), mput_ne (by decide), mput_ne (by decide)]
      refine ⟨rfl, rfl, rfl, rfl, rfl, fun k' hk' => ⟨?_, ?_⟩⟩
      · rw [mp_at (by omega)]
      · rw [mput_ne (by decide)]
    · rw [mput_ne (by decide), mput_ne (by decide), mput_ne (by decide), mput_ne (by decide), mput_ne (by decide)]
      rw [TX_up (by omega) (by decide), if_neg (by omega), TX_up (by omega) (by decide), if_neg (by omega), TX_up (by omega) (by decide), if_neg (by omega), TX_up (by omega) (by decide), if_neg (by omega), TX_up (by omega) (by decide), if_neg (by omega)]
      refine ⟨k_f0 hC ht, k_f1 hC ht, k_f2 hC ht, k_f3 hC ht, k_f4 hC ht, fun k' hk' => ?_⟩
      rw [TX_up (by omega) (by omega)]
      by_cases z : k' = k
      · rw [z, mp_eq, if_pos ⟨rfl, rfl⟩]
      · rw [mp_at (by omega), if_neg (by omega)]
        have := (hC.2.1.2 t ht).2.2.2.2.2 k' hk'
        simpa using this
    · rw [mput_ne (by decide), TX_up (by omega) (by omega), if_neg (by omega)]
      have := hC.2.2.2 t ht k' hk'
      simpa using this
  refine ⟨wk (upd r (25 + 21 * t + (5 + k)) x) t, mput g 15 (t * 8 + k) x, ?_, rfl, hC', hI', fun j hj => mput_ne (by omega)⟩
  · unfold sX2_writeKey
    simp only [Nat.zero_add]
    rw [k_bv (by omega), bi_s, k_wk hn hI' hC' (by rw [eB]; exact ht), bi_s]
theorem y_read (hn : 10010 ≤ n) (hC : Cls g 0 r) (hI : Inv bd r) (ht : t < nB r) (h0 : TX r t 1 = 0) (hk : k < 8) : ∃ R, (R = r ∨ ∃ v, R = upd r (25 + 21 * t + (13 + k)) v) ∧ YO bd g R (sX2_readKey g 0 (nI t) (nI k)) (fun v => if wr r t k = true then v = TX r t (5 + k) else if rd r t k = true then WV r k (TX r t (13 + k)) v else ∀ x : Int32, (g 7 (k * 41 + cv r k)).toInt ≤ x.toInt → WV r k x v) := by
  have hb := hI.b40
  unfold sX2_readKey
  simp only [Nat.zero_add]
  rw [k_wr hI hC ht hk, bi_s, b2_ite]
  cases ew : wr r t k with
  | true =>
    rw [if_pos rfl, k_bf hI hC ht hk, bi_s]
    refine ⟨r, Or.inl rfl, _, g, rfl, ?_, hC, hI, fun _ _ => rfl⟩
    show if true = true then _ else _
    rw [if_pos rfl]
  | false =>
    rw [if_neg (by decide), k_rd hI hC ht hk, bi_s, b2_ite]
    have hV := hC.2.2.1 k hk
    cases er : rd r t k with
    | true =>
      obtain ⟨i, i1, i2, i3⟩ := rd_ix hI hC ht hk er
      rw [if_pos rfl, k_rc hI ht hk, bi_s, i2, k_vaOf hI hk i1, bi_s]
      refine ⟨r, Or.inl rfl, _, g, rfl, ?_, hC, hI, fun _ _ => rfl⟩
      show if false = true then _ else if true = true then _ else _
      rw [if_neg (by decide), if_pos rfl, i3]
      exact WV_at hV i1
    | false =>
      rw [if_neg (by decide), k_newest hI hV hk, bi_s, k_rv (by omega), bi_s]
      obtain ⟨v, hv⟩ : ∃ z, z = g 7 (k * 41 + cv r k) := ⟨_, rfl⟩
      have hv0 : 0 ≤ v.toInt := by rw [hv]; exact vt_nn hV (Nat.le_refl _)
      have e1 : TX (upd r (25 + 21 * t + (13 + k)) v) t 1 = TX r t 1 := by rw [TX_up (by omega) (by decide), if_neg (by omega)]
      have n1 : TX (upd r (25 + 21 * t + (13 + k)) v) t 1 ≠ 1 := by rw [e1, h0]; decide
      have n2 : TX (upd r (25 + 21 * t + (13 + k)) v) t 1 ≠ 2 := by rw [e1, h0]; decide
      have hI' : Inv bd (upd r (25 + 21 * t + (13 + k)) v) := inv_up hI ht (by omega) (txok_up (hI.tx ht) (by omega) (by omega) (Or.inr hv0)) n1 n2
      have hsv : SV r (upd r (25 + 21 * t + (13 + k)) v) := sv_up hI ht (by omega) n2 (by rw [h0]; decide)
      have eB : nB (upd r (25 + 21 * t + (13 + k)) v) = nB r := nB_up
      have hC' : Cls (mput g 16 (t * 8 + k) (nI (cv r k))) 0 (upd r (25 + 21 * t + (13 + k)) v) := by
        refine cls_row (T := t) hC hsv (by rw [eB]; exact hb) (fun u q _ => by rw [eB] at q; exact q) (row_up (by omega)) (cla_keep hC.1 (fun k hk => mput_ne (by omega)) (fun j h1 h2 => lo_up h1)) ?_ (mput_ne (by decide)) (mput_ne (by decide)) (mput_ne (by decide)) (fun u hne => ?_) (fun _ => ?_) (fun _ k' hk' => ?_)
        · rw [mput_ne (by decide), lo_up (by decide)]; exact (k_b hC hI).trans hI.r3.symm
        · rw [mput_ne (by decide), mput_ne (by decide), mput_ne (by decide), mput_ne (by decide), mput_ne (by decide)]
          refine ⟨rfl, rfl, rfl, rfl, rfl, fun k' hk' => ⟨?_, ?_⟩⟩
          · rw [mput_ne (by decide)]
          · rw [mp_at (by omega)]
        · rw [mput_ne (by decide), mput_ne (by decide), mput_ne (by decide), mput_ne (by decide), mput_ne (by decide)]
          rw [TX_up (by omega) (by decide), if_neg (by omega), TX_up (by omega) (by decide), if_neg (by omega), TX_up (by omega) (by decide), if_neg (by omega), TX_up (by omega) (by decide), if_neg (by omega), TX_up (by omega) (by decide), if_neg (by omega)]
          refine ⟨k_f0 hC ht, k_f1 hC ht, k_f2 hC ht, k_f3 hC ht, k_f4 hC ht, fun k' hk' => ?_⟩
          rw [mput_ne (by decide), TX_up (by omega) (by omega), if_neg (by omega)]
          have := (hC.2.1.2 t ht).2.2.2.2.2 k' hk'
          simpa using this
        · by_cases z : k' = k
          · subst z
            refine Or.inr ⟨cv r k', Nat.le_refl _, mp_eq, ?_⟩
            rw [TX_up (by omega) (by omega), if_pos ⟨rfl, rfl⟩, hv]
          · rw [mp_at (by omega), TX_up (by omega) (by omega), if_neg (by omega)]
            have := hC.2.2.2 t ht k' hk'
            simpa using this
      have hw : sX4_recordedVersion (mput g 16 (t * 8 + k) (nI (cv r k))) 9 (nI t) (nI k) = some (nI (cv r k)) := by
        rw [k_rc hI ht hk, mp_eq]
      have hw2 : sX5_valueOfVersion (mput g 16 (t * 8 + k) (nI (cv r k))) 5 (nI k) (nI (cv r k)) = some (g 8 (k * 41 + cv r k)) := by
        rw [k_vaOf hI hk (Nat.le_refl _), mput_ne (by decide)]
      rw [hw, bi_s, hw2, bi_s]
      refine ⟨_, Or.inr ⟨v, rfl⟩, _, _, rfl, ?_, hC', hI', fun j hj => mput_ne (by omega)⟩
      show if false = true then _ else if false = true then _ else _
      rw [if_neg (by decide), if_neg (by decide)]
      intro x hx
      exact WV_ix hV (Nat.le_refl _) (Or.inr hx) (fun j h1 h2 => by omega)
theorem y_abort (hn : 10010 ≤ n) (hC : Cls g 0 r) (hI : Inv bd r) (ht : t < nB r) (h0 : TX r t 1 = 0) : YO bd g (upd r (25 + 21 * t + 1) 3) (sX2_makeAborted n g 0 (nI t)) (fun v => v = wk (upd r (25 + 21 * t + 1) 3) t) := by
  have hb := hI.b40
  have e1 : TX (upd r (25 + 21 * t + 1) 3) t 1 = 3 := by rw [TX_up (by omega) (by decide), if_pos ⟨rfl, rfl⟩]
  have eo : ∀ f, f < 21 → f ≠ 1 → TX (upd r (25 + 21 * t + 1) 3) t f = TX r t f := fun f hf hne => by rw [TX_up (by omega) hf, if_neg (by omega)]
  have n1 : TX (upd r (25 + 21 * t + 1) 3) t 1 ≠ 1 := by rw [e1]; decide
  have n2 : TX (upd r (25 + 21 * t + 1) 3) t 1 ≠ 2 := by rw [e1]; decide
  obtain ⟨x1, x2, x3, x4, x5, x6⟩ := hI.tx ht
  have hI' : Inv bd (upd r (25 + 21 * t + 1) 3) := by
    refine inv_up hI ht (by omega) ?_ n1 n2
    unfold txok
    rw [e1, eo 0 (by decide) (by decide), eo 2 (by decide) (by decide), eo 3 (by decide) (by decide), eo 4 (by decide) (by decide)]
    refine ⟨x1, Or.inr (Or.inr (Or.inr rfl)), fun z => ?_, fun _ => x4 (Or.inl h0), fun _ => x5 (by rw [h0]; decide), fun k hk => by rw [eo _ (by omega) (by omega), eo _ (by omega) (by omega)]; exact x6 k hk⟩
    rcases z with z | z
    · exact absurd z (by decide)
    · exact absurd z (by decide)
  have hsv : SV r (upd r (25 + 21 * t + 1) 3) := sv_up hI ht (by omega) n2 (by rw [h0]; decide)
  have eB : nB (upd r (25 + 21 * t + 1) 3) = nB r := nB_up
  have hC' : Cls (mput g 11 t 3) 0 (upd r (25 + 21 * t + 1) 3) := by
    refine cls_row (T := t) hC hsv (by rw [eB]; exact hb) (fun u q _ => by rw [eB] at q; exact q) (row_up (by omega)) (cla_keep hC.1 (fun k hk => mput_ne (by omega)) (fun j h1 h2 => lo_up h1)) ?_ (mput_ne (by decide)) (mput_ne (by decide)) (mput_ne (by decide)) (fun u hne => ?_) (fun _ => ?_) (fun _ k' hk' => ?_)
    · rw [mput_ne (by decide), lo_up (by decide)]; exact (k_b hC hI).trans hI.r3.symm
    · rw [mput_ne (by decide), mp_at hne, mput_ne (by decide), mput_ne (by decide), mput_ne (by decide)]
      refine ⟨rfl, rfl, rfl, rfl, rfl, fun k' hk' => ⟨?_, ?_⟩⟩
      · rw [mput_ne (by decide)]
      · rw [mput_ne (by decide)]
    · rw [mput_ne (by decide), mp_eq, mput_ne (by decide), mput_ne (by decide), mput_ne (by decide), e1, eo 0 (by decide) (by decide), eo 2 (by decide) (by decide), eo 3 (by decide) (by decide), eo 4 (by decide) (by decide)]
      refine ⟨k_f0 hC ht, rfl, k_f2 hC ht, k_f3 hC ht, k_f4 hC ht, fun k' hk' => ?_⟩
      rw [mput_ne (by decide), eo _ (by omega) (by omega)]
      have := (hC.2.1.2 t ht).2.2.2.2.2 k' hk'
      simpa using this
    · rw [mput_ne (by decide), eo _ (by omega) (by omega)]
      have := hC.2.2.2 t ht k' hk'
      simpa using this
  refine ⟨_, mput g 11 t 3, ?_, rfl, hC', hI', fun j hj => mput_ne (by omega)⟩
  unfold sX2_makeAborted
  rw [ix40 (by omega), let_s, nI_clamp (by omega)]
  simp only [Nat.zero_add, Nat.reduceAdd]
  rw [k_wk hn hI' hC' (by rw [eB]; exact ht), bi_s]
theorem y_wait (hn : 10010 ≤ n) (hC : Cls g 0 r) (hI : Inv bd r) (hb : 3100000 ≤ bd) (hb2 : bd + 1 ≤ 4000000) (ht : t < nB r) (h0 : TX r t 1 = 0) (hl : lkd r t = false) {x : Int32} (hx : x = ocN g r t) : ∃ g', sX2_makeWaiting g 0 (nI t) x = some g' ∧ Cls g' 0 (wtR r t x) ∧ Inv (bd + 1) (wtR r t x) ∧ ∀ k, 17 ≤ k → g' k = g k := by
  have h40 := hI.b40
  obtain ⟨s1, s2⟩ := srv_q hI ht
  obtain ⟨s, hs⟩ : ∃ z, z = srv r t := ⟨_, rfl⟩
  rw [← hs] at s1 s2
  have s1' : srv r t < 3 := by rw [← hs]; exact s1
  obtain ⟨o1, o2, o3⟩ := ocN_b hI hC hb ht
  rw [← hx] at o1 o2 o3
  have hbs : (nI s).toNatClampNeg = s := nI_clamp (by omega)
  have hbt : (nI t).toNatClampNeg = t := nI_clamp (by omega)
  obtain ⟨R, hR⟩ : ∃ z, z = wtR r t x := ⟨_, rfl⟩
  have eT : ∀ u f, f < 21 → TX R u f = if u = t ∧ f = 1 then 1 else if u = t ∧ f = 2 then x else if u = t ∧ f = 3 then r 0 else TX r u f := fun u f hf => by rw [hR]; exact wtR_TX s1' hf
  have eo : ∀ f, f < 21 → f ≠ 1 → f ≠ 2 → f ≠ 3 → TX R t f = TX r t f := fun f hf h1 h2 h3 => by rw [eT t f hf, if_neg (by omega), if_neg (by omega), if_neg (by omega)]
  have e1 : TX R t 1 = 1 := by rw [eT t 1 (by decide), if_pos ⟨rfl, rfl⟩]
  have e2 : TX R t 2 = x := by rw [eT t 2 (by decide), if_neg (by omega), if_pos ⟨rfl, rfl⟩]
  have e3 : TX R t 3 = r 0 := by rw [eT t 3 (by decide), if_neg (by omega), if_neg (by omega), if_pos ⟨rfl, rfl⟩]
  have eB : nB R = nB r := by rw [hR]; exact wtR_nB s1'
  have hRow : Row1 r R t := by rw [hR]; exact wtR_row s1'
  have elo : ∀ j, j ≠ 2 → j ≠ 4 + s → j < 25 → R j = r j := fun j h2 h4 hj => by rw [hR]; exact wtR_lo s1' h2 (by rw [← hs]; exact h4) hj
  have r2 : R 2 = r 2 + us r s (r 0) := by
    rw [hR, hs]
    unfold wtR upd
    rw [if_pos rfl]
  have r4 : R (4 + s) = x := by
    rw [hR, hs]
    unfold wtR upd
    rw [if_neg (by omega), if_pos rfl]
  have eCK : ∀ q, q < 3 → ∀ f, f < 6 → CK R q f = CK r q f := fun q hq f hf => by rw [hR]; exact wtR_CK s1' hq hf
  have ho : ∀ u, u < nB R → u ≠ t → u < nB r := fun u h1 _ => by rw [eB] at h1; exact h1
  have n2 : TX R t 1 ≠ 2 := by rw [e1]; decide
  have hsv : SV r R := sv_row (by rw [eB]; exact Nat.le_refl _) (by rw [eB]; exact h40) ho hRow n2 (fun _ => by rw [h0]; decide)
  have hwr : ∀ u k, u < 40 → k < 8 → wr R u k = wr r u k := fun u k hu hk => by
    by_cases z : u = t
    · unfold wr; rw [z, eo _ (by omega) (by omega) (by omega) (by omega)]
    · exact wr_row hRow hu hk z
  have hI' : Inv (bd + 1) R := by
    refine inv_row (T := t) hI (by omega) hb2 (by rw [elo 3 (by decide) (by omega) (by decide), eB]; exact hI.r3) (by rw [eB]; exact h40) ho hRow (elo 0 (by decide) (by omega) (by decide)) (elo 1 (by decide) (by omega) (by decide)) eCK (fun q hq => ?_) (fun _ => ?_) ?_
    · by_cases z : q = s
      · rw [z, r4]; omega
      · rw [elo _ (by omega) (by omega) (by omega)]
        have := hI.asg hq
        omega
    · obtain ⟨x1, x2, x3, x4, x5, x6⟩ := hI.tx ht
      unfold txok
      rw [e1, e2, e3, eo 0 (by decide) (by decide) (by decide) (by decide), eo 4 (by decide) (by decide) (by decide) (by decide)]
      refine ⟨x1, Or.inr (Or.inl rfl), fun _ => ⟨o1, o2⟩, fun z => ?_, fun _ => x5 (by rw [h0]; decide), fun k hk => by rw [eo _ (by omega) (by omega) (by omega) (by omega), eo _ (by omega) (by omega) (by omega) (by omega)]; exact x6 k hk⟩
      rcases z with z | z
      · exact absurd z (by decide)
      · exact absurd z (by decide)
    · intro a ha hwa k hk hwk u hu
      rw [eB] at ha hu
      rw [hwr a k (by omega) hk] at hwk
      rw [hwr u k (by omega) hk]
      by_cases za : a = t
      · rw [za] at hwk ⊢
        refine ⟨fun h1 h2 => ?_, fun hv => ?_⟩
        · by_cases zu : u = t
          · exact zu
          · rw [hRow u 1 (by omega) (by decide) zu] at h1
            exact absurd ⟨h2, hwk⟩ (lkd_no hl hu h1 hk)
        · have zu : u ≠ t := fun z => by rw [z, ver_n2 n2] at hv; cases hv
          rw [ver_row hRow (by omega) hk zu] at hv
          obtain ⟨i, i1, i2, i3, i4⟩ := v_of (hC.2.2.1 k hk) hu hv
          rw [hRow u 2 (by omega) (by decide) zu, e2, ← i3]
          have q1 := vt_le (hC.2.2.1 k hk) i2 (Nat.le_refl _)
          have q2 := o3 k hk hwk
          omega
      · rw [hRow a 1 (by omega) (by decide) za] at hwa
        rw [hRow a 2 (by omega) (by decide) za]
        by_cases zu : u = t
        · refine ⟨fun _ h2 => ?_, fun hv => ?_⟩
          · rw [zu] at h2
            exact absurd ⟨hwk, h2⟩ (lkd_no hl ha hwa hk)
          · rw [zu, ver_n2 n2] at hv; cases hv
        · rw [hRow u 1 (by omega) (by decide) zu, hRow u 2 (by omega) (by decide) zu, ver_row hRow (by omega) hk zu]
          exact hI.lk a ha hwa k hk hwk u hu
  obtain ⟨G, hG⟩ : ∃ z, z = mput (mput (mput (mput g 11 t 1) 12 t x) 13 t (r 0)) (2 + s) 6 x := ⟨_, rfl⟩
  have Gk : ∀ k, k ≠ 11 → k ≠ 12 → k ≠ 13 → k ≠ 2 + s → G k = g k := fun k h1 h2 h3 h4 => by rw [hG, mput_ne h4, mput_ne h3, mput_ne h2, mput_ne h1]
  have G0 : G 0 = g 0 := Gk 0 (by decide) (by decide) (by decide) (by omega)
  have Gs : ∀ f, f < 6 → G (2 + s) f = g (2 + s) f := fun f hf => by
    rw [hG, mp_at (by omega), mput_ne (by omega), mput_ne (by omega), mput_ne (by omega)]
  have hsnd : sX1_isSoundAt G (2 + s) (r 0) = some (b2 (sndI r s (r 0).toInt)) := by
    rw [snd_cg (g := g) (K' := 2 + s) Gs]
    exact k_snd (hI.ck s1) hC s1 (tm_r hI)
  rw [← hR]
  refine ⟨mput G 0 2 (r 2 + us r s (r 0)), ?_, ?_, hI', fun k hk => ?_⟩
  · have i40 : ∀ {α : Type} {x : Option α}, (sIdx (nI t) 40 fun _ => x) = x := ix40 (by omega)
    have i3 : ∀ {α : Type} {x : Option α}, (sIdx (nI s) 3 fun _ => x) = x := ix3 s1
    have g10 : g 10 t = nI s := (k_f0 hC ht).trans s2
    have g5 : mput (mput g 11 t 1) 12 t x 0 0 = r 0 := by rw [mput_ne (by decide), mput_ne (by decide)]; exact k_t0 hC
    have G00 : G 0 0 = r 0 := by rw [G0]; exact k_t0 hC
    have G02 : G 0 2 = r 2 := by rw [G0]; exact k_t2 hC
    unfold sX2_makeWaiting
    simp only [Nat.zero_add, Nat.reduceAdd, i40, hbt, let_s, g10, hbs, i3, g5, ← hG, G00, G02]
    exact k_uses hsnd
  · skip
    refine cls_row (T := t) hC hsv (by rw [eB]; exact h40) ho hRow ?_ ?_ ?_ ?_ ?_ (fun u hne => ?_) (fun _ => ?_) (fun _ k' hk' => ?_)
    · obtain ⟨a1, a2, a3, a4, a5⟩ := hC.1
      refine ⟨?_, ?_, ?_, fun q hq f hf => ?_, fun q hq => ?_⟩
      · rw [mp_at (by decide), G0, elo 0 (by decide) (by omega) (by decide)]; exact a1
      · rw [mp_at (by decide), G0, elo 1 (by decide) (by omega) (by decide)]; exact a2
      · rw [mp_eq, r2]
      · rw [eCK q hq f hf, mput_ne (by omega)]
        by_cases z : q = s
        · rw [z, Nat.zero_add, Gs f hf]
          have := a4 s s1 f hf
          simpa using this
        · rw [Gk _ (by omega) (by omega) (by omega) (by omega)]
          exact a4 q hq f hf
      · rw [mput_ne (by omega)]
        by_cases z : q = s
        · rw [z, r4, hG, Nat.zero_add, mp_eq]
        · rw [Gk _ (by omega) (by omega) (by omega) (by omega), elo _ (by omega) (by omega) (by omega)]
          exact a5 q hq
    · rw [mput_ne (by decide), Gk 9 (by decide) (by decide) (by decide) (by omega), elo 3 (by decide) (by omega) (by decide)]
      exact (k_b hC hI).trans hI.r3.symm
    · rw [mput_ne (by decide), Gk 6 (by decide) (by decide) (by decide) (by omega)]
    · rw [mput_ne (by decide), Gk 7 (by decide) (by decide) (by decide) (by omega)]
    · rw [mput_ne (by decide), Gk 8 (by decide) (by decide) (by decide) (by omega)]
    · have g11 : G 11 u = g 11 u := by rw [hG, mput_ne (by omega), mput_ne (by decide), mput_ne (by decide), mp_at hne]
      have g12 : G 12 u = g 12 u := by rw [hG, mput_ne (by omega), mput_ne (by decide), mp_at hne, mput_ne (by decide)]
      have g13 : G 13 u = g 13 u := by rw [hG, mput_ne (by omega), mp_at hne, mput_ne (by decide), mput_ne (by decide)]
      rw [mput_ne (by decide), mput_ne (by decide), mput_ne (by decide), mput_ne (by decide), mput_ne (by decide), mput_ne (by decide), mput_ne (by decide), g11, g12, g13, Gk 10 (by decide) (by decide) (by decide) (by omega), Gk 14 (by decide) (by decide) (by decide) (by omega), Gk 15 (by decide) (by decide) (by decide) (by omega), Gk 16 (by decide) (by decide) (by decide) (by omega)]
      exact ⟨rfl, rfl, rfl, rfl, rfl, fun _ _ => ⟨rfl, rfl⟩⟩
    · have g11 : G 11 t = 1 := by rw [hG, mput_ne (by omega), mput_ne (by decide), mput_ne (by decide), mp_eq]
      have g12 : G 12 t = x := by rw [hG, mput_ne (by omega), mput_ne (by decide), mp_eq]
      have g13 : G 13 t = r 0 := by rw [hG, mput_ne (by omega), mp_eq]
      rw [mput_ne (by decide), mput_ne (by decide), mput_ne (by decide), mput_ne (by decide), mput_ne (by decide), mput_ne (by decide), g11, g12, g13, Gk 10 (by decide) (by decide) (by decide) (by omega), Gk 14 (by decide) (by decide) (by decide) (by omega), Gk 15 (by decide) (by decide) (by decide) (by omega), e1, e2, e3, eo 0 (by decide) (by decide) (by decide) (by decide), eo 4 (by decide) (by decide) (by decide) (by decide)]
      refine ⟨k_f0 hC ht, rfl, rfl, rfl, k_f4 hC ht, fun k' hk' => ?_⟩
      rw [eo _ (by omega) (by omega) (by omega) (by omega)]
      have := (hC.2.1.2 t ht).2.2.2.2.2 k' hk'
      simpa using this
    · rw [mput_ne (by decide), Gk 16 (by decide) (by decide) (by decide) (by omega), eo _ (by omega) (by omega) (by omega) (by omega)]
      have := hC.2.2.2 t ht k' hk'
      simpa using this
  · rw [mput_ne (by omega), Gk k (by omega) (by omega) (by omega) (by omega)]
def syR (r : Nat → Int32) (s : Nat) (x : Int32) : Nat → Int32 := upd (upd (upd r (7 + 6 * s + 0) x) (7 + 6 * s + 1) (r 0)) (7 + 6 * s + 5) (r 0)
theorem y_sync (hC : Cls g 0 r) (hI : Inv bd r) (hs : s < 3) (h1 : -500 ≤ x.toInt) (h2 : x.toInt ≤ 500) : YO bd g (syR r s x) (sX2_synchronizeClock g 0 (nI s) x) (fun v => v = x - iI (offI r s (r 0).toInt)) := by
  have htm := hI.tm
  have hbs : (nI s).toNatClampNeg = s := nI_clamp (by omega)
  obtain ⟨R, hR⟩ : ∃ z, z = upd (upd (upd r (7 + 6 * s + 0) x) (7 + 6 * s + 1) (r 0)) (7 + 6 * s + 5) (r 0) := ⟨_, rfl⟩
  have eC : ∀ q f, q < 3 → f < 6 → CK R q f = if q = s ∧ f = 5 then r 0 else if q = s ∧ f = 1 then r 0 else if q = s ∧ f = 0 then x else CK r q f := fun q f hq hf => by
    rw [hR, CK_st (by decide) hf, CK_st (by decide) hf, CK_st (by decide) hf]
  have eh : ∀ j, j < 7 ∨ 25 ≤ j → R j = r j := fun j hj => by rw [hR, st_hi hs (by decide) hj, st_hi hs (by decide) hj, st_hi hs (by decide) hj]
  have ec : ∀ q, q < 3 → q ≠ s → ∀ f, f < 6 → CK R q f = CK r q f := fun q hq hne f hf => by rw [eC q f hq hf, if_neg (by omega), if_neg (by omega), if_neg (by omega)]
  have c0 : CK R s 0 = x := by rw [eC s 0 hs (by decide), if_neg (by omega), if_neg (by omega), if_pos ⟨rfl, rfl⟩]
  have c1 : CK R s 1 = r 0 := by rw [eC s 1 hs (by decide), if_neg (by omega), if_pos ⟨rfl, rfl⟩]
  have c5 : CK R s 5 = r 0 := by rw [eC s 5 hs (by decide), if_pos ⟨rfl, rfl⟩]
  have co : ∀ f, f < 6 → f ≠ 0 → f ≠ 1 → f ≠ 5 → CK R s f = CK r s f := fun f hf h0 h1 h5 => by rw [eC s f hs hf, if_neg (by omega), if_neg (by omega), if_neg (by omega)]
  have hI' : Inv bd R := by
    refine inv_head hI (Int.le_refl _) hI.bdl (fun j hj => eh j (Or.inr hj)) (eh 3 (by omega)) (by rw [eh 0 (by omega)]; exact htm) (by rw [eh 1 (by omega)]; exact hI.fl) (fun q hq => eh _ (by omega)) (fun q hq => ?_)
    by_cases z : q = s
    · rw [z]
      have hk := hI.ck hs
      unfold ckok at hk ⊢
      rw [c0, c1, c5, co 2 (by decide) (by decide) (by decide) (by decide), co 3 (by decide) (by decide) (by decide) (by decide), co 4 (by decide) (by decide) (by decide) (by decide), eh 0 (by omega)]
      omega
    · exact ck_row (hI.ck hq) (eh 0 (by omega)) (ec q hq z)
  have hR9 : syR r s x = R := hR.symm
  rw [hR9]
  refine ⟨x - iI (offI r s (r 0).toInt), mput (mput (mput g (2 + s) 0 x) (2 + s) 1 (r 0)) (2 + s) 5 (r 0), ?_, rfl, ?_, hI', fun k hk => by rw [mput_ne (by omega), mput_ne (by omega), mput_ne (by omega)]⟩
  · unfold sX2_synchronizeClock sX1_setOffset
    simp only [Nat.zero_add, Nat.reduceAdd, ix3 hs, hbs, k_t0 hC, k_off (hI.ck hs) hC hs (tm_r hI), bi_s, let_s]
  · skip
    refine cls_head hC hI (fun j hj => eh j (Or.inr hj)) (eh 3 (by omega)) (cla_srv hC.1 hs (fun k h1 _ => by rw [mput_ne h1, mput_ne h1, mput_ne h1]) (fun j hj => eh j (Or.inl hj)) (by rw [mp_at (by decide), mp_at (by decide), mp_at (by decide)]) ec (fun f hf => ?_)) (fun k h1 h2 => by rw [mput_ne (by omega), mput_ne (by omega), mput_ne (by omega)])
    rcases (show f = 0 ∨ f = 1 ∨ f = 5 ∨ (f ≠ 0 ∧ f ≠ 1 ∧ f ≠ 5) by omega) with z | z | z | ⟨z1, z2, z3⟩
    · rw [z, c0, mp_at (by decide), mp_at (by decide), mp_eq]
    · rw [z, c1, mp_at (by decide), mp_eq]
    · rw [z, c5, mp_eq]
    · rw [mp_at z3, mp_at z2, mp_at z1, co f hf z1 z2 z3]
      exact k_ck hC hs hf
def drR (r : Nat → Int32) (s : Nat) (x : Int32) : Nat → Int32 := upd (upd (upd r (7 + 6 * s + 0) (iI (offI r s (r 0).toInt))) (7 + 6 * s + 1) (r 0)) (7 + 6 * s + 2) x
theorem y_drift (hC : Cls g 0 r) (hI : Inv bd r) (hs : s < 3) (h1 : -100 ≤ x.toInt) (h2 : x.toInt ≤ 100) : YO bd g (drR r s x) (sX1_changeDrift g (2 + s) x (r 0)) (fun v => v = CK r s 2) := by
  have htm := hI.tm
  have ho := off_b (hI.ck hs) (Int.le_refl _)
  obtain ⟨y, hy⟩ : ∃ z, z = iI (offI r s (r 0).toInt) := ⟨_, rfl⟩
  have yi : y.toInt = offI r s (r 0).toInt := by rw [hy]; exact iI_toInt (by omega) (by omega)
  obtain ⟨R, hR⟩ : ∃ z, z = upd (upd (upd r (7 + 6 * s + 0) y) (7 + 6 * s + 1) (r 0)) (7 + 6 * s + 2) x := ⟨_, rfl⟩
  have eC : ∀ q f, q < 3 → f < 6 → CK R q f = if q = s ∧ f = 2 then x else if q = s ∧ f = 1 then r 0 else if q = s ∧ f = 0 then y else CK r q f := fun q f hq hf => by
    rw [hR, CK_st (by decide) hf, CK_st (by decide) hf, CK_st (by decide) hf]
  have eh : ∀ j, j < 7 ∨ 25 ≤ j → R j = r j := fun j hj => by rw [hR, st_hi hs (by decide) hj, st_hi hs (by decide) hj, st_hi hs (by decide) hj]
  have ec : ∀ q, q < 3 → q ≠ s → ∀ f, f < 6 → CK R q f = CK r q f := fun q hq hne f hf => by rw [eC q f hq hf, if_neg (by omega), if_neg (by omega), if_neg (by omega)]
  have c0 : CK R s 0 = y := by rw [eC s 0 hs (by decide), if_neg (by omega), if_neg (by omega), if_pos ⟨rfl, rfl⟩]
  have c1 : CK R s 1 = r 0 := by rw [eC s 1 hs (by decide), if_neg (by omega), if_pos ⟨rfl, rfl⟩]
  have c5 : CK R s 2 = x := by rw [eC s 2 hs (by decide), if_pos ⟨rfl, rfl⟩]
  have co : ∀ f, f < 6 → f ≠ 0 → f ≠ 1 → f ≠ 2 → CK R s f = CK r s f := fun f hf h0 h1 h5 => by rw [eC s f hs hf, if_neg (by omega), if_neg (by omega), if_neg (by omega)]
  have hI' : Inv bd R := by
    refine inv_head hI (Int.le_refl _) hI.bdl (fun j hj => eh j (Or.inr hj)) (eh 3 (by omega)) (by rw [eh 0 (by omega)]; exact htm) (by rw [eh 1 (by omega)]; exact hI.fl) (fun q hq => eh _ (by omega)) (fun q hq => ?_)
    by_cases z : q = s
    · rw [z]
      have hk := hI.ck hs
      unfold ckok at hk ⊢
      rw [c0, c1, c5, co 3 (by decide) (by decide) (by decide) (by decide), co 4 (by decide) (by decide) (by decide) (by decide), co 5 (by decide) (by decide) (by decide) (by decide), eh 0 (by omega), yi]
      omega
    · exact ck_row (hI.ck hq) (eh 0 (by omega)) (ec q hq z)
  have hR9 : drR r s x = R := by rw [hR, hy]; rfl
  rw [hR9]
  refine ⟨CK r s 2, mput (mput (mput g (2 + s) 0 y) (2 + s) 1 (r 0)) (2 + s) 2 x, ?_, rfl, ?_, hI', fun k hk => by rw [mput_ne (by omega), mput_ne (by omega), mput_ne (by omega)]⟩
  · unfold sX1_changeDrift
    simp only [k_off (hI.ck hs) hC hs (tm_r hI), bi_s, let_s, k_ck hC hs (show 2 < 6 by decide), hy]
  · skip
    refine cls_head hC hI (fun j hj => eh j (Or.inr hj)) (eh 3 (by omega)) (cla_srv hC.1 hs (fun k h1 _ => by rw [mput_ne h1, mput_ne h1, mput_ne h1]) (fun j hj => eh j (Or.inl hj)) (by rw [mp_at (by decide), mp_at (by decide), mp_at (by decide)]) ec (fun f hf => ?_)) (fun k h1 h2 => by rw [mput_ne (by omega), mput_ne (by omega), mput_ne (by omega)])
    rcases (show f = 0 ∨ f = 1 ∨ f = 2 ∨ (f ≠ 0 ∧ f ≠ 1 ∧ f ≠ 2) by omega) with z | z | z | ⟨z1, z2, z3⟩
    · rw [z, c0, mp_at (by decide), mp_at (by decide), mp_eq]
    · rw [z, c1, mp_at (by decide), mp_eq]
    · rw [z, c5, mp_eq]
    · rw [mp_at z3, mp_at z2, mp_at z1, co f hf z1 z2 z3]
      exact k_ck hC hs hf
def unR (r : Nat → Int32) (s : Nat) (x y : Int32) : Nat → Int32 := upd (upd r (7 + 6 * s + 3) x) (7 + 6 * s + 4) y
theorem y_unc {y : Int32} (hC : Cls g 0 r) (hI : Inv bd r) (hs : s < 3) (h1 : 0 ≤ x.toInt) (h2 : x.toInt ≤ 500) (h3 : 0 ≤ y.toInt) (h4 : y.toInt ≤ 100) : YO bd g (unR r s x y) (sBi (sX1_changeUncertainty g (2 + s) x y) fun g16 => sBi (sX1_uncertaintyAt g16 (2 + s) (g16 0 0)) fun r20 => some (r20, g16)) (fun v => v = iI (uncI (unR r s x y) s (r 0).toInt)) := by
  have htm := hI.tm
  obtain ⟨R, hR⟩ : ∃ z, z = upd (upd r (7 + 6 * s + 3) x) (7 + 6 * s + 4) y := ⟨_, rfl⟩
  have eC : ∀ q f, q < 3 → f < 6 → CK R q f = if q = s ∧ f = 4 then y else if q = s ∧ f = 3 then x else CK r q f := fun q f hq hf => by
    rw [hR, CK_st (by decide) hf, CK_st (by decide) hf]
  have eh : ∀ j, j < 7 ∨ 25 ≤ j → R j = r j := fun j hj => by rw [hR, st_hi hs (by decide) hj, st_hi hs (by decide) hj]
  have ec : ∀ q, q < 3 → q ≠ s → ∀ f, f < 6 → CK R q f = CK r q f := fun q hq hne f hf => by rw [eC q f hq hf, if_neg (by omega), if_neg (by omega)]
  have c3 : CK R s 3 = x := by rw [eC s 3 hs (by decide), if_neg (by omega), if_pos ⟨rfl, rfl⟩]
  have c4 : CK R s 4 = y := by rw [eC s 4 hs (by decide), if_pos ⟨rfl, rfl⟩]
  have co : ∀ f, f < 6 → f ≠ 3 → f ≠ 4 → CK R s f = CK r s f := fun f hf h0 h1 => by rw [eC s f hs hf, if_neg (by omega), if_neg (by omega)]
  have hI' : Inv bd R := by
    refine inv_head hI (Int.le_refl _) hI.bdl (fun j hj => eh j (Or.inr hj)) (eh 3 (by omega)) (by rw [eh 0 (by omega)]; exact htm) (by rw [eh 1 (by omega)]; exact hI.fl) (fun q hq => eh _ (by omega)) (fun q hq => ?_)
    by_cases z : q = s
    · rw [z]
      have hk := hI.ck hs
      unfold ckok at hk ⊢
      rw [c3, c4, co 0 (by decide) (by decide) (by decide), co 1 (by decide) (by decide) (by decide), co 2 (by decide) (by decide) (by decide), co 5 (by decide) (by decide) (by decide), eh 0 (by omega)]
      omega
    · exact ck_row (hI.ck hq) (eh 0 (by omega)) (ec q hq z)
  have hC' : Cls (mput (mput g (2 + s) 3 x) (2 + s) 4 y) 0 R := by
    refine cls_head hC hI (fun j hj => eh j (Or.inr hj)) (eh 3 (by omega)) (cla_srv hC.1 hs (fun k h1 _ => by rw [mput_ne h1, mput_ne h1]) (fun j hj => eh j (Or.inl hj)) (by rw [mp_at (by decide), mp_at (by decide)]) ec (fun f hf => ?_)) (fun k h1 h2 => by rw [mput_ne (by omega), mput_ne (by omega)])
    rcases (show f = 3 ∨ f = 4 ∨ (f ≠ 3 ∧ f ≠ 4) by omega) with z | z | ⟨z1, z2⟩
    · rw [z, c3, mp_at (by decide), mp_eq]
    · rw [z, c4, mp_eq]
    · rw [mp_at z2, mp_at z1, co f hf z1 z2]
      exact k_ck hC hs hf
  have e0 : R 0 = r 0 := eh 0 (by omega)
  have hR9 : unR r s x y = R := hR.symm
  rw [hR9]
  refine ⟨iI (uncI R s (R 0).toInt), mput (mput g (2 + s) 3 x) (2 + s) 4 y, ?_, by rw [e0], hC', hI', fun k hk => by rw [mput_ne (by omega), mput_ne (by omega)]⟩
  unfold sX1_changeUncertainty
  rw [let_s, let_s, bi_s, k_t0 hC', k_unc (hI'.ck hs) hC' hs (tm_r hI'), bi_s]
theorem y_floor (hn : 10010 ≤ n) (hC : Cls g 0 r) (hI : Inv bd r) (hk : k < 8) (h0 : 0 ≤ x.toInt) (h1 : x.toInt ≤ bd) : ∃ v, sX5_valueOf n (mput g 0 1 (sMax (g 0 1) x)) 5 (nI k) x = some v ∧ WV (upd r 1 (sMax (r 1) x)) k x v ∧ Cls (mput g 0 1 (sMax (g 0 1) x)) 0 (upd r 1 (sMax (r 1) x)) ∧ Inv bd (upd r 1 (sMax (r 1) x)) := by
  have e1 : g 0 1 = r 1 := k_t1 hC
  rw [e1]
  have ej : ∀ j, j ≠ 1 → upd r 1 (sMax (r 1) x) j = r j := fun j hj => pk_un hj
  have hfl := hI.fl
  have hI' : Inv bd (upd r 1 (sMax (r 1) x)) := by
    refine inv_head hI (Int.le_refl _) hI.bdl (fun j hj => ej j (by omega)) (ej 3 (by decide)) (by rw [ej 0 (by decide)]; exact hI.tm) (by rw [pk_us, sMax_i]; omega) (fun q hq => ej _ (by omega)) (fun q hq => ck_row (hI.ck hq) (ej 0 (by decide)) (fun f hf => ej _ (by omega)))
  have hC' : Cls (mput g 0 1 (sMax (r 1) x)) 0 (upd r 1 (sMax (r 1) x)) := by
    obtain ⟨a1, a2, a3, a4, a5⟩ := hC.1
    refine cls_head hC hI (fun j hj => ej j (by omega)) (ej 3 (by decide)) ⟨?_, ?_, ?_, fun q hq f hf => ?_, fun q hq => ?_⟩ (fun k h1 h2 => mput_ne (by omega))
    · rw [mp_at (by decide), ej 0 (by decide)]; exact a1
    · rw [mp_eq, pk_us]
    · rw [mp_at (by decide), ej 2 (by decide)]; exact a3
    · rw [mput_ne (by omega)]
      show _ = upd r 1 (sMax (r 1) x) (7 + 6 * q + f)
      rw [ej _ (by omega)]
      exact a4 q hq f hf
    · rw [mput_ne (by omega), ej _ (by omega)]
      exact a5 q hq
  obtain ⟨v, v1, v2⟩ := k_valueOf hn hI' (hC'.2.2.1 k hk) hk x
  exact ⟨v, v2, v1, hC', hI'⟩
end VB
