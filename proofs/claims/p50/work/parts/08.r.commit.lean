/-! the pure part: a waiting transaction becomes committed -/
def cmtR (r : Nat → Int32) (t : Nat) (x : Int32) : Nat → Int32 := upd (upd (upd r (25 + 21 * t + 1) 2) (25 + 21 * t + 4) x) 2 (r 2 + us r (srv r t) x)
section QD
variable {bd bd' : Int} {g g' m : Mem} {r r' : Nat → Int32} {n t k s K T B c i : Nat} {x v w : Int32}
theorem cmtR_lo {j : Nat} (h2 : j ≠ 2) (hj : j < 25) : cmtR r t x j = r j := by
  unfold cmtR upd
  rw [if_neg h2, if_neg (by omega), if_neg (by omega)]
theorem cmtR_2 : cmtR r t x 2 = r 2 + us r (srv r t) x := by
  unfold cmtR upd
  rw [if_pos rfl]
theorem cmtR_TX {u f : Nat} (hf : f < 21) : TX (cmtR r t x) u f = if u = t ∧ f = 1 then 2 else if u = t ∧ f = 4 then x else TX r u f := by
  unfold cmtR
  rw [TX_lo (by decide), TX_up (by decide) hf, TX_up (by decide) hf]
  by_cases z : u = t
  · rcases (show f = 1 ∨ f = 4 ∨ (f ≠ 1 ∧ f ≠ 4) by omega) with e | e | ⟨e1, e2⟩
    · simp [z, e]
    · simp [z, e]
    · simp [e1, e2]
  · simp [z]
theorem cmtR_CK {q f : Nat} (hq : q < 3) (hf : f < 6) : CK (cmtR r t x) q f = CK r q f := cmtR_lo (by omega) (by omega)
theorem cmtR_nB : nB (cmtR r t x) = nB r := by
  unfold nB
  rw [cmtR_lo (by decide) (by decide)]
theorem cmtR_o {u f : Nat} (hf : f < 21) (h1 : f ≠ 1) (h4 : f ≠ 4) : TX (cmtR r t x) u f = TX r u f := by
  rw [cmtR_TX hf, if_neg (by omega), if_neg (by omega)]
theorem cmtR_row : Row1 r (cmtR r t x) t := fun u f hu hf hne => by rw [cmtR_TX hf, if_neg (fun z => hne z.1), if_neg (fun z => hne z.1)]
theorem cmtR_1 : TX (cmtR r t x) t 1 = 2 := by rw [cmtR_TX (by decide), if_pos ⟨rfl, rfl⟩]
theorem cmtR_wr {u : Nat} (hk : k < 8) : wr (cmtR r t x) u k = wr r u k := by
  unfold wr
  rw [cmtR_o (by omega) (by omega) (by omega)]
theorem cmtR_ver (hu : T < 40) (hk : k < 8) (hne : T ≠ t) : ver (cmtR r t x) T k = ver r T k := ver_row cmtR_row hu hk hne
theorem cmtR_vt (hk : k < 8) : ver (cmtR r t x) t k = wr r t k := by
  unfold ver
  rw [cmtR_1, cmtR_wr hk]
  rfl
theorem inv_cmt (hI : Inv bd r) (ht : t < nB r) (h1 : TX r t 1 = 1) (x : Int32) : Inv bd (cmtR r t x) := by
  have hb := hI.b40
  have eB : nB (cmtR r t x) = nB r := cmtR_nB
  have ho : ∀ u, u < nB (cmtR r t x) → u ≠ t → u < nB r := fun u q _ => by rw [eB] at q; exact q
  refine inv_row hI (Int.le_refl _) hI.bdl (by rw [cmtR_lo (by decide) (by decide), eB]; exact hI.r3) (by rw [eB]; exact hb) ho cmtR_row (cmtR_lo (by decide) (by decide)) (cmtR_lo (by decide) (by decide)) (fun q hq f hf => cmtR_CK hq hf) (fun q hq => by rw [cmtR_lo (by omega) (by omega)]; exact hI.asg hq) (fun _ => ?_) ?_
  · obtain ⟨x1, x2, x3, x4, x5, x6⟩ := hI.tx ht
    unfold txok
    rw [cmtR_1, cmtR_o (by decide) (by decide) (by decide), cmtR_o (by decide) (by decide) (by decide), cmtR_o (by decide) (by decide) (by decide)]
    refine ⟨x1, Or.inr (Or.inr (Or.inl rfl)), fun _ => x3 (Or.inl h1), fun z => ?_, fun z => absurd rfl z, fun k hk => by rw [cmtR_o (by omega) (by omega) (by omega), cmtR_o (by omega) (by omega) (by omega)]; exact x6 k hk⟩
    rcases z with z | z
    · exact absurd z (by decide)
    · exact absurd z (by decide)
  · intro a ha hwa k hk hwk u hu
    rw [eB] at ha hu
    have za : a ≠ t := fun z => by rw [z, cmtR_1] at hwa; revert hwa; decide
    rw [cmtR_wr hk] at hwk
    rw [cmtR_row a 1 (by omega) (by decide) za] at hwa
    rw [cmtR_row a 2 (by omega) (by decide) za, cmtR_wr hk]
    by_cases zu : u = t
    · rw [zu, cmtR_1, cmtR_vt hk]
      refine ⟨fun z => absurd z (by decide), fun z => ?_⟩
      exact absurd ((hI.lk a ha hwa k hk hwk t ht).1 h1 z).symm za
    · rw [cmtR_row u 1 (by omega) (by decide) zu, cmtR_row u 2 (by omega) (by decide) zu, cmtR_ver (by omega) hk zu]
      exact hI.lk a ha hwa k hk hwk u hu
theorem clV_same (hV : ClV g 0 r k) (eB : nB r' = nB r) (ev : ∀ u, u < nB r → ver r' u k = ver r u k) (e2 : ∀ u, u < nB r → TX r' u 2 = TX r u 2) (e5 : ∀ u, u < nB r → TX r' u (5 + k) = TX r u (5 + k)) (h6 : g' 6 k = g 6 k) (h7 : ∀ q, q ≤ cv r k → g' 7 (k * 41 + q) = g 7 (k * 41 + q) ∧ g' 8 (k * 41 + q) = g 8 (k * 41 + q)) : cv r' k = cv r k ∧ ClV g' 0 r' k := by
  have ec : cv r' k = cv r k := by
    unfold cv
    rw [eB]
    exact cnt_cg _ ev
  obtain ⟨c1, c2, c3, c4, c5, c6, c7⟩ := hV
  simp only [Nat.zero_add] at c1 c2 c3 c4 c5 c6 c7
  refine ⟨ec, ?_⟩
  unfold ClV
  simp only [Nat.zero_add]
  have q7 : ∀ q, q ≤ cv r k → g' 7 (k * 41 + q) = g 7 (k * 41 + q) := fun q hq => (h7 q hq).1
  have q8 : ∀ q, q ≤ cv r k → g' 8 (k * 41 + q) = g 8 (k * 41 + q) := fun q hq => (h7 q hq).2
  rw [ec, eB]
  refine ⟨h6.trans c1, (q7 0 (Nat.zero_le _)).trans c2, (q8 0 (Nat.zero_le _)).trans c3, fun i i1 i2 => ?_, fun u hu hv => ?_, fun i j h1 h2 => by rw [q7 i (by omega), q7 j h2]; exact c6 i j h1 h2, fun i i1 i2 => ?_⟩
  · obtain ⟨u, u1, u2, u3, u4⟩ := c4 i i1 i2
    exact ⟨u, u1, (ev u u1).trans u2, by rw [q7 i i2, e2 u u1]; exact u3, by rw [q8 i i2, e5 u u1]; exact u4⟩
  · rw [ev u hu] at hv
    obtain ⟨i, i1, i2, i3, i4⟩ := c5 u hu hv
    exact ⟨i, i1, i2, by rw [q7 i i2, e2 u hu]; exact i3, by rw [q8 i i2, e5 u hu]; exact i4⟩
  · refine Eq.trans ?_ (c7 i i1 i2)
    congr 1
    exact cnt_cg _ (fun u hu => by rw [ev u hu, e2 u hu, q7 i i2])
theorem clV_new (hV : ClV g 0 r k) (ht : t < nB r) (eB : nB r' = nB r) (ev : ∀ u, u < nB r → u ≠ t → ver r' u k = ver r u k) (evt : ver r' t k = true) (evo : ver r t k = false) (e2 : ∀ u, u < nB r → TX r' u 2 = TX r u 2) (e5 : ∀ u, u < nB r → TX r' u (5 + k) = TX r u (5 + k)) (h6 : g' 6 k = nI (cv r k + 2)) (h7 : ∀ q, q ≤ cv r k → g' 7 (k * 41 + q) = g 7 (k * 41 + q) ∧ g' 8 (k * 41 + q) = g 8 (k * 41 + q)) (n7 : g' 7 (k * 41 + (cv r k + 1)) = TX r t 2) (n8 : g' 8 (k * 41 + (cv r k + 1)) = TX r t (5 + k)) (hp : 1 ≤ (TX r t 2).toInt) (hlt : ∀ u, u < nB r → ver r u k = true → (TX r u 2).toInt < (TX r t 2).toInt) : cv r' k = cv r k + 1 ∧ ClV g' 0 r' k := by
  have ec : cv r' k = cv r k + 1 := by
    unfold cv
    rw [eB]
    exact cnt_set (p := fun u => ver r u k) (q := fun u => ver r' u k) (t := t) evo evt _ ht (fun u hu hne => (ev u hu hne).symm)
  have hlt7 : ∀ q, q ≤ cv r k → (g 7 (k * 41 + q)).toInt < (TX r t 2).toInt := fun q hq => by
    by_cases z : q = 0
    · rw [z, Nat.add_zero, vt_0 hV]; omega
    · obtain ⟨u, u1, u2, u3, u4⟩ := v_at hV (by omega) hq
      rw [u3]
      exact hlt u u1 u2
  obtain ⟨c1, c2, c3, c4, c5, c6, c7⟩ := hV
  simp only [Nat.zero_add] at c1 c2 c3 c4 c5 c6 c7
  refine ⟨ec, ?_⟩
  unfold ClV
  simp only [Nat.zero_add]
  have q7 : ∀ q, q ≤ cv r k → g' 7 (k * 41 + q) = g 7 (k * 41 + q) := fun q hq => (h7 q hq).1
  have q8 : ∀ q, q ≤ cv r k → g' 8 (k * 41 + q) = g 8 (k * 41 + q) := fun q hq => (h7 q hq).2
  have vne : ∀ u, ver r u k = true → u ≠ t := fun u hv z => by rw [z, evo] at hv; cases hv
  rw [ec, eB]
  refine ⟨h6, (q7 0 (Nat.zero_le _)).trans c2, (q8 0 (Nat.zero_le _)).trans c3, fun i i1 i2 => ?_, fun u hu hv => ?_, fun i j h1 h2 => ?_, fun i i1 i2 => ?_⟩
  · by_cases z : i = cv r k + 1
    · rw [z]
      exact ⟨t, ht, evt, by rw [n7, e2 t ht], by rw [n8, e5 t ht]⟩
    · obtain ⟨u, u1, u2, u3, u4⟩ := c4 i i1 (by omega)
      exact ⟨u, u1, (ev u u1 (vne u u2)).trans u2, by rw [q7 i (by omega), e2 u u1]; exact u3, by rw [q8 i (by omega), e5 u u1]; exact u4⟩
  · by_cases z : u = t
    · rw [z]
      exact ⟨cv r k + 1, by omega, Nat.le_refl _, by rw [n7, e2 t ht], by rw [n8, e5 t ht]⟩
    · rw [ev u hu z] at hv
      obtain ⟨i, i1, i2, i3, i4⟩ := c5 u hu hv
      exact ⟨i, i1, by omega, by rw [q7 i i2, e2 u hu]; exact i3, by rw [q8 i i2, e5 u hu]; exact i4⟩
  · by_cases z : j = cv r k + 1
    · rw [z, n7, q7 i (by omega)]
      exact hlt7 i (by omega)
    · rw [q7 i (by omega), q7 j (by omega)]
      exact c6 i j h1 (by omega)
  · by_cases z : i = cv r k + 1
    · rw [z, n7]
      congr 1
      unfold cv
      refine cnt_cg _ (fun u hu => ?_)
      rw [e2 u hu]
      by_cases y : u = t
      · rw [y, evt, evo, decide_eq_false (show ¬ TX r t 2 < TX r t 2 by rw [i_lt]; omega), Bool.and_false]
      · rw [ev u hu y]
        cases hv : ver r u k with
        | false => rw [Bool.false_and]
        | true => rw [decide_eq_true (show TX r u 2 < TX r t 2 by rw [i_lt]; exact hlt u hu hv), Bool.and_true]
    · rw [q7 i (by omega)]
      refine Eq.trans ?_ (c7 i i1 (by omega))
      congr 1
      refine cnt_cg _ (fun u hu => ?_)
      rw [e2 u hu]
      by_cases y : u = t
      · have := hlt7 i (by omega)
        rw [y, evt, evo, decide_eq_false (show ¬ TX r t 2 < g 7 (k * 41 + i) by rw [i_lt]; omega), Bool.and_false, Bool.false_and]
      · rw [ev u hu y]
theorem k_addv (h6 : g 6 i = nI (c + 1)) (hi : i < 8) (hc : c + 1 ≤ 40) : sX5_add g 5 (nI i) v w = some (mput (mput (mput g 7 (i * 41 + (c + 1)) v) 8 (i * 41 + (c + 1)) w) 6 i (nI (c + 2))) := by
  have hbi : (nI i).toNatClampNeg = i := nI_clamp (by omega)
  have hbp : (nI (i * 41 + (c + 1))).toNatClampNeg = i * 41 + (c + 1) := nI_clamp (by omega)
  have ip : ∀ {α : Type} {x : Option α}, (sIdx (nI (i * 41 + (c + 1))) 328 fun _ => x) = x := ix_e _ rfl (by omega) (by decide)
  have e6 : mput (mput g 7 (i * 41 + (c + 1)) v) 8 (i * 41 + (c + 1)) w 6 i = nI (c + 1) := by rw [mput_ne (by decide), mput_ne (by decide), h6]
  unfold sX5_add
  simp only [Nat.reduceAdd, ix8 hi, hbi, h6, ix41, ip, hbp, let_s, e6, nI_1]
theorem hw_cg {a b : Int32} (e : g' 15 = g 15) : sX4_hasWritten g' 9 a b = sX4_hasWritten g 9 a b := by
  unfold sX4_hasWritten
  simp only [Nat.reduceAdd, e]
theorem bf_cg {a b : Int32} (e : g' 15 = g 15) : sX4_bufferOf g' 9 a b = sX4_bufferOf g 9 a b := by
  unfold sX4_bufferOf
  simp only [Nat.reduceAdd, e]
theorem cv_39 (hI : Inv bd r) (ht : t < nB r) (hv : ver r t k = false) : cv r k + 1 ≤ 40 := by
  have h1 := hI.b40
  have h2 : cv r k < cnt (fun _ => true) (nB r) := cnt_lt (fun _ _ _ => rfl) ht rfl hv
  have h3 := cnt_le (fun _ => true) (nB r)
  omega
theorem k_mc22 (hn : 10010 ≤ n) (hC : Cls g 0 r) (hI : Inv bd r) (ht : t < nB r) (h1 : TX r t 1 = 1) (hx : tmok r x) {G : Mem} (e6 : G 6 = g 6) (e7 : G 7 = g 7) (e8 : G 8 = g 8) (e15 : G 15 = g 15) (e12 : G 12 = g 12) (e10 : G 10 = g 10) (es : ∀ q, q < 3 → G (2 + q) = g (2 + q)) : ∃ g', sX2_makeCommitted_22 n n G 0 (nI t) x 0 = some g' ∧ (∀ k, k ≠ 0 → k ≠ 6 → k ≠ 7 → k ≠ 8 → g' k = G k) ∧ g' 0 2 = G 0 2 + us r (srv r t) x ∧ (∀ j, j ≠ 2 → g' 0 j = G 0 j) ∧ ∀ k, k < 8 → g' 6 k = (if wr r t k = true then nI (cv r k + 2) else g 6 k) ∧ ∀ q, q ≤ 40 → g' 7 (k * 41 + q) = (if wr r t k = true ∧ q = cv r k + 1 then TX r t 2 else g 7 (k * 41 + q)) ∧ g' 8 (k * 41 + q) = (if wr r t k = true ∧ q = cv r k + 1 then TX r t (5 + k) else g 8 (k * 41 + q)) := by
  have hb := hI.b40
  obtain ⟨s1, s2⟩ := srv_q hI ht
  have hbt : (nI t).toNatClampNeg = t := nI_clamp (by omega)
  have hbs : (nI (srv r t)).toNatClampNeg = srv r t := nI_clamp (by omega)
  have hv : ∀ k, ver r t k = false := fun k => ver_n2 (by rw [h1]; decide)
  have key := lp_iv (fun f s i => sX2_makeCommitted_22 n f s 0 (nI t) x i) 8 (fun s => some (mput s 0 2 (s 0 2 + us r (srv r t) x))) (fun i s => (∀ k, k ≠ 6 → k ≠ 7 → k ≠ 8 → s k = G k) ∧ ∀ k, k < 8 → s 6 k = (if k < i ∧ wr r t k = true then nI (cv r k + 2) else g 6 k) ∧ ∀ q, q ≤ 40 → s 7 (k * 41 + q) = (if k < i ∧ wr r t k = true ∧ q = cv r k + 1 then TX r t 2 else g 7 (k * 41 + q)) ∧ s 8 (k * 41 + q) = (if k < i ∧ wr r t k = true ∧ q = cv r k + 1 then TX r t (5 + k) else g 8 (k * 41 + q))) (fun f i s hi hp => by
      obtain ⟨p1, p2⟩ := hp
      have hle : ¬ (8 : Int32) ≤ nI i := nI_ge (b := 8) hi (by decide)
      have s15 : s 15 = g 15 := (p1 15 (by decide) (by decide) (by decide)).trans e15
      have s12 : s 12 t = TX r t 2 := by rw [p1 12 (by decide) (by decide) (by decide), e12]; exact k_f2 hC ht
      have hw : sX4_hasWritten s 9 (nI t) (nI i) = some (b2 (wr r t i)) := by rw [hw_cg s15]; exact k_wr hI hC ht hi
      have hbf : sX4_bufferOf s 9 (nI t) (nI i) = some (TX r t (5 + i)) := by rw [bf_cg s15]; exact k_bf hI hC ht hi
      cases ew : wr r t i with
      | false =>
        refine ⟨s, ⟨p1, fun k hk => ?_⟩, ?_⟩
        · obtain ⟨a1, a2⟩ := p2 k hk
          by_cases z : k = i
          · subst z
            rw [a1, ew, if_neg (by omega), if_neg (by simp)]
            refine ⟨rfl, fun q hq => ?_⟩
            rw [(a2 q hq).1, (a2 q hq).2, ew, if_neg (by omega), if_neg (by simp), if_neg (by omega), if_neg (by simp)]
            exact ⟨rfl, rfl⟩
          · have e : (k < i + 1) = (k < i) := propext ⟨fun _ => by omega, fun _ => by omega⟩
            simp only [e]
            exact ⟨a1, a2⟩
        · simp only [sX2_makeCommitted_22, hle, if_false, Nat.zero_add, hw, ew, bi_s, b2_f, if_true, nI_1]
      | true =>
        obtain ⟨a1, a2⟩ := p2 i hi
        rw [if_neg (by omega)] at a1
        have hV := hC.2.2.1 i hi
        have c1 : s 6 i = nI (cv r i + 1) := a1.trans hV.1
        have c40 : cv r i + 1 ≤ 40 := cv_39 hI ht (hv i)
        refine ⟨mput (mput (mput s 7 (i * 41 + (cv r i + 1)) (TX r t 2)) 8 (i * 41 + (cv r i + 1)) (TX r t (5 + i))) 6 i (nI (cv r i + 2)), ⟨fun k h6 h7 h8 => by rw [mput_ne h6, mput_ne h8, mput_ne h7]; exact p1 k h6 h7 h8, fun k hk => ?_⟩, ?_⟩
        · obtain ⟨b1, b2⟩ := p2 k hk
          by_cases z : k = i
          · subst z
            rw [mp_eq, ew, if_pos ⟨by omega, rfl⟩]
            refine ⟨rfl, fun q hq => ?_⟩
            by_cases y : q = cv r k + 1
            · rw [y, mput_ne (by decide), mput_ne (by decide), mp_eq, if_pos ⟨by omega, rfl, rfl⟩, mput_ne (by decide), mp_eq, if_pos ⟨by omega, rfl, rfl⟩]
              exact ⟨rfl, rfl⟩
            · rw [mput_ne (by decide), mput_ne (by decide), mp_at (by omega), mput_ne (by decide), mp_at (by omega), mput_ne (by decide), (b2 q hq).1, (b2 q hq).2, if_neg (by omega), if_neg (fun z => y z.2.2), if_neg (by omega), if_neg (fun z => y z.2.2)]
              exact ⟨rfl, rfl⟩
          · have e : (k < i + 1) = (k < i) := propext ⟨fun _ => by omega, fun _ => by omega⟩
            simp only [e]
            rw [mp_at z, mput_ne (by decide), mput_ne (by decide)]
            refine ⟨b1, fun q hq => ?_⟩
            rw [mput_ne (by decide), mput_ne (by decide), mp_at (by omega), mput_ne (by decide), mp_at (by omega), mput_ne (by decide)]
            exact b2 q hq
        · simp only [sX2_makeCommitted_22, hle, if_false, Nat.zero_add, hw, ew, bi_s, b2_t, i10, ix40 (show t < 40 by omega), hbf, Nat.reduceAdd, hbt, s12, k_addv c1 hi c40, nI_1]) (fun f s hp => by
      obtain ⟨p1, p2⟩ := hp
      have hle : (8 : Int32) ≤ nI 8 := nI_le (Nat.le_refl _) (by decide)
      have s10 : s 10 t = nI (srv r t) := by rw [p1 10 (by decide) (by decide) (by decide), e10]; exact (k_f0 hC ht).trans s2
      have ss : s (2 + srv r t) = g (2 + srv r t) := (p1 _ (by omega) (by omega) (by omega)).trans (es _ s1)
      have hsnd : sX1_isSoundAt s (2 + srv r t) x = some (b2 (sndI r (srv r t) x.toInt)) := by
        rw [snd_cg (g := g) (K' := 2 + srv r t) (fun f _ => by rw [ss])]
        exact k_snd (hI.ck s1) hC s1 hx
      simp only [sX2_makeCommitted_22, hle, if_true, ix40 (show t < 40 by omega), Nat.zero_add, Nat.reduceAdd, hbt, s10, ix3 s1, hbs]
      exact k_uses hsnd) 8 0 (by omega) n (by omega) G ⟨fun k _ _ _ => rfl, fun k hk => by
      rw [if_neg (by omega), e6, e7, e8]
      refine ⟨rfl, fun q hq => ?_⟩
      rw [if_neg (by omega), if_neg (by omega)]
      exact ⟨rfl, rfl⟩⟩
  obtain ⟨s, ⟨p1, p2⟩, p4⟩ := key
  refine ⟨_, p4, fun k h0 h6 h7 h8 => by rw [mput_ne h0]; exact p1 k h6 h7 h8, by rw [mp_eq, p1 0 (by decide) (by decide) (by decide)], fun j hj => by rw [mp_at hj, p1 0 (by decide) (by decide) (by decide)], fun k hk => ?_⟩
  obtain ⟨a1, a2⟩ := p2 k hk
  have e : (k < 8) = True := propext ⟨fun _ => trivial, fun _ => hk⟩
  simp only [e, true_and] at a1 a2
  rw [mput_ne (by decide), mput_ne (by decide), mput_ne (by decide)]
  exact ⟨a1, a2⟩
theorem op_commit1 (hn : 10010 ≤ n) (hC : Cls g 0 r) (hI : Inv bd r) (ht : t < nB r) (h1 : TX r t 1 = 1) (hx : tmok r x) : ∃ g', sX2_makeCommitted n g 0 (nI t) x = some g' ∧ Cls g' 0 (cmtR r t x) ∧ ∀ k, 17 ≤ k → g' k = g k := by
  have hb := hI.b40
  have hbt : (nI t).toNatClampNeg = t := nI_clamp (by omega)
  obtain ⟨G, hG⟩ : ∃ z, z = mput (mput g 11 t 2) 14 t x := ⟨_, rfl⟩
  have Gk : ∀ k, k ≠ 11 → k ≠ 14 → G k = g k := fun k h1 h2 => by rw [hG, mput_ne h2, mput_ne h1]
  obtain ⟨g', a1, a2, a3, a4, a5⟩ := k_mc22 hn hC hI ht h1 hx (G := G) (Gk 6 (by decide) (by decide)) (Gk 7 (by decide) (by decide)) (Gk 8 (by decide) (by decide)) (Gk 15 (by decide) (by decide)) (Gk 12 (by decide) (by decide)) (Gk 10 (by decide) (by decide)) (fun q hq => Gk _ (by omega) (by omega))
  have gk : ∀ k, k ≠ 0 → k ≠ 6 → k ≠ 7 → k ≠ 8 → k ≠ 11 → k ≠ 14 → g' k = g k := fun k h0 h6 h7 h8 h11 h14 => (a2 k h0 h6 h7 h8).trans (Gk k h11 h14)
  have g11 : ∀ u, g' 11 u = if u = t then 2 else g 11 u := fun u => by
    rw [a2 11 (by decide) (by decide) (by decide) (by decide), hG, mput_ne (by decide)]
    by_cases z : u = t
    · rw [z, mp_eq, if_pos rfl]
    · rw [mp_at z, if_neg z]
  have g14 : ∀ u, g' 14 u = if u = t then x else g 14 u := fun u => by
    rw [a2 14 (by decide) (by decide) (by decide) (by decide), hG]
    by_cases z : u = t
    · rw [z, mp_eq, if_pos rfl]
    · rw [mp_at z, if_neg z, mput_ne (by decide)]
  have eB : nB (cmtR r t x) = nB r := cmtR_nB
  have hv : ∀ k, ver r t k = false := fun k => ver_n2 (by rw [h1]; decide)
  have hVk : ∀ k, k < 8 → (cv r k ≤ cv (cmtR r t x) k) ∧ ClV g' 0 (cmtR r t x) k := fun k hk => by
    obtain ⟨b1, b2⟩ := a5 k hk
    have hV := hC.2.2.1 k hk
    have hc40 := cv_39 hI ht (hv k)
    have e2 : ∀ u, u < nB r → TX (cmtR r t x) u 2 = TX r u 2 := fun u _ => cmtR_o (by decide) (by decide) (by decide)
    have e5 : ∀ u, u < nB r → TX (cmtR r t x) u (5 + k) = TX r u (5 + k) := fun u _ => cmtR_o (by omega) (by omega) (by omega)
    cases ew : wr r t k with
    | false =>
      rw [ew] at b1 b2
      have := clV_same (r' := cmtR r t x) (g' := g') hV eB (fun u hu => by
        by_cases z : u = t
        · rw [z, cmtR_vt hk, ew, hv k]
        · exact cmtR_ver (by omega) hk z) e2 e5 (by rw [b1, if_neg (by decide)]) (fun q hq => by
        rw [(b2 q (by omega)).1, (b2 q (by omega)).2, if_neg (by simp), if_neg (by simp)]
        exact ⟨rfl, rfl⟩)
      exact ⟨by rw [this.1]; exact Nat.le_refl _, this.2⟩
    | true =>
      rw [ew] at b1 b2
      have := clV_new (r' := cmtR r t x) (g' := g') hV ht eB (fun u hu hne => cmtR_ver (by omega) hk hne) (by rw [cmtR_vt hk, ew]) (hv k) e2 e5 (by rw [b1, if_pos rfl]) (fun q hq => by
        rw [(b2 q (by omega)).1, (b2 q (by omega)).2, if_neg (by omega), if_neg (by omega)]
        exact ⟨rfl, rfl⟩) (by rw [(b2 _ hc40).1, if_pos ⟨rfl, rfl⟩]) (by rw [(b2 _ hc40).2, if_pos ⟨rfl, rfl⟩]) ((hI.tx ht).2.2.1 (Or.inl h1)).1 (fun u hu hvu => (hI.lk t ht h1 k hk ew u hu).2 hvu)
      exact ⟨by rw [this.1]; omega, this.2⟩
  refine ⟨g', ?_, ⟨?_, ⟨?_, fun u hu => ?_⟩, fun k hk => (hVk k hk).2, fun u hu k hk => ?_⟩, fun k hk => gk k (by omega) (by omega) (by omega) (by omega) (by omega) (by omega)⟩
  · unfold sX2_makeCommitted
    simp only [Nat.zero_add, Nat.reduceAdd, ix40 (show t < 40 by omega), hbt, let_s, ← hG]
    exact a1
  · obtain ⟨d1, d2, d3, d4, d5⟩ := hC.1
    have G0 : G 0 = g 0 := Gk 0 (by decide) (by decide)
    refine ⟨?_, ?_, ?_, fun q hq f hf => ?_, fun q hq => ?_⟩
    · rw [a4 0 (by decide), G0, cmtR_lo (by decide) (by decide)]; exact d1
    · rw [a4 1 (by decide), G0, cmtR_lo (by decide) (by decide)]; exact d2
    · rw [a3, G0, cmtR_2, d3]
    · rw [cmtR_CK hq hf, gk _ (by omega) (by omega) (by omega) (by omega) (by omega) (by omega)]
      exact d4 q hq f hf
    · rw [cmtR_lo (by omega) (by omega), gk _ (by omega) (by omega) (by omega) (by omega) (by omega) (by omega)]
      exact d5 q hq
  · rw [Nat.zero_add, gk 9 (by decide) (by decide) (by decide) (by decide) (by decide) (by decide), cmtR_lo (by decide) (by decide)]
    exact (k_b hC hI).trans hI.r3.symm
  · rw [eB] at hu
    simp only [Nat.zero_add]
    rw [gk 10 (by decide) (by decide) (by decide) (by decide) (by decide) (by decide), gk 12 (by decide) (by decide) (by decide) (by decide) (by decide) (by decide), gk 13 (by decide) (by decide) (by decide) (by decide) (by decide) (by decide), gk 15 (by decide) (by decide) (by decide) (by decide) (by decide) (by decide), g11, g14]
    rw [cmtR_o (f := 0) (by decide) (by decide) (by decide), cmtR_o (f := 2) (by decide) (by decide) (by decide), cmtR_o (f := 3) (by decide) (by decide) (by decide)]
    refine ⟨k_f0 hC hu, ?_, k_f2 hC hu, k_f3 hC hu, ?_, fun k hk => ?_⟩
    · rw [cmtR_TX (by decide)]
      by_cases z : u = t
      · rw [if_pos z, if_pos ⟨z, rfl⟩]
      · rw [if_neg z, if_neg (fun y => z y.1), if_neg (fun y => z y.1)]
        exact k_f1 hC hu
    · rw [cmtR_TX (by decide)]
      by_cases z : u = t
      · rw [if_pos z, if_neg (by omega), if_pos ⟨z, rfl⟩]
      · rw [if_neg z, if_neg (fun y => z y.1), if_neg (fun y => z y.1)]
        exact k_f4 hC hu
    · rw [cmtR_o (by omega) (by omega) (by omega)]
      have := (hC.2.1.2 u hu).2.2.2.2.2 k hk
      simpa using this
  · rw [eB] at hu
    simp only [Nat.zero_add]
    rw [gk 16 (by decide) (by decide) (by decide) (by decide) (by decide) (by decide), cmtR_o (by omega) (by omega) (by omega)]
    have q := hC.2.2.2 u hu k hk
    simp only [Nat.zero_add] at q
    rcases q with z | ⟨i, i1, i2, i3⟩
    · exact Or.inl z
    · refine Or.inr ⟨i, Nat.le_trans i1 (hVk k hk).1, i2, ?_⟩
      have hc40 := cv_39 hI ht (hv k)
      rw [((a5 k hk).2 i (by omega)).1, if_neg (by omega)]
      exact i3
theorem r_commit1 (hI : Inv bd (m 1)) (ht : t < nB (m 1)) {α : Type} (Kk : Mem → Option α) : ∃ m', (sBi (sX7_lays m ((21 : Int32) * nI t + (1 : Int32)) 2) fun g20 => sIdx (0 : Int32) 865 fun _ => sBi (sX7_lays g20 ((21 : Int32) * nI t + (4 : Int32)) (g20 1 (0 : Int32).toNatClampNeg)) fun g24 => sBi (sX7_of g24 (nI t) (0 : Int32)) fun r27 => sBi (sX7_uses g24 r27) Kk) = Kk m' ∧ m' 1 = cmtR (m 1) t (m 1 0) ∧ ∀ k, k ≠ 1 → m' k = m k := by
  have hb := hI.b40
  obtain ⟨s1, s2⟩ := srv_q hI ht
  obtain ⟨M, hM⟩ : ∃ z, z = mput (mput m 1 (25 + 21 * t + 1) 2) 1 (25 + 21 * t + 4) (m 1 0) := ⟨_, rfl⟩
  have Mlo : ∀ j, j < 25 → M 1 j = m 1 j := fun j hj => by rw [hM, mp_at (by omega), mp_at (by omega)]
  have MT : TX (M 1) t 0 = nI (srv (m 1) t) := by
    rw [hM, mput_eq, mput_eq, TX_up (by decide) (by decide), if_neg (by omega), TX_up (by decide) (by decide), if_neg (by omega)]
    exact s2
  have Mck : ∀ f, f < 6 → CK (M 1) (srv (m 1) t) f = CK (m 1) (srv (m 1) t) f := fun f hf => Mlo _ (by omega)
  have htm : tmok (M 1) (M 1 0) := by
    have := tm_r hI
    unfold tmok at this ⊢
    rw [Mlo 0 (by decide)]; exact this
  have hu := r_uses (ck_row (hI.ck s1) (Mlo 0 (by decide)) Mck) s1 htm
  rw [Mlo 0 (by decide), Mlo 2 (by decide)] at hu
  have eu : us (M 1) (srv (m 1) t) (m 1 0) = us (m 1) (srv (m 1) t) (m 1 0) := by
    unfold us
    rw [sndI_cg Mck]
  rw [eu] at hu
  refine ⟨mput M 1 2 (m 1 2 + us (m 1) (srv (m 1) t) (m 1 0)), ?_, ?_, fun k hk => by rw [mput_ne hk, hM, mput_ne hk, mput_ne hk]⟩
  · rw [lay_q (F := 1) (l21n 1 1 rfl) (by omega) (by decide), bi_s, r_i0, c_0, mp_at (by omega), lay_q (F := 4) (l21n 4 4 rfl) (by omega) (by decide), bi_s, ← hM, r_of0 (by omega), bi_s, MT, hu, bi_s]
  · rw [p_eq, hM, mput_eq, mput_eq]
    rfl
end QD
