/-! the law's head: the two objects, the row of one long, then the loop -/
def adG (s0 s7 s8 : Nat → Nat) (as : Nat → Nat → Nat) (sv r u1 u2 u3 u4 u5 h6 o h7 v0 v1 v2 v3 v4 sa sb : Nat) : Nat → Nat := fun k => if k < 17 then s0 k else if k < 119 then as (k / 17 - 1) (k % 17) else if k < 136 then s7 (k % 17) else if k < 153 then s8 (k % 17) else if k = 153 then sv else if k = 154 then r else if k = 155 then u1 else if k = 156 then u2 else if k = 157 then u3 else if k = 158 then u4 else if k = 159 then u5 else if k = 160 then h6 else if k = 170 then o else if k = 171 then h7 else if k = 172 then v0 else if k = 173 then v1 else if k = 174 then v2 else if k = 175 then v3 else if k = 176 then v4 else if k = 200 then sa else sb
theorem x6L_cg {G : LY} {h u1 u2 u3 u4 u5 sv r : Nat} {s0 s7 s8 t0 t7 t8 : Nat → Nat} {as bs : Nat → Nat → Nat} (h0 : ∀ r, r < 17 → s0 r = t0 r) (h7 : ∀ r, r < 17 → s7 r = t7 r) (h8 : ∀ r, r < 17 → s8 r = t8 r) (ha : ∀ k, k < 6 → ∀ r, r < 17 → as k r = bs k r) : x6L G h u1 u2 u3 u4 u5 sv r s0 s7 s8 as = x6L G h u1 u2 u3 u4 u5 sv r t0 t7 t8 bs := by
  unfold x6L svL
  rw [stL_cg h0, stL_cg h7, stL_cg h8, stL_cg (ha 0 (by omega)), stL_cg (ha 1 (by omega)), stL_cg (ha 2 (by omega)), stL_cg (ha 3 (by omega)), stL_cg (ha 4 (by omega)), stL_cg (ha 5 (by omega)), h0 0 (by omega), h7 0 (by omega), h8 0 (by omega), ha 0 (by omega) 0 (by omega), ha 1 (by omega) 0 (by omega), ha 2 (by omega) 0 (by omega), ha 3 (by omega) 0 (by omega), ha 4 (by omega) 0 (by omega), ha 5 (by omega) 0 (by omega)]
theorem fM0_upd : (upd (upd (upd (upd (upd (upd (fun _ => 0) (((7 + (6 * 0)) + 3) : Int32).toNatClampNeg 5) (((7 + (6 * 0)) + 4) : Int32).toNatClampNeg 2) (((7 + (6 * 1)) + 3) : Int32).toNatClampNeg 5) (((7 + (6 * 1)) + 4) : Int32).toNatClampNeg 2) (((7 + (6 * 2)) + 3) : Int32).toNatClampNeg 5) (((7 + (6 * 2)) + 4) : Int32).toNatClampNeg 2) = fM0 := rfl
section GH
variable {p : Program} {l : Launch} {e : Env} {R : Room} {s : State} {m : MethodId} {args : Array Value} {below : List Frame} {meth : Method} {c : Code} {H : Heap} {locs : List Loc} {cells slots c1 s1 : Nat} {Q : State → Prop} {cc : ByteArray} {nL : Nat} {Ts : List Cond} {own : String} {G : LY} {A : Nat → Prop} {ls : Array Slot} {rest : List Value} {pc : Nat} {ws : va_W} {a : Nat}
theorem n_newl {t N' : Nat} {n : Int32} (X : nC p s m args meth c cc nL Ts own G A) (Z : LSt G ws A s.heap H locs) (harr : Cond.arrayClass (newarray.typeOf .long) ∈ Ts) (ht : (tyL G)[t]? = some (G.2.1 t, .long)) (hn : ¬ n < 0) (hN : n.toNatClampNeg = N') (hbytes : N' * componentBytes .long ≤ 536870912) (hc1 : cells + 1 = c1) (hs1 : slots + N' = s1) (hcs : c1 ≤ R.cells ∧ s1 ≤ R.slots) (hdg : decode cc pc = .ok (.newarray .long, 2))
    (kk : ∀ (q : Nat) (H1 : Heap), LSt G (ws ++ [(q, .inl (G.2.1 t, N', .inr (.inl (fun _ => 0))))]) A s.heap H1 locs → W p l e R s m args below meth c H1 locs c1 s1 Q (F0 m (pc + 2) ls (.ref q :: rest))) : W p l e R s m args below meth c H locs cells slots Q (F0 m pc ls (.int n :: rest)) := by
  subst hc1
  subst hs1
  refine va_newa (D := G.2.2) (atype := .long) (ty := .long) (a0 := (N', .inr (.inl (fun _ => 0)))) X.1 X.2.1 (X.2.2.2.2.1 _ harr) rfl X.2.2.2.2.2.1 Z.1 Z.2.1 Z.2.2 X.2.2.2.2.2.2.1 (fun _ => rfl) hn hN hbytes hcs.1 hcs.2 hdg (fun q cA H1 hK hP hD hS => ?_)
  have e1 := ty_uniq ht hK
  subst e1
  exact kk q H1 ⟨hP, hD, hS⟩
end GH
set_option maxHeartbeats 8000000 in
set_option maxRecDepth 100000 in
theorem start_of {Rel : Nat → Mem → Mem → Prop} {n : Nat} (hS : ∀ j, j ≤ 512 → Sims (Rel j) (Rel (j + 1)) n) (hmono : ∀ j gc gm, Rel j gc gm → Rel (j + 1) gc gm) (hR0 : Rel 0 gC0 gM0) {p : Program} (l : Launch) (hst : l.stackTraces = false) {e : Env} {s : State} {m : MethodId} {below : List Frame} {meth : Method} {c : Code} {b L : Nat} {xs : Nat → Int32} (hL : L ≤ 2048) (h : lw_At p s m meth c b L xs) : W p l e room_1 s m #[Value.ref b] below meth c s.heap [] 0 0 (lw_Z below #[Value.ref b] s) (entryFrame m ([Value.ref b] : List Value).toArray 7) := by
  obtain ⟨hx, hb, hret, hml, hown, hts, hX, hbl, hlocks, hgv⟩ := h
  obtain ⟨cy, D, hK⟩ := law_K hts
  obtain ⟨sa, sb, hE⟩ := law_env hts hgv
  have hN := law_nenv hts
  have hT : ∀ w ∈ Cond.initialized RX6 :: wA0, w.before #[Value.ref b] s = true := fun w hw => hts w (tA0 w (by
    rcases List.mem_cons.mp hw with h' | h'
    · rw [h']; exact mB409
    · exact h'))
  obtain ⟨G, hG⟩ : ∃ z : LY, z = (fun _ => 0, cy, D) := ⟨_, rfl⟩
  have X : nC p s m #[Value.ref b] meth c cL_law 7 (Cond.initialized RX6 :: wA0) RL G (fun q => s.heap.size ≤ q) := ⟨hx, hb, hml, hown, hT, by rw [hG]; exact hK _, fun q h => h, hN⟩
  have hl := lv_entry [.ref b] (n := 7) (Nat.le_of_ble_eq_true rfl)
  rw [lg_entry_eq]
  have Z : LSt G [] (fun q => s.heap.size ≤ q) s.heap s.heap [] := ⟨fun k q h => (by simp at h), ⟨fun i j p q h => (by simp at h), fun k q h => (by simp at h)⟩, va_S.rf⟩
  revert hl Z
  generalize (lg_sl [Value.ref b] ++ List.replicate (7 - (lg_sl [Value.ref b]).length) Slot.unset).toArray = ls
  intro hl Z
  refine n_new (ci := 6) (fs := [.null, .null, .null, .null, .null]) (c1 := 1) (s1 := 5) X Z (iB6 _) tyX6 tyX6_ok (List.mem_cons_of_mem _ mB1073) (List.mem_cons_of_mem _ mB1074) (List.mem_cons_of_mem _ mB409) rfl (fun j hj => by rcases (show j = 0 ∨ j = 1 ∨ j = 2 ∨ j = 3 ∨ j = 4 by omega) with rfl | rfl | rfl | rfl | rfl <;> rfl) rfl rfl ⟨Nat.le_of_ble_eq_true rfl, Nat.le_of_ble_eq_true rfl⟩ dL_law_0 (fun h6 H Z => ?_)
  refine lv_dup hx hb dL_law_3 rfl ?_
  refine n_ctorI (b := []) (wc := [(h6, .inr (6, [.null, .null, .null, .null, .null]))]) (rest := [.ref h6]) (c1 := 161) (s1 := 14011) X Z (cX6_init_c l h6) (goo0 mB400) rfl (List.mem_cons_of_mem _ mB409) (List.mem_cons_of_mem _ mB1078) (List.mem_cons_of_mem _ mB1079) rfl (by decide +kernel) ⟨Nat.le_of_ble_eq_true rfl, Nat.le_of_ble_eq_true rfl⟩ rfl rfl ⟨Nat.le_of_ble_eq_true rfl, Nat.le_of_ble_eq_true rfl⟩ hl.1 (Nat.le_of_ble_eq_true rfl) dL_law_4 (fun w1 hw1 H locs Z => ?_)
  obtain ⟨u1, u2, u3, u4, u5, sv, r, s0, s7, s8, as, rfl⟩ := hw1
  refine lv_astore_n (lv' := [(1, .ref h6), (0, .ref b)]) hx hb dL_law_7 rfl hl (by decide) rfl (fun ls hl => ?_)
  refine n_new (ci := 7) (fs := [.null, .null, .int 0, .null, .null, .null, .int 0, .int 0]) (c1 := 162) (s1 := 14019) X Z (iB7 _) tyX7 tyX7_ok (List.mem_cons_of_mem _ mB1075) (List.mem_cons_of_mem _ mB1076) (List.mem_cons_of_mem _ mB614) rfl (fun j hj => by rcases (show j = 0 ∨ j = 1 ∨ j = 2 ∨ j = 3 ∨ j = 4 ∨ j = 5 ∨ j = 6 ∨ j = 7 by omega) with rfl | rfl | rfl | rfl | rfl | rfl | rfl | rfl <;> rfl) rfl rfl ⟨Nat.le_of_ble_eq_true rfl, Nat.le_of_ble_eq_true rfl⟩ dL_law_8 (fun h7 H Z => ?_)
  refine lv_dup hx hb dL_law_11 rfl ?_
  refine n_ctorI (b := [] ++ x6L G h6 u1 u2 u3 u4 u5 sv r s0 s7 s8 as) (wc := [(h7, .inr (7, [.null, .null, .int 0, .null, .null, .null, .int 0, .int 0]))]) (rest := [.ref h7]) (c1 := 167) (s1 := 21886) X Z (cX7_init_c l h7) (goo0 mB600) rfl (List.mem_cons_of_mem _ mB614) (List.mem_cons_of_mem _ mB1080) (List.mem_cons_of_mem _ mB1081) rfl (by decide +kernel) ⟨Nat.le_of_ble_eq_true rfl, Nat.le_of_ble_eq_true rfl⟩ rfl rfl ⟨Nat.le_of_ble_eq_true rfl, Nat.le_of_ble_eq_true rfl⟩ hl.1 (Nat.le_of_ble_eq_true rfl) dL_law_12 (fun w2 hw2 H locs Z => ?_)
  obtain ⟨v0, v1, v2, v3, v4, rfl⟩ := hw2
  refine lv_astore_n (lv' := [(2, .ref h7), (1, .ref h6), (0, .ref b)]) hx hb dL_law_15 rfl hl (by decide) rfl (fun ls hl => ?_)
  refine lv_iconst (v := 1) hx hb dL_law_16 (by decide) ?_
  refine n_newl (t := 5) (N' := 1) (c1 := 168) (s1 := 21887) X Z (List.mem_cons_of_mem _ mB1077) rfl (by decide) (by decide) (by decide) rfl rfl ⟨Nat.le_of_ble_eq_true rfl, Nat.le_of_ble_eq_true rfl⟩ dL_law_17 (fun o H Z => ?_)
  refine lv_astore_n (lv' := [(3, .ref o), (2, .ref h7), (1, .ref h6), (0, .ref b)]) hx hb dL_law_19 rfl hl (by decide) rfl (fun ls hl => ?_)
  refine lv_iconst (v := 0) hx hb dL_law_20 (by decide) ?_
  refine lv_istore (lv' := [(4, .int 0), (3, .ref o), (2, .ref h7), (1, .ref h6), (0, .ref b)]) hx hb dL_law_21 hl (by decide) rfl (fun ls hl => ?_)
  obtain ⟨ad, had⟩ : ∃ z, z = adG s0 s7 s8 as sv r u1 u2 u3 u4 u5 h6 o h7 v0 v1 v2 v3 v4 sa sb := ⟨_, rfl⟩
  obtain ⟨G2, hG2⟩ : ∃ z : LY, z = (ad, cy, D) := ⟨_, rfl⟩
  have eX : ∀ a : Nat → Nat, stL G a = stL (ad, cy, D) a := fun a => by rw [hG]; rfl
  have Z2 : LSt G2 (srcL G2) (fun q => s.heap.size ≤ q) s.heap H locs := by
    have e1 : srcL G2 = ([] ++ x6L G h6 u1 u2 u3 u4 u5 sv r s0 s7 s8 as ++ e7L G h7 v0 v1 v2 v3 v4) ++ [(o, .inl (G.2.1 5, 1, .inr (.inl (fun _ => 0))))] := by
      have e2 : x6L G h6 u1 u2 u3 u4 u5 sv r s0 s7 s8 as = x6L G2 h6 u1 u2 u3 u4 u5 sv r (stA G2 0) (stA G2 7) (stA G2 8) (fun k => stA G2 (k + 1)) := by
        have e3 : x6L G h6 u1 u2 u3 u4 u5 sv r s0 s7 s8 as = x6L G2 h6 u1 u2 u3 u4 u5 sv r s0 s7 s8 as := by rw [hG, hG2]; rfl
        rw [e3]
        refine x6L_cg (fun r hr => ?_) (fun r hr => ?_) (fun r hr => ?_) (fun k hk r hr => ?_)
        · rw [hG2, had]
          show s0 r = adG s0 s7 s8 as sv _ u1 u2 u3 u4 u5 h6 o h7 v0 v1 v2 v3 v4 sa sb (17 * 0 + r)
          unfold adG
          rw [if_pos (by omega), show 17 * 0 + r = r by omega]
        · rw [hG2, had]
          show s7 r = adG s0 s7 s8 as sv _ u1 u2 u3 u4 u5 h6 o h7 v0 v1 v2 v3 v4 sa sb (17 * 7 + r)
          unfold adG
          rw [if_neg (by omega), if_neg (by omega), if_pos (by omega), show (17 * 7 + r) % 17 = r by omega]
        · rw [hG2, had]
          show s8 r = adG s0 s7 s8 as sv _ u1 u2 u3 u4 u5 h6 o h7 v0 v1 v2 v3 v4 sa sb (17 * 8 + r)
          unfold adG
          rw [if_neg (by omega), if_neg (by omega), if_neg (by omega), if_pos (by omega), show (17 * 8 + r) % 17 = r by omega]
        · rw [hG2, had]
          show as k r = adG s0 s7 s8 as sv _ u1 u2 u3 u4 u5 h6 o h7 v0 v1 v2 v3 v4 sa sb (17 * (k + 1) + r)
          unfold adG
          rw [if_neg (by omega), if_pos (by omega), show (17 * (k + 1) + r) / 17 - 1 = k by omega, show (17 * (k + 1) + r) % 17 = r by omega]
      rw [e2, hG2, had, hG]
      rfl
    rw [e1]
    rw [hG2]
    rw [hG] at Z ⊢
    exact Z
  have Z3 : LSt G2 (wLw G2 gC0 gM0 (fun _ => 0)) (fun q => s.heap.size ≤ q) s.heap H locs := ⟨start_P Z2.1, start_D Z2.2.1, Z2.2.2⟩
  have XG : gC p s m #[Value.ref b] meth c cL_law 7 (Cond.initialized RX6 :: wA0) RL ret G2 (fun q => s.heap.size ≤ q) := ⟨hx, hb, hml, hown, hT, by rw [hG2]; exact hK _, fun q h => h, hlocks, hret, hE G2 (by rw [hG2, had]; rfl) (by rw [hG2, had]; rfl)⟩
  refine W.widen (k := 1000) (n := 30000) (by decide) (by decide) ?_
  refine law_loop hS hmono hst hL XG hX hbl (fun z => absurd hbl (Nat.not_lt.mpr z)) (fun q h => h) 520 0 rfl (by decide) gC0 gM0 (fun _ => 0) H locs ls hR0 Z3 (lv_sub hl [4, 3, 2, 1, 0] ?_)
  rw [hG2, had]
  rfl

