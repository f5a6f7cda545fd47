/-! the law's head: the object, the row of three ints, the first questions, then the loop -/
def adG (s0 s7 s8 : Nat → Nat) (as : Nat → Nat → Nat) (sv r u1 u2 u3 u4 u5 h6 o : Nat) : Nat → Nat := fun k => if k < 17 then s0 k else if k < 119 then as (k / 17 - 1) (k % 17) else if k < 136 then s7 (k % 17) else if k < 153 then s8 (k % 17) else if k = 153 then sv else if k = 154 then r else if k = 155 then u1 else if k = 156 then u2 else if k = 157 then u3 else if k = 158 then u4 else if k = 159 then u5 else if k = 160 then h6 else o
theorem x6L_cg {G : LY} {h u1 u2 u3 u4 u5 sv r : Nat} {s0 s7 s8 t0 t7 t8 : Nat → Nat} {as bs : Nat → Nat → Nat} (h0 : ∀ r, r < 17 → s0 r = t0 r) (h7 : ∀ r, r < 17 → s7 r = t7 r) (h8 : ∀ r, r < 17 → s8 r = t8 r) (ha : ∀ k, k < 6 → ∀ r, r < 17 → as k r = bs k r) : x6L G h u1 u2 u3 u4 u5 sv r s0 s7 s8 as = x6L G h u1 u2 u3 u4 u5 sv r t0 t7 t8 bs := by
  unfold x6L svL
  rw [stL_cg h0, stL_cg h7, stL_cg h8, stL_cg (ha 0 (by omega)), stL_cg (ha 1 (by omega)), stL_cg (ha 2 (by omega)), stL_cg (ha 3 (by omega)), stL_cg (ha 4 (by omega)), stL_cg (ha 5 (by omega)), h0 0 (by omega), h7 0 (by omega), h8 0 (by omega), ha 0 (by omega) 0 (by omega), ha 1 (by omega) 0 (by omega), ha 2 (by omega) 0 (by omega), ha 3 (by omega) 0 (by omega), ha 4 (by omega) 0 (by omega), ha 5 (by omega) 0 (by omega)]
set_option maxHeartbeats 8000000 in
set_option maxRecDepth 100000 in
theorem start_of {p : Program} (l : Launch) (hst : l.stackTraces = false) {e : Env} {s : State} {m : MethodId} {below : List Frame} {meth : Method} {c : Code} {b L : Nat} {xs : Nat → Int32} (hL : L ≤ 260) (h : lw_At p s m meth c b L xs) : W p l e room_1 s m #[Value.ref b] below meth c s.heap [] 0 0 (lw_Z below #[Value.ref b] s) (entryFrame m ([Value.ref b] : List Value).toArray 6) := by
  obtain ⟨hx, hb, hret, hml, hown, hts, hX, hbl, hlocks, hgv⟩ := h
  obtain ⟨cy, D, hK⟩ := law_K hts
  have hE := law_env hts hgv
  have hN := law_nenv hts
  have hT : ∀ w ∈ Cond.initialized RX6 :: wA0, w.before #[Value.ref b] s = true := fun w hw => hts w (tA0 w (by
    rcases List.mem_cons.mp hw with h' | h'
    · rw [h']; exact mB285
    · exact h'))
  obtain ⟨G, hG⟩ : ∃ z : LY, z = (fun _ => 0, cy, D) := ⟨_, rfl⟩
  have X : nC p s m #[Value.ref b] meth c cL_law 6 (Cond.initialized RX6 :: wA0) RL G (fun q => s.heap.size ≤ q) := ⟨hx, hb, hml, hown, hT, by rw [hG]; exact hK _, fun q h => h, hN⟩
  have hl := lv_entry [.ref b] (n := 6) (Nat.le_of_ble_eq_true rfl)
  rw [lg_entry_eq]
  have Z : LSt G [] (fun q => s.heap.size ≤ q) s.heap s.heap [] := ⟨fun k q h => (by simp at h), ⟨fun i j p q h => (by simp at h), fun k q h => (by simp at h)⟩, va_S.rf⟩
  revert hl Z
  generalize (lg_sl [Value.ref b] ++ List.replicate (6 - (lg_sl [Value.ref b]).length) Slot.unset).toArray = ls
  intro hl Z
  refine n_new (ci := 6) (fs := [.null, .null, .null, .null, .null]) (c1 := 1) (s1 := 5) X Z (iB6 _) tyX6 tyX6_ok (List.mem_cons_of_mem _ mB587) (List.mem_cons_of_mem _ mB588) (List.mem_cons_of_mem _ mB285) rfl (fun j hj => by rcases (show j = 0 ∨ j = 1 ∨ j = 2 ∨ j = 3 ∨ j = 4 by omega) with rfl | rfl | rfl | rfl | rfl <;> rfl) rfl rfl ⟨Nat.le_of_ble_eq_true rfl, Nat.le_of_ble_eq_true rfl⟩ dL_law_0 (fun h6 H Z => ?_)
  refine lv_dup hx hb dL_law_3 rfl ?_
  refine n_ctorI (b := []) (wc := [(h6, .inr (6, [.null, .null, .null, .null, .null]))]) (rest := [.ref h6]) (c1 := 161) (s1 := 14011) X Z (cX6_init_c l h6) (goo0 mB276) rfl (List.mem_cons_of_mem _ mB285) (List.mem_cons_of_mem _ mB589) (List.mem_cons_of_mem _ mB590) rfl (by decide +kernel) ⟨Nat.le_of_ble_eq_true rfl, Nat.le_of_ble_eq_true rfl⟩ rfl rfl ⟨Nat.le_of_ble_eq_true rfl, Nat.le_of_ble_eq_true rfl⟩ hl.1 (Nat.le_of_ble_eq_true rfl) dL_law_4 (fun w1 hw1 H locs Z => ?_)
  obtain ⟨u1, u2, u3, u4, u5, sv, r, s0, s7, s8, as, rfl⟩ := hw1
  refine lv_astore_n (lv' := [(1, .ref h6), (0, .ref b)]) hx hb dL_law_7 rfl hl (by decide) rfl (fun ls hl => ?_)
  refine lv_iconst (v := 3) hx hb dL_law_8 (by decide) ?_
  refine n_newa (atype := .int) (t := 0) (ty := .int) (N' := 3) (c1 := 162) (s1 := 14014) X Z (List.mem_cons_of_mem _ mB4) rfl rfl (fun _ => rfl) (by decide) (by decide) (Nat.le_of_ble_eq_true rfl) rfl rfl ⟨Nat.le_of_ble_eq_true rfl, Nat.le_of_ble_eq_true rfl⟩ dL_law_9 (fun o H Z => ?_)
  refine lv_astore_n (lv' := [(2, .ref o), (1, .ref h6), (0, .ref b)]) hx hb dL_law_11 rfl hl (by decide) rfl (fun ls hl => ?_)
  obtain ⟨ad, had⟩ : ∃ z, z = adG s0 s7 s8 as sv r u1 u2 u3 u4 u5 h6 o := ⟨_, rfl⟩
  obtain ⟨G2, hG2⟩ : ∃ z : LY, z = (ad, cy, D) := ⟨_, rfl⟩
  have Z2 : LSt G2 (srcL G2) (fun q => s.heap.size ≤ q) s.heap H locs := by
    have e1 : srcL G2 = ([] ++ x6L G h6 u1 u2 u3 u4 u5 sv r s0 s7 s8 as) ++ [(o, .inl (G.2.1 0, 3, .inl (fun _ => 0)))] := by
      have e2 : x6L G h6 u1 u2 u3 u4 u5 sv r s0 s7 s8 as = x6L G2 h6 u1 u2 u3 u4 u5 sv r (stA G2 0) (stA G2 7) (stA G2 8) (fun k => stA G2 (k + 1)) := by
        have e3 : x6L G h6 u1 u2 u3 u4 u5 sv r s0 s7 s8 as = x6L G2 h6 u1 u2 u3 u4 u5 sv r s0 s7 s8 as := by rw [hG, hG2]; rfl
        rw [e3]
        refine x6L_cg (fun r hr => ?_) (fun r hr => ?_) (fun r hr => ?_) (fun k hk r hr => ?_)
        · rw [hG2, had]
          show s0 r = adG s0 s7 s8 as sv _ u1 u2 u3 u4 u5 h6 o (17 * 0 + r)
          unfold adG
          rw [if_pos (by omega), show 17 * 0 + r = r by omega]
        · rw [hG2, had]
          show s7 r = adG s0 s7 s8 as sv _ u1 u2 u3 u4 u5 h6 o (17 * 7 + r)
          unfold adG
          rw [if_neg (by omega), if_neg (by omega), if_pos (by omega), show (17 * 7 + r) % 17 = r by omega]
        · rw [hG2, had]
          show s8 r = adG s0 s7 s8 as sv _ u1 u2 u3 u4 u5 h6 o (17 * 8 + r)
          unfold adG
          rw [if_neg (by omega), if_neg (by omega), if_neg (by omega), if_pos (by omega), show (17 * 8 + r) % 17 = r by omega]
        · rw [hG2, had]
          show as k r = adG s0 s7 s8 as sv _ u1 u2 u3 u4 u5 h6 o (17 * (k + 1) + r)
          unfold adG
          rw [if_neg (by omega), if_pos (by omega), show (17 * (k + 1) + r) / 17 - 1 = k by omega, show (17 * (k + 1) + r) % 17 = r by omega]
      rw [e2, hG2, had, hG]
      rfl
    rw [e1]
    rw [hG2]
    rw [hG] at Z ⊢
    exact Z
  have Z : WS wD G2 gC0 (fun q => s.heap.size ≤ q) s.heap H locs := ⟨start_P Z2.1, start_D Z2.2.1, Z2.2.2⟩
  have XG : gC p s m #[Value.ref b] meth c cL_law 6 (Cond.initialized RX6 :: wA0) RL ret G2 (fun q => s.heap.size ≤ q) := ⟨hx, hb, hml, hown, hT, by rw [hG2]; exact hK _, fun q h => h, hlocks, hret, hE G2⟩
  have hl : lv_has ls 6 [(2, .ref (G2.1 161)), (1, .ref (G2.1 160)), (0, .ref b)] := by
    have e6 : G2.1 160 = h6 := by rw [hG2, had]; rfl
    have e7 : G2.1 161 = o := by rw [hG2, had]; rfl
    rw [e6, e7]
    exact hl
  have hn : 10010 ≤ 10010 := Nat.le_refl _
  refine lv_aload_n hx hb dL_law_12 rfl (lv_at hl 1 rfl) ?_
  refine d_callVI (n := 0) (As := []) (rest := []) (r0 := 0) sameC XG Z (cX6_trueTime_c l st_tm) (oX6 k160) rfl (gooV mB552 mB553 mB554 mB285 mB372) rfl (by decide +kernel) rfl ⟨Nat.le_of_ble_eq_true rfl, Nat.le_of_ble_eq_true rfl⟩ ⟨Nat.le_of_ble_eq_true rfl, Nat.le_of_ble_eq_true rfl⟩ hl.1 rfl (Nat.le_of_ble_eq_true rfl) dL_law_13 (fun w9 H locs Z => ?_)
  refine lv_if_ne (tgt := 61) hx hb dL_law_16 (by decide) (fun c1 => absurd rfl c1) (fun c1 => ?_)
  refine lv_aload_n hx hb dL_law_19 rfl (lv_at hl 1 rfl) ?_
  refine lv_iconst (v := (2 : Int32)) hx hb dL_law_20 (by decide) ?_
  refine d_callVI (n := 1) (As := [.int 2]) (rest := []) (r0 := 0) sameC XG Z (nX6_reading_c l st_rd rfl) (oX6 k160) rfl (gooV mB559 mB560 mB561 mB285 mB373) rfl (by decide +kernel) rfl ⟨Nat.le_of_ble_eq_true rfl, Nat.le_of_ble_eq_true rfl⟩ ⟨Nat.le_of_ble_eq_true rfl, Nat.le_of_ble_eq_true rfl⟩ hl.1 rfl (Nat.le_of_ble_eq_true rfl) dL_law_21 (fun w9 H locs Z => ?_)
  refine lv_if_ne (tgt := 61) hx hb dL_law_24 (by decide) (fun c1 => absurd rfl c1) (fun c1 => ?_)
  refine lv_aload_n hx hb dL_law_27 rfl (lv_at hl 1 rfl) ?_
  refine lv_iconst (v := (1 : Int32)) hx hb dL_law_28 (by decide) ?_
  refine d_callVI (n := 1) (As := [.int 1]) (rest := []) (r0 := 5) sameC XG Z (nX6_latest_c l st_lat rfl) (oX6 k160) rfl (gooV mB571 mB572 mB573 mB285 mB378) rfl (by decide +kernel) rfl ⟨Nat.le_of_ble_eq_true rfl, Nat.le_of_ble_eq_true rfl⟩ ⟨Nat.le_of_ble_eq_true rfl, Nat.le_of_ble_eq_true rfl⟩ hl.1 rfl (Nat.le_of_ble_eq_true rfl) dL_law_29 (fun w9 H locs Z => ?_)
  refine lv_iconst (v := (5 : Int32)) hx hb dL_law_32 (by decide) ?_
  refine lv_icmp_ne (tgt := 61) hx hb dL_law_33 (by decide) (fun c1 => absurd rfl c1) (fun c1 => ?_)
  refine lv_aload_n hx hb dL_law_36 rfl (lv_at hl 1 rfl) ?_
  refine lv_iconst (v := (1 : Int32)) hx hb dL_law_37 (by decide) ?_
  refine d_callVI (n := 1) (As := [.int 1]) (rest := []) (r0 := (-5)) sameC XG Z (nX6_earliest_c l st_ear rfl) (oX6 k160) rfl (gooV mB574 mB575 mB576 mB285 mB376) rfl (by decide +kernel) rfl ⟨Nat.le_of_ble_eq_true rfl, Nat.le_of_ble_eq_true rfl⟩ ⟨Nat.le_of_ble_eq_true rfl, Nat.le_of_ble_eq_true rfl⟩ hl.1 rfl (Nat.le_of_ble_eq_true rfl) dL_law_38 (fun w9 H locs Z => ?_)
  refine lv_bipush (v := (-5 : Int32)) hx hb dL_law_41 (by decide) ?_
  refine lv_icmp_ne (tgt := 61) hx hb dL_law_43 (by decide) (fun c1 => absurd rfl c1) (fun c1 => ?_)
  refine lv_aload_n hx hb dL_law_46 rfl (lv_at hl 1 rfl) ?_
  refine d_callVI (n := 0) (As := []) (rest := []) (r0 := 4) sameC XG Z (cX6_safeTime_c l (st_safe hn)) (oX6 k160) rfl (gooV mB506 mB507 mB508 mB285 mB412) rfl (by decide +kernel) rfl ⟨Nat.le_of_ble_eq_true rfl, Nat.le_of_ble_eq_true rfl⟩ ⟨Nat.le_of_ble_eq_true rfl, Nat.le_of_ble_eq_true rfl⟩ hl.1 rfl (Nat.le_of_ble_eq_true rfl) dL_law_47 (fun w9 H locs Z => ?_)
  refine lv_iconst (v := (4 : Int32)) hx hb dL_law_50 (by decide) ?_
  refine lv_icmp_ne (tgt := 61) hx hb dL_law_51 (by decide) (fun c1 => absurd rfl c1) (fun c1 => ?_)
  refine lv_aload_n hx hb dL_law_54 rfl (lv_at hl 1 rfl) ?_
  refine d_callVI (n := 0) (As := []) (rest := []) (r0 := 0) sameC XG Z (cX6_savedStates_c l st_sav) (oX6 k160) rfl (gooV mB591 mB592 mB593 mB285 mB432) rfl (by decide +kernel) rfl ⟨Nat.le_of_ble_eq_true rfl, Nat.le_of_ble_eq_true rfl⟩ ⟨Nat.le_of_ble_eq_true rfl, Nat.le_of_ble_eq_true rfl⟩ hl.1 rfl (Nat.le_of_ble_eq_true rfl) dL_law_55 (fun w9 H locs Z => ?_)
  refine lv_if_eq (tgt := 63) hx hb dL_law_58 (by decide) (fun c1 => ?_) (fun c1 => absurd rfl c1)
  refine lv_iconst (v := (0 : Int32)) hx hb dL_law_63 (by decide) ?_
  refine lv_istore_n (lv' := [(3, .int 0), (2, .ref (G2.1 161)), (1, .ref (G2.1 160)), (0, .ref b)]) hx hb dL_law_64 rfl hl (by decide) rfl (fun ls hl => ?_)
  refine W.widen (k := 1000 + 10 * 0) (n := 30000 + 60 * 0) (by decide) (by decide) ?_
  exact law_loop hn hst hL XG hX hbl (fun z => absurd hbl (Nat.not_lt.mpr z)) (fun q h => h) 90 0 rfl gC0 H locs ls ok_0 Z (lv_sub hl [3, 2, 1, 0] rfl)
theorem whole_start {p : Program} {e : Env} {s : State} {m : MethodId} {below : List Frame} {meth : Method} {c : Code} (l : Launch) (hflags : l.flags = flags0) {b L : Nat} {xs : Nat → Int32} (hL : L ≤ 260) (C0 : lw_At p s m meth c b L xs) : W p l e room_1 s m #[Value.ref b] below meth c s.heap [] 0 0 (lw_Z below #[Value.ref b] s) (entryFrame m ([Value.ref b] : List Value).toArray 6) := by
  have hst : l.stackTraces = false := by
    unfold Launch.stackTraces
    rw [hflags]
    decide +kernel
  exact start_of l hst hL C0
