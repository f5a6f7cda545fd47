section GW
variable {Qc : Array Value → State → Outcome → State → Prop} {XC : String → State → State → Prop} {p : Program} {l : Launch} {e : Env} {s : State} {m : MethodId} {args : Array Value} {below : List Frame} {meth : Method} {c : Code} {Q : State → Prop} {G : LY} {A : Nat → Prop}
abbrev wmX6_executeCommand : List Cond := Cond.code yX6_executeCommand cX6_executeCommand 2 (some .boolean) :: wA0
set_option maxHeartbeats 4000000 in
set_option maxRecDepth 100000 in
theorem bX6_executeCommand_0 (X : gC p s m args meth c cX6_executeCommand 2 wmX6_executeCommand yX6_executeCommand.cls (some .boolean) G A) {n : Nat} {r : Int32 × Mem} (kI : ∀ (pc : Nat) (ls : Array Slot) (H : Heap) (locs : List Loc), decode cX6_executeCommand pc = .ok (.ireturn, 1) → WS wC G r.2 A s.heap H locs → narrow .boolean (.int r.1) = .int r.1 → W p l e { frames := 5, cells := 0, slots := 0, locals := 113 } s m args below meth c H locs 0 0 Q (F0 m pc ls [.int r.1])) : ∀ (g : Mem) (H : Heap) (locs : List Loc) (ls : Array Slot), WS wC G g A s.heap H locs → lv_has ls 2 [(0, .ref (G.1 160))] → sX6_executeCommand n g = some r → W p l e { frames := 5, cells := 0, slots := 0, locals := 113 } s m args below meth c H locs 0 0 Q (F0 m 0 ls []) := by
  have hx := X.1
  have hb := X.2.1
  intro g H locs ls Z hl hm
  unfold sX6_executeCommand at hm
  refine lv_aload_n hx hb dX6_executeCommand_0 rfl (lv_at hl 0 rfl) ?_
  refine g_get (j := 4) (v := .ref (G.1 157)) X Z (oX6 k160) (iB6 _) rfl (by decide) rfl (List.mem_cons_of_mem _ mB395) rfl dX6_executeCommand_1 ?_
  refine g_get (j := 2) (v := .ref (G.1 158)) X Z (oX3 k157) (iB3 _) rfl (by decide) rfl (List.mem_cons_of_mem _ mB511) rfl dX6_executeCommand_4 ?_
  refine lv_iconst (v := 0) hx hb dX6_executeCommand_7 (by decide) ?_
  obtain ⟨b1, hm⟩ := sIdx_some hm
  refine g_iald X Z (aI k158) b1 dX6_executeCommand_8 ?_
  refine lv_istore_n (lv' := [(1, .int (g 158 (0 : Int32).toNatClampNeg)), (0, .ref (G.1 160))]) hx hb dX6_executeCommand_9 rfl hl (by decide) rfl (fun ls hl => ?_)
  refine lv_aload_n hx hb dX6_executeCommand_10 rfl (lv_at hl 1 rfl) ?_
  refine lv_iload_n hx hb dX6_executeCommand_11 rfl (lv_at hl 0 rfl) ?_
  obtain ⟨r4, e2, hm⟩ := sBi_some hm
  refine g_callVI (n := 1) (As := [.int (g 158 (0 : Int32).toNatClampNeg)]) (rest := []) sameC X Z (cX6_canExecute_c l e2) (oX6 k160) rfl (gooV mB512 mB513 mB514 mB409 mB509) rfl (by decide +kernel) rfl ⟨Nat.le_of_ble_eq_true rfl, Nat.le_of_ble_eq_true rfl⟩ ⟨Nat.le_of_ble_eq_true rfl, Nat.le_of_ble_eq_true rfl⟩ hl.1 rfl (Nat.le_of_ble_eq_true rfl) dX6_executeCommand_12 (fun w3 H locs Z => ?_)
  refine lv_if_ne (tgt := 20) hx hb dX6_executeCommand_15 (by decide) (fun c5 => ?_) (fun c5 => ?_)
  · replace hm := (if_neg c5).symm.trans hm
    refine lv_aload_n hx hb dX6_executeCommand_20 rfl (lv_at hl 1 rfl) ?_
    refine g_get (j := 4) (v := .ref (G.1 157)) X Z (oX6 k160) (iB6 _) rfl (by decide) rfl (List.mem_cons_of_mem _ mB395) rfl dX6_executeCommand_21 ?_
    refine g_get (j := 1) (v := .int (g 157 1)) X Z (oX3 k157) (iB3 _) rfl (by decide) rfl (List.mem_cons_of_mem _ mB510) rfl dX6_executeCommand_24 ?_
    by_cases c6 : (g 157 1) = 97
    · replace hm := (if_pos c6).symm.trans hm
      refine lv_lookup (tgt := 166) hx hb dX6_executeCommand_27 (by decide) (by rw [c6]; try rfl) (by decide) ?_
      refine lv_aload_n hx hb dX6_executeCommand_166 rfl (lv_at hl 1 rfl) ?_
      refine g_get (j := 0) (v := .ref (G.1 0)) X Z (oX6 k160) (iB6 _) rfl (by decide) rfl (List.mem_cons_of_mem _ mB385) rfl dX6_executeCommand_167 ?_
      refine lv_iload_n hx hb dX6_executeCommand_170 rfl (lv_at hl 0 rfl) ?_
      obtain ⟨r9, g10, e7, hm⟩ := sBi2_some hm
      refine g_callVI (n := 1) (As := [.int (g 158 (0 : Int32).toNatClampNeg)]) (rest := []) sameC X Z (cX2_makeAborted_c l k0 e7) (oX2 k0) rfl (gooV mB458 mB203 mB204 mB43 mB194) rfl (by decide +kernel) rfl ⟨Nat.le_of_ble_eq_true rfl, Nat.le_of_ble_eq_true rfl⟩ ⟨Nat.le_of_ble_eq_true rfl, Nat.le_of_ble_eq_true rfl⟩ hl.1 rfl (Nat.le_of_ble_eq_true rfl) dX6_executeCommand_171 (fun w8 H locs Z => ?_)
      refine lv_pop hx hb dX6_executeCommand_174 rfl ?_
      refine lv_goto (tgt := 208) hx hb dX6_executeCommand_175 (by decide) ?_
      refine lv_iconst (v := 1) hx hb dX6_executeCommand_208 (by decide) ?_
      obtain rfl := Option.some.inj hm
      exact kI _ _ _ _ dX6_executeCommand_209 Z nb1
    replace hm := (if_neg c6).symm.trans hm
    by_cases c11 : (g 157 1) = 98
    · replace hm := (if_pos c11).symm.trans hm
      refine lv_lookup (tgt := 84) hx hb dX6_executeCommand_27 (by decide) (by rw [c11]; try rfl) (by decide) ?_
      refine lv_aload_n hx hb dX6_executeCommand_84 rfl (lv_at hl 1 rfl) ?_
      refine g_get (j := 0) (v := .ref (G.1 0)) X Z (oX6 k160) (iB6 _) rfl (by decide) rfl (List.mem_cons_of_mem _ mB385) rfl dX6_executeCommand_85 ?_
      refine lv_iload_n hx hb dX6_executeCommand_88 rfl (lv_at hl 0 rfl) ?_
      obtain ⟨r14, g15, e12, hm⟩ := sBi2_some hm
      refine g_callVI (n := 1) (As := [.int (g 158 (0 : Int32).toNatClampNeg)]) (rest := []) sameC X Z (cX2_beginAt_c l k0 e12) (oX2 k0) rfl (gooV mB416 mB417 mB418 mB43 mB119) rfl (by decide +kernel) rfl ⟨Nat.le_of_ble_eq_true rfl, Nat.le_of_ble_eq_true rfl⟩ ⟨Nat.le_of_ble_eq_true rfl, Nat.le_of_ble_eq_true rfl⟩ hl.1 rfl (Nat.le_of_ble_eq_true rfl) dX6_executeCommand_89 (fun w13 H locs Z => ?_)
      refine lv_pop hx hb dX6_executeCommand_92 rfl ?_
      refine lv_goto (tgt := 208) hx hb dX6_executeCommand_93 (by decide) ?_
      refine lv_iconst (v := 1) hx hb dX6_executeCommand_208 (by decide) ?_
      obtain rfl := Option.some.inj hm
      exact kI _ _ _ _ dX6_executeCommand_209 Z nb1
    replace hm := (if_neg c11).symm.trans hm
    by_cases c16 : (g 157 1) = 99
    · replace hm := (if_pos c16).symm.trans hm
      refine lv_lookup (tgt := 147) hx hb dX6_executeCommand_27 (by decide) (by rw [c16]; try rfl) (by decide) ?_
      refine lv_aload_n hx hb dX6_executeCommand_147 rfl (lv_at hl 1 rfl) ?_
      refine g_get (j := 0) (v := .ref (G.1 0)) X Z (oX6 k160) (iB6 _) rfl (by decide) rfl (List.mem_cons_of_mem _ mB385) rfl dX6_executeCommand_148 ?_
      refine lv_aload_n hx hb dX6_executeCommand_151 rfl (lv_at hl 1 rfl) ?_
      refine g_get (j := 0) (v := .ref (G.1 0)) X Z (oX6 k160) (iB6 _) rfl (by decide) rfl (List.mem_cons_of_mem _ mB385) rfl dX6_executeCommand_152 ?_
      refine lv_iload_n hx hb dX6_executeCommand_155 rfl (lv_at hl 0 rfl) ?_
      obtain ⟨r19, e17, hm⟩ := sBi_some hm
      refine g_callVI (n := 1) (As := [.int (g 158 (0 : Int32).toNatClampNeg)]) (rest := [.ref (G.1 0)]) sameC X Z (cX2_commitOutcome_c l k0 e17) (oX2 k0) rfl (gooV mB451 mB452 mB453 mB43 mB193) rfl (by decide +kernel) rfl ⟨Nat.le_of_ble_eq_true rfl, Nat.le_of_ble_eq_true rfl⟩ ⟨Nat.le_of_ble_eq_true rfl, Nat.le_of_ble_eq_true rfl⟩ hl.1 rfl (Nat.le_of_ble_eq_true rfl) dX6_executeCommand_156 (fun w18 H locs Z => ?_)
      refine lv_iload_n hx hb dX6_executeCommand_159 rfl (lv_at hl 0 rfl) ?_
      obtain ⟨g22, e20, hm⟩ := sBi_some hm
      refine g_callVV (n := 2) (As := [.int r19, .int (g 158 (0 : Int32).toNatClampNeg)]) (rest := []) sameC X Z (cX2_carryOut_c l k0 e20) (oX2 k0) rfl (gooV mB454 mB455 mB456 mB43 mB208) rfl (by decide +kernel) rfl ⟨Nat.le_of_ble_eq_true rfl, Nat.le_of_ble_eq_true rfl⟩ ⟨Nat.le_of_ble_eq_true rfl, Nat.le_of_ble_eq_true rfl⟩ hl.1 rfl (Nat.le_of_ble_eq_true rfl) dX6_executeCommand_160 (fun H locs Z => ?_)
      refine lv_goto (tgt := 208) hx hb dX6_executeCommand_163 (by decide) ?_
      refine lv_iconst (v := 1) hx hb dX6_executeCommand_208 (by decide) ?_
      obtain rfl := Option.some.inj hm
      exact kI _ _ _ _ dX6_executeCommand_209 Z nb1
    replace hm := (if_neg c16).symm.trans hm
    by_cases c23 : (g 157 1) = 114
    · replace hm := (if_pos c23).symm.trans hm
      refine lv_lookup (tgt := 96) hx hb dX6_executeCommand_27 (by decide) (by rw [c23]; try rfl) (by decide) ?_
      refine lv_aload_n hx hb dX6_executeCommand_96 rfl (lv_at hl 1 rfl) ?_
      refine g_get (j := 0) (v := .ref (G.1 0)) X Z (oX6 k160) (iB6 _) rfl (by decide) rfl (List.mem_cons_of_mem _ mB385) rfl dX6_executeCommand_97 ?_
      refine lv_iload_n hx hb dX6_executeCommand_100 rfl (lv_at hl 0 rfl) ?_
      refine lv_aload_n hx hb dX6_executeCommand_101 rfl (lv_at hl 1 rfl) ?_
      refine g_get (j := 4) (v := .ref (G.1 157)) X Z (oX6 k160) (iB6 _) rfl (by decide) rfl (List.mem_cons_of_mem _ mB395) rfl dX6_executeCommand_102 ?_
      refine g_get (j := 2) (v := .ref (G.1 158)) X Z (oX3 k157) (iB3 _) rfl (by decide) rfl (List.mem_cons_of_mem _ mB511) rfl dX6_executeCommand_105 ?_
      refine lv_iconst (v := 1) hx hb dX6_executeCommand_108 (by decide) ?_
      obtain ⟨b24, hm⟩ := sIdx_some hm
      refine g_iald X Z (aI k158) b24 dX6_executeCommand_109 ?_
      obtain ⟨r27, g28, e25, hm⟩ := sBi2_some hm
      refine g_callVI (n := 2) (As := [.int (g 158 (0 : Int32).toNatClampNeg), .int (g 158 (1 : Int32).toNatClampNeg)]) (rest := []) sameC X Z (cX2_readKey_c l k0 e25) (oX2 k0) rfl (gooV mB437 mB438 mB439 mB43 mB148) rfl (by decide +kernel) rfl ⟨Nat.le_of_ble_eq_true rfl, Nat.le_of_ble_eq_true rfl⟩ ⟨Nat.le_of_ble_eq_true rfl, Nat.le_of_ble_eq_true rfl⟩ hl.1 rfl (Nat.le_of_ble_eq_true rfl) dX6_executeCommand_110 (fun w26 H locs Z => ?_)
      refine lv_pop hx hb dX6_executeCommand_113 rfl ?_
      refine lv_goto (tgt := 208) hx hb dX6_executeCommand_114 (by decide) ?_
      refine lv_iconst (v := 1) hx hb dX6_executeCommand_208 (by decide) ?_
      obtain rfl := Option.some.inj hm
      exact kI _ _ _ _ dX6_executeCommand_209 Z nb1
    replace hm := (if_neg c23).symm.trans hm
    by_cases c29 : (g 157 1) = 116
    · replace hm := (if_pos c29).symm.trans hm
      refine lv_lookup (tgt := 178) hx hb dX6_executeCommand_27 (by decide) (by rw [c29]; try rfl) (by decide) ?_
      refine lv_aload_n hx hb dX6_executeCommand_178 rfl (lv_at hl 1 rfl) ?_
      refine g_get (j := 0) (v := .ref (G.1 0)) X Z (oX6 k160) (iB6 _) rfl (by decide) rfl (List.mem_cons_of_mem _ mB385) rfl dX6_executeCommand_179 ?_
      refine lv_iload_n hx hb dX6_executeCommand_182 rfl (lv_at hl 0 rfl) ?_
      obtain ⟨r32, g33, e30, hm⟩ := sBi2_some hm
      refine g_callVI (n := 1) (As := [.int (g 158 (0 : Int32).toNatClampNeg)]) (rest := []) sameC X Z (cX2_advanceBy_c l k0 e30) (oX2 k0) rfl (gooV mB463 mB464 mB465 mB43 mB227) rfl (by decide +kernel) rfl ⟨Nat.le_of_ble_eq_true rfl, Nat.le_of_ble_eq_true rfl⟩ ⟨Nat.le_of_ble_eq_true rfl, Nat.le_of_ble_eq_true rfl⟩ hl.1 rfl (Nat.le_of_ble_eq_true rfl) dX6_executeCommand_183 (fun w31 H locs Z => ?_)
      refine lv_pop hx hb dX6_executeCommand_186 rfl ?_
      refine lv_goto (tgt := 208) hx hb dX6_executeCommand_187 (by decide) ?_
      refine lv_iconst (v := 1) hx hb dX6_executeCommand_208 (by decide) ?_
      obtain rfl := Option.some.inj hm
      exact kI _ _ _ _ dX6_executeCommand_209 Z nb1
    replace hm := (if_neg c29).symm.trans hm
    by_cases c34 : (g 157 1) = 119
    · replace hm := (if_pos c34).symm.trans hm
      refine lv_lookup (tgt := 117) hx hb dX6_executeCommand_27 (by decide) (by rw [c34]; try rfl) (by decide) ?_
      refine lv_aload_n hx hb dX6_executeCommand_117 rfl (lv_at hl 1 rfl) ?_
      refine g_get (j := 0) (v := .ref (G.1 0)) X Z (oX6 k160) (iB6 _) rfl (by decide) rfl (List.mem_cons_of_mem _ mB385) rfl dX6_executeCommand_118 ?_
      refine lv_iload_n hx hb dX6_executeCommand_121 rfl (lv_at hl 0 rfl) ?_
      refine lv_aload_n hx hb dX6_executeCommand_122 rfl (lv_at hl 1 rfl) ?_
      refine g_get (j := 4) (v := .ref (G.1 157)) X Z (oX6 k160) (iB6 _) rfl (by decide) rfl (List.mem_cons_of_mem _ mB395) rfl dX6_executeCommand_123 ?_
      refine g_get (j := 2) (v := .ref (G.1 158)) X Z (oX3 k157) (iB3 _) rfl (by decide) rfl (List.mem_cons_of_mem _ mB511) rfl dX6_executeCommand_126 ?_
      refine lv_iconst (v := 1) hx hb dX6_executeCommand_129 (by decide) ?_
      obtain ⟨b35, hm⟩ := sIdx_some hm
      refine g_iald X Z (aI k158) b35 dX6_executeCommand_130 ?_
      refine lv_aload_n hx hb dX6_executeCommand_131 rfl (lv_at hl 1 rfl) ?_
      refine g_get (j := 4) (v := .ref (G.1 157)) X Z (oX6 k160) (iB6 _) rfl (by decide) rfl (List.mem_cons_of_mem _ mB395) rfl dX6_executeCommand_132 ?_
      refine g_get (j := 2) (v := .ref (G.1 158)) X Z (oX3 k157) (iB3 _) rfl (by decide) rfl (List.mem_cons_of_mem _ mB511) rfl dX6_executeCommand_135 ?_
      refine lv_iconst (v := 2) hx hb dX6_executeCommand_138 (by decide) ?_
      obtain ⟨b36, hm⟩ := sIdx_some hm
      refine g_iald X Z (aI k158) b36 dX6_executeCommand_139 ?_
      obtain ⟨r39, g40, e37, hm⟩ := sBi2_some hm
      refine g_callVI (n := 3) (As := [.int (g 158 (0 : Int32).toNatClampNeg), .int (g 158 (1 : Int32).toNatClampNeg), .int (g 158 (2 : Int32).toNatClampNeg)]) (rest := []) sameC X Z (cX2_writeKey_c l k0 e37) (oX2 k0) rfl (gooV mB447 mB448 mB449 mB43 mB151) rfl (by decide +kernel) rfl ⟨Nat.le_of_ble_eq_true rfl, Nat.le_of_ble_eq_true rfl⟩ ⟨Nat.le_of_ble_eq_true rfl, Nat.le_of_ble_eq_true rfl⟩ hl.1 rfl (Nat.le_of_ble_eq_true rfl) dX6_executeCommand_140 (fun w38 H locs Z => ?_)
      refine lv_pop hx hb dX6_executeCommand_143 rfl ?_
      refine lv_goto (tgt := 208) hx hb dX6_executeCommand_144 (by decide) ?_
      refine lv_iconst (v := 1) hx hb dX6_executeCommand_208 (by decide) ?_
      obtain rfl := Option.some.inj hm
      exact kI _ _ _ _ dX6_executeCommand_209 Z nb1
    replace hm := (if_neg c34).symm.trans hm
    refine lv_lookup (off := 163) (tgt := 190) hx hb dX6_executeCommand_27 (by decide) ((lv_osw c6 rfl).trans ((lv_osw c11 rfl).trans ((lv_osw c16 rfl).trans ((lv_osw c23 rfl).trans ((lv_osw c29 rfl).trans ((lv_osw c34 rfl).trans rfl)))))) (by decide) ?_
    refine lv_aload_n hx hb dX6_executeCommand_190 rfl (lv_at hl 1 rfl) ?_
    refine g_get (j := 0) (v := .ref (G.1 0)) X Z (oX6 k160) (iB6 _) rfl (by decide) rfl (List.mem_cons_of_mem _ mB385) rfl dX6_executeCommand_191 ?_
    refine lv_iload_n hx hb dX6_executeCommand_194 rfl (lv_at hl 0 rfl) ?_
    refine lv_aload_n hx hb dX6_executeCommand_195 rfl (lv_at hl 1 rfl) ?_
    refine g_get (j := 4) (v := .ref (G.1 157)) X Z (oX6 k160) (iB6 _) rfl (by decide) rfl (List.mem_cons_of_mem _ mB395) rfl dX6_executeCommand_196 ?_
    refine g_get (j := 2) (v := .ref (G.1 158)) X Z (oX3 k157) (iB3 _) rfl (by decide) rfl (List.mem_cons_of_mem _ mB511) rfl dX6_executeCommand_199 ?_
    refine lv_iconst (v := 1) hx hb dX6_executeCommand_202 (by decide) ?_
    obtain ⟨b41, hm⟩ := sIdx_some hm
    refine g_iald X Z (aI k158) b41 dX6_executeCommand_203 ?_
    obtain ⟨r44, g45, e42, hm⟩ := sBi2_some hm
    refine g_callVI (n := 2) (As := [.int (g 158 (0 : Int32).toNatClampNeg), .int (g 158 (1 : Int32).toNatClampNeg)]) (rest := []) sameC X Z (cX2_synchronizeClock_c l k0 e42) (oX2 k0) rfl (gooV mB467 mB468 mB469 mB43 mB228) rfl (by decide +kernel) rfl ⟨Nat.le_of_ble_eq_true rfl, Nat.le_of_ble_eq_true rfl⟩ ⟨Nat.le_of_ble_eq_true rfl, Nat.le_of_ble_eq_true rfl⟩ hl.1 rfl (Nat.le_of_ble_eq_true rfl) dX6_executeCommand_204 (fun w43 H locs Z => ?_)
    refine lv_pop hx hb dX6_executeCommand_207 rfl ?_
    refine lv_iconst (v := 1) hx hb dX6_executeCommand_208 (by decide) ?_
    obtain rfl := Option.some.inj hm
    exact kI _ _ _ _ dX6_executeCommand_209 Z nb1
  · replace hm := (if_pos c5).symm.trans hm
    refine lv_iconst (v := 0) hx hb dX6_executeCommand_18 (by decide) ?_
    obtain rfl := Option.some.inj hm
    exact kI _ _ _ _ dX6_executeCommand_19 Z nb0
theorem cX6_executeCommand_c (l : Launch) {G : LY} {g : Mem} {n : Nat} {r : Int32 × Mem} (hm : sX6_executeCommand n g = some r) : cI l yX6_executeCommand wmX6_executeCommand 5 113 .boolean wC G [.ref (G.1 160)] g r.1 r.2 :=
  mk_cI sameC (by decide +kernel) rfl (Nat.le_of_ble_eq_true rfl) (fun p e s m args below meth c A Q ls X kI hl Z => bX6_executeCommand_0 X kI g  _ _ ls Z hl hm)
abbrev wmX6_runText : List Cond := Cond.code yX6_runText cX6_runText 2 (some .int) :: wA0
set_option maxHeartbeats 4000000 in
set_option maxRecDepth 100000 in
theorem bX6_runText_41 (X : gC p s m args meth c cX6_runText 2 wmX6_runText yX6_runText.cls (some .int) G A) {n : Nat} {r : Nat × Int32 × Mem} (hNX : ∀ x ∈ c.exceptionTable.toList, False) (hst : l.stackTraces = false) (kI : ∀ (pc : Nat) (ls : Array Slot) (H : Heap) (locs : List Loc) (cells slots : Nat), cells ≤ 1 → slots ≤ 6 → r.1 = 0 → decode cX6_runText pc = .ok (.ireturn, 1) → WS wC G r.2.2 A s.heap H locs → narrow .int (.int r.2.1) = .int r.2.1 → W p l e { frames := 6, cells := 1, slots := 6, locals := 134 } s m args below meth c H locs cells slots (vx_MQ below Qc XC args s 1 6 A) (F0 m pc ls [.int r.2.1])) (kT : r.1 ≠ 0 → gTh XC s wC G A r.1 r.2.2) : ∀ (f : Nat), ∀ (g : Mem) (x1 : Int32) (H : Heap) (locs : List Loc) (ls : Array Slot), WS wC G g A s.heap H locs → lv_has ls 2 [(0, .ref (G.1 160)), (1, .int x1)] → sX6_runText_41 n f g x1 = some r → W p l e { frames := 6, cells := 1, slots := 6, locals := 134 } s m args below meth c H locs 0 0 (vx_MQ below Qc XC args s 1 6 A) (F0 m 41 ls []) := by
  have hx := X.1
  have hb := X.2.1
  intro f
  induction f with
  | zero =>
    intro g x1 H locs ls Z hl hm
    cases hm
  | succ f ih =>
    intro g x1 H locs ls Z hl hm
    unfold sX6_runText_41 at hm
    refine lv_iload_n hx hb dX6_runText_41 rfl (lv_at hl 1 rfl) ?_
    refine lv_aload_n hx hb dX6_runText_42 rfl (lv_at hl 0 rfl) ?_
    refine g_get (j := 4) (v := .ref (G.1 157)) X Z (oX6 k160) (iB6 _) rfl (by decide) rfl (List.mem_cons_of_mem _ mB395) rfl dX6_runText_43 ?_
    refine g_get (j := 0) (v := .int (g 157 0)) X Z (oX3 k157) (iB3 _) rfl (by decide) rfl (List.mem_cons_of_mem _ mB497) rfl dX6_runText_46 ?_
    refine lv_icmp_ge (tgt := 75) hx hb dX6_runText_49 (by decide) (fun c1 => ?_) (fun c1 => ?_)
    · replace hm := (if_pos c1).symm.trans hm
      refine lv_iload_n hx hb dX6_runText_75 rfl (lv_at hl 1 rfl) ?_
      obtain rfl := Option.some.inj hm
      exact kI _ _ _ _ _ _ (Nat.le_of_ble_eq_true rfl) (Nat.le_of_ble_eq_true rfl) rfl dX6_runText_76 Z (vp_nar_int _)
    · replace hm := (if_neg c1).symm.trans hm
      refine lv_aload_n hx hb dX6_runText_52 rfl (lv_at hl 0 rfl) ?_
      refine g_get (j := 4) (v := .ref (G.1 157)) X Z (oX6 k160) (iB6 _) rfl (by decide) rfl (List.mem_cons_of_mem _ mB395) rfl dX6_runText_53 ?_
      obtain ⟨r4, g5, e2, hm⟩ := sBi2_some hm
      refine g_callVI (n := 0) (As := []) (rest := []) sameC X Z (cX3_readNextCommand_c l e2) (oX3 k157) rfl (gooV mB517 mB518 mB519 mB335 mB367) rfl (by decide +kernel) rfl ⟨Nat.le_of_ble_eq_true rfl, Nat.le_of_ble_eq_true rfl⟩ ⟨Nat.le_of_ble_eq_true rfl, Nat.le_of_ble_eq_true rfl⟩ hl.1 rfl (Nat.le_of_ble_eq_true rfl) dX6_runText_56 (fun w3 H locs Z => ?_)
      refine lv_if_eq (tgt := 75) hx hb dX6_runText_59 (by decide) (fun c6 => ?_) (fun c6 => ?_)
      · replace hm := (if_pos c6).symm.trans hm
        refine lv_iload_n hx hb dX6_runText_75 rfl (lv_at hl 1 rfl) ?_
        obtain rfl := Option.some.inj hm
        exact kI _ _ _ _ _ _ (Nat.le_of_ble_eq_true rfl) (Nat.le_of_ble_eq_true rfl) rfl dX6_runText_76 Z (vp_nar_int _)
      · replace hm := (if_neg c6).symm.trans hm
        refine lv_aload_n hx hb dX6_runText_62 rfl (lv_at hl 0 rfl) ?_
        obtain ⟨r9, g10, e7, hm⟩ := sBi2_some hm
        refine g_callVI (n := 0) (As := []) (rest := []) sameC X Z (cX6_executeCommand_c l e7) (oX6 k160) rfl (gooV mB520 mB521 mB522 mB409 mB515) rfl (by decide +kernel) rfl ⟨Nat.le_of_ble_eq_true rfl, Nat.le_of_ble_eq_true rfl⟩ ⟨Nat.le_of_ble_eq_true rfl, Nat.le_of_ble_eq_true rfl⟩ hl.1 rfl (Nat.le_of_ble_eq_true rfl) dX6_runText_63 (fun w8 H locs Z => ?_)
        refine lv_if_eq (tgt := 75) hx hb dX6_runText_66 (by decide) (fun c11 => ?_) (fun c11 => ?_)
        · replace hm := (if_pos c11).symm.trans hm
          refine lv_iload_n hx hb dX6_runText_75 rfl (lv_at hl 1 rfl) ?_
          obtain rfl := Option.some.inj hm
          exact kI _ _ _ _ _ _ (Nat.le_of_ble_eq_true rfl) (Nat.le_of_ble_eq_true rfl) rfl dX6_runText_76 Z (vp_nar_int _)
        · replace hm := (if_neg c11).symm.trans hm
          refine lv_iinc (v := (x1 + (1 : Int32))) (lv' := [(1, .int (x1 + (1 : Int32))), (0, .ref (G.1 160))]) hx hb dX6_runText_69 hl (k := 1) rfl rfl (by decide) rfl (fun ls hl => ?_)
          refine lv_goto (tgt := 41) hx hb dX6_runText_72 (by decide) ?_
          exact ih g10 (x1 + (1 : Int32)) _ _ _ Z (lv_sub hl [1, 0] rfl) hm
set_option maxHeartbeats 4000000 in
set_option maxRecDepth 100000 in
theorem bX6_runText_0 (X : gC p s m args meth c cX6_runText 2 wmX6_runText yX6_runText.cls (some .int) G A) {n : Nat} {r : Nat × Int32 × Mem} (hNX : ∀ x ∈ c.exceptionTable.toList, False) (hst : l.stackTraces = false) (kI : ∀ (pc : Nat) (ls : Array Slot) (H : Heap) (locs : List Loc) (cells slots : Nat), cells ≤ 1 → slots ≤ 6 → r.1 = 0 → decode cX6_runText pc = .ok (.ireturn, 1) → WS wC G r.2.2 A s.heap H locs → narrow .int (.int r.2.1) = .int r.2.1 → W p l e { frames := 6, cells := 1, slots := 6, locals := 134 } s m args below meth c H locs cells slots (vx_MQ below Qc XC args s 1 6 A) (F0 m pc ls [.int r.2.1])) (kT : r.1 ≠ 0 → gTh XC s wC G A r.1 r.2.2) : ∀ (g : Mem) (H : Heap) (locs : List Loc) (ls : Array Slot), WS wC G g A s.heap H locs → lv_has ls 2 [(0, .ref (G.1 160))] → sX6_runText n g = some r → W p l e { frames := 6, cells := 1, slots := 6, locals := 134 } s m args below meth c H locs 0 0 (vx_MQ below Qc XC args s 1 6 A) (F0 m 0 ls []) := by
  have hx := X.1
  have hb := X.2.1
  intro g H locs ls Z hl hm
  unfold sX6_runText at hm
  refine lv_aload_n hx hb dX6_runText_0 rfl (lv_at hl 0 rfl) ?_
  refine g_get (j := 4) (v := .ref (G.1 157)) X Z (oX6 k160) (iB6 _) rfl (by decide) rfl (List.mem_cons_of_mem _ mB395) rfl dX6_runText_1 ?_
  obtain ⟨r3, g4, e1, hm⟩ := sBi2_some hm
  refine g_callVI (n := 0) (As := []) (rest := []) sameC X Z (cX3_findError_c l e1) (oX3 k157) rfl (gooV mB505 mB506 mB507 mB335 mB366) rfl (by decide +kernel) rfl ⟨Nat.le_of_ble_eq_true rfl, Nat.le_of_ble_eq_true rfl⟩ ⟨Nat.le_of_ble_eq_true rfl, Nat.le_of_ble_eq_true rfl⟩ hl.1 rfl (Nat.le_of_ble_eq_true rfl) dX6_runText_4 (fun w2 H locs Z => ?_)
  refine lv_iconst (v := (-1)) hx hb dX6_runText_7 (by decide) ?_
  refine lv_icmp_eq (tgt := 21) hx hb dX6_runText_8 (by decide) (fun c5 => ?_) (fun c5 => ?_)
  · replace hm := (if_pos c5).symm.trans hm
    refine lv_aload_n hx hb dX6_runText_21 rfl (lv_at hl 0 rfl) ?_
    refine g_get (j := 1) (v := .ref (G.1 153)) X Z (oX6 k160) (iB6 _) rfl (by decide) rfl (List.mem_cons_of_mem _ mB389) rfl dX6_runText_22 ?_
    refine lv_aload_n hx hb dX6_runText_25 rfl (lv_at hl 0 rfl) ?_
    refine g_get (j := 0) (v := .ref (G.1 0)) X Z (oX6 k160) (iB6 _) rfl (by decide) rfl (List.mem_cons_of_mem _ mB385) rfl dX6_runText_26 ?_
    obtain ⟨g8, e6, hm⟩ := sBi_some hm
    refine g_callVV (n := 1) (As := [.ref (G.1 0)]) (rest := []) sameC X Z (cX0_push_c l k0 e6) (oX0 k153) rfl (gooV mB413 mB414 mB415 mB388 mB83) rfl (by decide +kernel) rfl ⟨Nat.le_of_ble_eq_true rfl, Nat.le_of_ble_eq_true rfl⟩ ⟨Nat.le_of_ble_eq_true rfl, Nat.le_of_ble_eq_true rfl⟩ hl.1 rfl (Nat.le_of_ble_eq_true rfl) dX6_runText_29 (fun H locs Z => ?_)
    refine lv_aload_n hx hb dX6_runText_32 rfl (lv_at hl 0 rfl) ?_
    refine g_get (j := 4) (v := .ref (G.1 157)) X Z (oX6 k160) (iB6 _) rfl (by decide) rfl (List.mem_cons_of_mem _ mB395) rfl dX6_runText_33 ?_
    obtain ⟨g11, e9, hm⟩ := sBi_some hm
    refine g_callVV (n := 0) (As := []) (rest := []) sameC X Z (cX3_rewind_c l e9) (oX3 k157) rfl (gooV mB516 mB361 mB362 mB335 mB247) rfl (by decide +kernel) rfl ⟨Nat.le_of_ble_eq_true rfl, Nat.le_of_ble_eq_true rfl⟩ ⟨Nat.le_of_ble_eq_true rfl, Nat.le_of_ble_eq_true rfl⟩ hl.1 rfl (Nat.le_of_ble_eq_true rfl) dX6_runText_36 (fun H locs Z => ?_)
    refine lv_iconst (v := 0) hx hb dX6_runText_39 (by decide) ?_
    refine lv_istore_n (lv' := [(1, .int 0), (0, .ref (G.1 160))]) hx hb dX6_runText_40 rfl hl (by decide) rfl (fun ls hl => ?_)
    exact bX6_runText_41 X hNX hst kI kT n g11 (0 : Int32) _ _ _ Z (lv_sub hl [1, 0] rfl) hm
  · replace hm := (if_neg c5).symm.trans hm
    obtain rfl := Option.some.inj hm
    exact g_throw (ec := 3) (text := "the text is not valid") (names := ["java/lang/RuntimeException", "java/lang/Exception"]) X hNX hst Z hl.1 rfl thfS thn (List.mem_cons_of_mem _ mB404) (List.mem_cons_of_mem _ mB405) (by decide) (fun w h => List.mem_cons_of_mem _ (iAtS w h)) (by decide) thbS thgS_46 dX6_runText_11 dX6_runText_14 dX6_runText_15 dX6_runText_17 dX6_runText_20 ⟨Nat.le_of_ble_eq_true rfl, Nat.le_of_ble_eq_true rfl, Nat.le_of_ble_eq_true rfl, Nat.le_of_ble_eq_true rfl⟩ ⟨Nat.le_of_ble_eq_true rfl, Nat.le_of_ble_eq_true rfl⟩ (kT th3)
theorem cX6_runText_c (l : Launch) (hst : l.stackTraces = false) {G : LY} {g : Mem} {n : Nat} {r : Nat × Int32 × Mem} (hm : sX6_runText n g = some r) : cXI l yX6_runText wmX6_runText 6 134 1 6 .int wC G [.ref (G.1 160)] g r.1 r.2.1 r.2.2 :=
  mk_cXI sameC (by decide +kernel) rfl (Nat.le_of_ble_eq_true rfl) (fun p e s m args below meth c A Qc XC ls X hNX kI kT hl Z => bX6_runText_0 X hNX hst kI kT g  _ _ ls Z hl hm)
abbrev wmX6_undo : List Cond := Cond.code yX6_undo cX6_undo 1 (some .int) :: wA0
set_option maxHeartbeats 4000000 in
set_option maxRecDepth 100000 in
theorem bX6_undo_0 (X : gC p s m args meth c cX6_undo 1 wmX6_undo yX6_undo.cls (some .int) G A) {n : Nat} {r : Nat × Int32 × Mem} (hNX : ∀ x ∈ c.exceptionTable.toList, False) (hst : l.stackTraces = false) (kI : ∀ (pc : Nat) (ls : Array Slot) (H : Heap) (locs : List Loc) (cells slots : Nat), cells ≤ 1 → slots ≤ 6 → r.1 = 0 → decode cX6_undo pc = .ok (.ireturn, 1) → WS wC G r.2.2 A s.heap H locs → narrow .int (.int r.2.1) = .int r.2.1 → W p l e { frames := 6, cells := 1, slots := 6, locals := 113 } s m args below meth c H locs cells slots (vx_MQ below Qc XC args s 1 6 A) (F0 m pc ls [.int r.2.1])) (kT : r.1 ≠ 0 → gTh XC s wC G A r.1 r.2.2) : ∀ (g : Mem) (H : Heap) (locs : List Loc) (ls : Array Slot), WS wC G g A s.heap H locs → lv_has ls 1 [(0, .ref (G.1 160))] → sX6_undo n g = some r → W p l e { frames := 6, cells := 1, slots := 6, locals := 113 } s m args below meth c H locs 0 0 (vx_MQ below Qc XC args s 1 6 A) (F0 m 0 ls []) := by
  have hx := X.1
  have hb := X.2.1
  intro g H locs ls Z hl hm
  unfold sX6_undo at hm
  refine lv_aload_n hx hb dX6_undo_0 rfl (lv_at hl 0 rfl) ?_
  refine g_get (j := 1) (v := .ref (G.1 153)) X Z (oX6 k160) (iB6 _) rfl (by decide) rfl (List.mem_cons_of_mem _ mB389) rfl dX6_undo_1 ?_
  refine g_get (j := 0) (v := .int (g 153 0)) X Z (oX0 k153) (iB0 _) rfl (by decide) rfl (List.mem_cons_of_mem _ mB524) rfl dX6_undo_4 ?_
  refine lv_if_ne (tgt := 20) hx hb dX6_undo_7 (by decide) (fun c1 => ?_) (fun c1 => ?_)
  · replace hm := (if_neg c1).symm.trans hm
    refine lv_aload_n hx hb dX6_undo_20 rfl (lv_at hl 0 rfl) ?_
    refine g_get (j := 1) (v := .ref (G.1 153)) X Z (oX6 k160) (iB6 _) rfl (by decide) rfl (List.mem_cons_of_mem _ mB389) rfl dX6_undo_21 ?_
    refine lv_aload_n hx hb dX6_undo_24 rfl (lv_at hl 0 rfl) ?_
    refine g_get (j := 0) (v := .ref (G.1 0)) X Z (oX6 k160) (iB6 _) rfl (by decide) rfl (List.mem_cons_of_mem _ mB385) rfl dX6_undo_25 ?_
    obtain ⟨g4, e2, hm⟩ := sBi_some hm
    refine g_callVV (n := 1) (As := [.ref (G.1 0)]) (rest := []) sameC X Z (cX0_popInto_c l k0 e2) (oX0 k153) rfl (gooV mB525 mB526 mB527 mB388 mB84) rfl (by decide +kernel) rfl ⟨Nat.le_of_ble_eq_true rfl, Nat.le_of_ble_eq_true rfl⟩ ⟨Nat.le_of_ble_eq_true rfl, Nat.le_of_ble_eq_true rfl⟩ hl.1 rfl (Nat.le_of_ble_eq_true rfl) dX6_undo_28 (fun H locs Z => ?_)
    refine lv_aload_n hx hb dX6_undo_31 rfl (lv_at hl 0 rfl) ?_
    refine g_get (j := 1) (v := .ref (G.1 153)) X Z (oX6 k160) (iB6 _) rfl (by decide) rfl (List.mem_cons_of_mem _ mB389) rfl dX6_undo_32 ?_
    refine g_get (j := 0) (v := .int (g4 153 0)) X Z (oX0 k153) (iB0 _) rfl (by decide) rfl (List.mem_cons_of_mem _ mB524) rfl dX6_undo_35 ?_
    obtain rfl := Option.some.inj hm
    exact kI _ _ _ _ _ _ (Nat.le_of_ble_eq_true rfl) (Nat.le_of_ble_eq_true rfl) rfl dX6_undo_38 Z (vp_nar_int _)
  · replace hm := (if_pos c1).symm.trans hm
    obtain rfl := Option.some.inj hm
    exact g_throw (ec := 3) (text := "there is no saved state") (names := ["java/lang/RuntimeException", "java/lang/Exception"]) X hNX hst Z hl.1 rfl thfS thn (List.mem_cons_of_mem _ mB404) (List.mem_cons_of_mem _ mB405) (by decide) (fun w h => List.mem_cons_of_mem _ (iAtS w h)) (by decide) thbS thgS_46 dX6_undo_10 dX6_undo_13 dX6_undo_14 dX6_undo_16 dX6_undo_19 ⟨Nat.le_of_ble_eq_true rfl, Nat.le_of_ble_eq_true rfl, Nat.le_of_ble_eq_true rfl, Nat.le_of_ble_eq_true rfl⟩ ⟨Nat.le_of_ble_eq_true rfl, Nat.le_of_ble_eq_true rfl⟩ (kT th3)
theorem cX6_undo_c (l : Launch) (hst : l.stackTraces = false) {G : LY} {g : Mem} {n : Nat} {r : Nat × Int32 × Mem} (hm : sX6_undo n g = some r) : cXI l yX6_undo wmX6_undo 6 113 1 6 .int wC G [.ref (G.1 160)] g r.1 r.2.1 r.2.2 :=
  mk_cXI sameC (by decide +kernel) rfl (Nat.le_of_ble_eq_true rfl) (fun p e s m args below meth c A Qc XC ls X hNX kI kT hl Z => bX6_undo_0 X hNX hst kI kT g  _ _ ls Z hl hm)
abbrev wmX6_requireSlot : List Cond := Cond.code yX6_requireSlot cX6_requireSlot 2 none :: wA0
set_option maxHeartbeats 4000000 in
set_option maxRecDepth 100000 in
theorem bX6_requireSlot_0 (X : gC p s m args meth c cX6_requireSlot 2 wmX6_requireSlot yX6_requireSlot.cls none G A) {g : Mem} {r : Nat} (hNX : ∀ x ∈ c.exceptionTable.toList, False) (hst : l.stackTraces = false) (kI : ∀ (pc : Nat) (ls : Array Slot) (H : Heap) (locs : List Loc) (cells slots : Nat), cells ≤ 1 → slots ≤ 6 → r = 0 → decode cX6_requireSlot pc = .ok (.return_, 1) → WS wC G g A s.heap H locs → W p l e { frames := 6, cells := 1, slots := 6, locals := 90 } s m args below meth c H locs cells slots (vx_MQ below Qc XC args s 1 6 A) (F0 m pc ls [])) (kT : r ≠ 0 → gTh XC s wC G A r g) : ∀ (x1 : Int32) (H : Heap) (locs : List Loc) (ls : Array Slot), WS wC G g A s.heap H locs → lv_has ls 2 [(0, .ref (G.1 160)), (1, .int x1)] → sX6_requireSlot g x1 = some r → W p l e { frames := 6, cells := 1, slots := 6, locals := 90 } s m args below meth c H locs 0 0 (vx_MQ below Qc XC args s 1 6 A) (F0 m 0 ls []) := by
  have hx := X.1
  have hb := X.2.1
  intro x1 H locs ls Z hl hm
  unfold sX6_requireSlot at hm
  refine lv_iload_n hx hb dX6_requireSlot_0 rfl (lv_at hl 1 rfl) ?_
  refine lv_if_lt (tgt := 9) hx hb dX6_requireSlot_1 (by decide) (fun c1 => ?_) (fun c1 => ?_)
  · replace hm := (if_pos c1).symm.trans hm
    obtain rfl := Option.some.inj hm
    exact g_throwW (ec := 1) (text := "there is no such slot") (names := ["java/lang/RuntimeException", "java/lang/Exception"]) X hNX hst Z hl.1 rfl thfI thn (List.mem_cons_of_mem _ mB402) (List.mem_cons_of_mem _ mB403) (by decide) (fun w h => List.mem_cons_of_mem _ (iAtI w h)) (by decide) thbI thgI_254 dX6_requireSlot_9 dX6_requireSlot_12 dX6_requireSlot_13 dX6_requireSlot_16 dX6_requireSlot_19 ⟨Nat.le_of_ble_eq_true rfl, Nat.le_of_ble_eq_true rfl, Nat.le_of_ble_eq_true rfl, Nat.le_of_ble_eq_true rfl⟩ ⟨Nat.le_of_ble_eq_true rfl, Nat.le_of_ble_eq_true rfl⟩ (kT th1)
  · replace hm := (if_neg c1).symm.trans hm
    refine lv_iload_n hx hb dX6_requireSlot_4 rfl (lv_at hl 1 rfl) ?_
    refine lv_iconst (v := 2) hx hb dX6_requireSlot_5 (by decide) ?_
    refine lv_icmp_lt (tgt := 20) hx hb dX6_requireSlot_6 (by decide) (fun c2 => ?_) (fun c2 => ?_)
    · replace hm := (if_pos c2).symm.trans hm
      obtain rfl := Option.some.inj hm
      exact kI _ _ _ _ _ _ (Nat.le_of_ble_eq_true rfl) (Nat.le_of_ble_eq_true rfl) rfl dX6_requireSlot_20 Z
    · replace hm := (if_neg c2).symm.trans hm
      obtain rfl := Option.some.inj hm
      exact g_throwW (ec := 1) (text := "there is no such slot") (names := ["java/lang/RuntimeException", "java/lang/Exception"]) X hNX hst Z hl.1 rfl thfI thn (List.mem_cons_of_mem _ mB402) (List.mem_cons_of_mem _ mB403) (by decide) (fun w h => List.mem_cons_of_mem _ (iAtI w h)) (by decide) thbI thgI_254 dX6_requireSlot_9 dX6_requireSlot_12 dX6_requireSlot_13 dX6_requireSlot_16 dX6_requireSlot_19 ⟨Nat.le_of_ble_eq_true rfl, Nat.le_of_ble_eq_true rfl, Nat.le_of_ble_eq_true rfl, Nat.le_of_ble_eq_true rfl⟩ ⟨Nat.le_of_ble_eq_true rfl, Nat.le_of_ble_eq_true rfl⟩ (kT th1)
theorem cX6_requireSlot_c (l : Launch) (hst : l.stackTraces = false) {G : LY} {g : Mem} {x1 : Int32} {r : Nat} (hm : sX6_requireSlot g x1 = some r) : cXV l yX6_requireSlot wmX6_requireSlot 6 90 1 6 wC G [.ref (G.1 160), .int x1] g r g :=
  mk_cXV sameC (by decide +kernel) rfl (Nat.le_of_ble_eq_true rfl) (fun p e s m args below meth c A Qc XC ls X hNX kI kT hl Z => bX6_requireSlot_0 X hNX hst kI kT x1 _ _ ls Z hl hm)
abbrev wmX6_save : List Cond := Cond.code yX6_save cX6_save 2 (some .int) :: wA0
set_option maxHeartbeats 4000000 in
set_option maxRecDepth 100000 in
theorem bX6_save_0 (X : gC p s m args meth c cX6_save 2 wmX6_save yX6_save.cls (some .int) G A) {n : Nat} {r : Nat × Int32 × Mem} (hNX : ∀ x ∈ c.exceptionTable.toList, False) (hst : l.stackTraces = false) (kI : ∀ (pc : Nat) (ls : Array Slot) (H : Heap) (locs : List Loc) (cells slots : Nat), cells ≤ 1 → slots ≤ 6 → r.1 = 0 → decode cX6_save pc = .ok (.ireturn, 1) → WS wC G r.2.2 A s.heap H locs → narrow .int (.int r.2.1) = .int r.2.1 → W p l e { frames := 7, cells := 1, slots := 6, locals := 111 } s m args below meth c H locs cells slots (vx_MQ below Qc XC args s 1 6 A) (F0 m pc ls [.int r.2.1])) (kT : r.1 ≠ 0 → gTh XC s wC G A r.1 r.2.2) : ∀ (g : Mem) (x1 : Int32) (H : Heap) (locs : List Loc) (ls : Array Slot), WS wC G g A s.heap H locs → lv_has ls 2 [(0, .ref (G.1 160)), (1, .int x1)] → sX6_save n g x1 = some r → W p l e { frames := 7, cells := 1, slots := 6, locals := 111 } s m args below meth c H locs 0 0 (vx_MQ below Qc XC args s 1 6 A) (F0 m 0 ls []) := by
  have hx := X.1
  have hb := X.2.1
  intro g x1 H locs ls Z hl hm
  unfold sX6_save at hm
  refine lv_aload_n hx hb dX6_save_0 rfl (lv_at hl 0 rfl) ?_
  refine lv_iload_n hx hb dX6_save_1 rfl (lv_at hl 1 rfl) ?_
  rcases sReq_some hm with ⟨e1, hm⟩ | ⟨ec2, c3, e1, hm⟩
  rotate_left
  · obtain rfl := Option.some.inj hm
    exact g_xcallT (n := 1) (As := [.int x1]) (rest := []) sameC X hNX Z c3 (cX6_requireSlot_c l hst e1) (oX6 k160) rfl (gooV mB530 mB531 mB532 mB409 mB529) rfl (by decide +kernel) rfl ⟨Nat.le_of_ble_eq_true rfl, Nat.le_of_ble_eq_true rfl⟩ ⟨Nat.le_of_ble_eq_true rfl, Nat.le_of_ble_eq_true rfl⟩ ⟨Nat.le_of_ble_eq_true rfl, Nat.le_of_ble_eq_true rfl⟩ hl.1 rfl (Nat.le_of_ble_eq_true rfl) dX6_save_2 (kT c3)
  refine g_xcall0 (n := 1) (As := [.int x1]) (rest := []) (c1 := 1) (s1 := 6) sameC X Z (cX6_requireSlot_c l hst e1) (oX6 k160) rfl (gooV mB530 mB531 mB532 mB409 mB529) rfl (by decide +kernel) rfl ⟨Nat.le_of_ble_eq_true rfl, Nat.le_of_ble_eq_true rfl⟩ rfl rfl ⟨Nat.le_of_ble_eq_true rfl, Nat.le_of_ble_eq_true rfl⟩ hl.1 rfl (Nat.le_of_ble_eq_true rfl) dX6_save_2 (fun H locs Z => ?_)
  refine lv_aload_n hx hb dX6_save_5 rfl (lv_at hl 0 rfl) ?_
  refine g_get (j := 2) (v := .ref (G.1 155)) X Z (oX6 k160) (iB6 _) rfl (by decide) rfl (List.mem_cons_of_mem _ mB390) rfl dX6_save_6 ?_
  refine lv_iload_n hx hb dX6_save_9 rfl (lv_at hl 1 rfl) ?_
  obtain ⟨b4, hm⟩ := sIdx_some hm
  refine g_aald X Z rL rfl b4 dX6_save_10 ?_
  refine lv_aload_n hx hb dX6_save_11 rfl (lv_at hl 0 rfl) ?_
  refine g_get (j := 0) (v := .ref (G.1 0)) X Z (oX6 k160) (iB6 _) rfl (by decide) rfl (List.mem_cons_of_mem _ mB385) rfl dX6_save_12 ?_
  obtain ⟨g7, e5, hm⟩ := sBi_some hm
  refine g_callVV (n := 1) (As := [.ref (G.1 0)]) (rest := []) sameC X Z (cX2_copyFrom_c l (k12l (vp_in_lt b4)) k0 e5) (oX2 (k12l (vp_in_lt b4))) rfl (gooV mB533 mB81 mB82 mB43 mB73) rfl (by decide +kernel) rfl ⟨Nat.le_of_ble_eq_true rfl, Nat.le_of_ble_eq_true rfl⟩ ⟨Nat.le_of_ble_eq_true rfl, Nat.le_of_ble_eq_true rfl⟩ hl.1 rfl (Nat.le_of_ble_eq_true rfl) dX6_save_15 (fun H locs Z => ?_)
  refine lv_aload_n hx hb dX6_save_18 rfl (lv_at hl 0 rfl) ?_
  refine g_get (j := 3) (v := .ref (G.1 156)) X Z (oX6 k160) (iB6 _) rfl (by decide) rfl (List.mem_cons_of_mem _ mB392) rfl dX6_save_19 ?_
  refine lv_iload_n hx hb dX6_save_22 rfl (lv_at hl 1 rfl) ?_
  refine lv_iconst (v := 1) hx hb dX6_save_23 (by decide) ?_
  obtain ⟨b8, hm⟩ := sIdx_some hm
  obtain ⟨g9, eg9, hm⟩ := sLet_some hm
  refine g_zast eg9 X Z (aZ k156) b8 rfl dX6_save_24 (fun H locs Z => ?_)
  refine lv_aload_n hx hb dX6_save_25 rfl (lv_at hl 0 rfl) ?_
  refine g_get (j := 0) (v := .ref (G.1 0)) X Z (oX6 k160) (iB6 _) rfl (by decide) rfl (List.mem_cons_of_mem _ mB385) rfl dX6_save_26 ?_
  refine g_get (j := 0) (v := .int (g9 0 0)) X Z (oX2 k0) (iB2 _) rfl (by decide) rfl (List.mem_cons_of_mem _ mB472) rfl dX6_save_29 ?_
  obtain rfl := Option.some.inj hm
  exact kI _ _ _ _ _ _ (Nat.le_of_ble_eq_true rfl) (Nat.le_of_ble_eq_true rfl) rfl dX6_save_32 Z (vp_nar_int _)
theorem cX6_save_c (l : Launch) (hst : l.stackTraces = false) {G : LY} {g : Mem} {n : Nat} {x1 : Int32} {r : Nat × Int32 × Mem} (hm : sX6_save n g x1 = some r) : cXI l yX6_save wmX6_save 7 111 1 6 .int wC G [.ref (G.1 160), .int x1] g r.1 r.2.1 r.2.2 :=
  mk_cXI sameC (by decide +kernel) rfl (Nat.le_of_ble_eq_true rfl) (fun p e s m args below meth c A Qc XC ls X hNX kI kT hl Z => bX6_save_0 X hNX hst kI kT g x1 _ _ ls Z hl hm)
abbrev wmX6_restore : List Cond := Cond.code yX6_restore cX6_restore 2 (some .int) :: wA0
set_option maxHeartbeats 4000000 in
set_option maxRecDepth 100000 in
theorem bX6_restore_0 (X : gC p s m args meth c cX6_restore 2 wmX6_restore yX6_restore.cls (some .int) G A) {n : Nat} {r : Nat × Int32 × Mem} (hNX : ∀ x ∈ c.exceptionTable.toList, False) (hst : l.stackTraces = false) (kI : ∀ (pc : Nat) (ls : Array Slot) (H : Heap) (locs : List Loc) (cells slots : Nat), cells ≤ 2 → slots ≤ 12 → r.1 = 0 → decode cX6_restore pc = .ok (.ireturn, 1) → WS wC G r.2.2 A s.heap H locs → narrow .int (.int r.2.1) = .int r.2.1 → W p l e { frames := 7, cells := 2, slots := 12, locals := 113 } s m args below meth c H locs cells slots (vx_MQ below Qc XC args s 2 12 A) (F0 m pc ls [.int r.2.1])) (kT : r.1 ≠ 0 → gTh XC s wC G A r.1 r.2.2) : ∀ (g : Mem) (x1 : Int32) (H : Heap) (locs : List Loc) (ls : Array Slot), WS wC G g A s.heap H locs → lv_has ls 2 [(0, .ref (G.1 160)), (1, .int x1)] → sX6_restore n g x1 = some r → W p l e { frames := 7, cells := 2, slots := 12, locals := 113 } s m args below meth c H locs 0 0 (vx_MQ below Qc XC args s 2 12 A) (F0 m 0 ls []) := by
  have hx := X.1
  have hb := X.2.1
  intro g x1 H locs ls Z hl hm
  unfold sX6_restore at hm
  refine lv_aload_n hx hb dX6_restore_0 rfl (lv_at hl 0 rfl) ?_
  refine lv_iload_n hx hb dX6_restore_1 rfl (lv_at hl 1 rfl) ?_
  rcases sReq_some hm with ⟨e1, hm⟩ | ⟨ec2, c3, e1, hm⟩
  rotate_left
  · obtain rfl := Option.some.inj hm
    exact g_xcallT (n := 1) (As := [.int x1]) (rest := []) sameC X hNX Z c3 (cX6_requireSlot_c l hst e1) (oX6 k160) rfl (gooV mB530 mB531 mB532 mB409 mB529) rfl (by decide +kernel) rfl ⟨Nat.le_of_ble_eq_true rfl, Nat.le_of_ble_eq_true rfl⟩ ⟨Nat.le_of_ble_eq_true rfl, Nat.le_of_ble_eq_true rfl⟩ ⟨Nat.le_of_ble_eq_true rfl, Nat.le_of_ble_eq_true rfl⟩ hl.1 rfl (Nat.le_of_ble_eq_true rfl) dX6_restore_2 (kT c3)
  refine g_xcall0 (n := 1) (As := [.int x1]) (rest := []) (c1 := 1) (s1 := 6) sameC X Z (cX6_requireSlot_c l hst e1) (oX6 k160) rfl (gooV mB530 mB531 mB532 mB409 mB529) rfl (by decide +kernel) rfl ⟨Nat.le_of_ble_eq_true rfl, Nat.le_of_ble_eq_true rfl⟩ rfl rfl ⟨Nat.le_of_ble_eq_true rfl, Nat.le_of_ble_eq_true rfl⟩ hl.1 rfl (Nat.le_of_ble_eq_true rfl) dX6_restore_2 (fun H locs Z => ?_)
  refine lv_aload_n hx hb dX6_restore_5 rfl (lv_at hl 0 rfl) ?_
  refine g_get (j := 3) (v := .ref (G.1 156)) X Z (oX6 k160) (iB6 _) rfl (by decide) rfl (List.mem_cons_of_mem _ mB392) rfl dX6_restore_6 ?_
  refine lv_iload_n hx hb dX6_restore_9 rfl (lv_at hl 1 rfl) ?_
  obtain ⟨b4, hm⟩ := sIdx_some hm
  refine g_zald X Z (aZ k156) b4 dX6_restore_10 ?_
  refine lv_if_ne (tgt := 24) hx hb dX6_restore_11 (by decide) (fun c5 => ?_) (fun c5 => ?_)
  · replace hm := (if_neg c5).symm.trans hm
    refine lv_aload_n hx hb dX6_restore_24 rfl (lv_at hl 0 rfl) ?_
    refine g_get (j := 1) (v := .ref (G.1 153)) X Z (oX6 k160) (iB6 _) rfl (by decide) rfl (List.mem_cons_of_mem _ mB389) rfl dX6_restore_25 ?_
    refine lv_aload_n hx hb dX6_restore_28 rfl (lv_at hl 0 rfl) ?_
    refine g_get (j := 0) (v := .ref (G.1 0)) X Z (oX6 k160) (iB6 _) rfl (by decide) rfl (List.mem_cons_of_mem _ mB385) rfl dX6_restore_29 ?_
    obtain ⟨g8, e6, hm⟩ := sBi_some hm
    refine g_callVV (n := 1) (As := [.ref (G.1 0)]) (rest := []) sameC X Z (cX0_push_c l k0 e6) (oX0 k153) rfl (gooV mB413 mB414 mB415 mB388 mB83) rfl (by decide +kernel) rfl ⟨Nat.le_of_ble_eq_true rfl, Nat.le_of_ble_eq_true rfl⟩ ⟨Nat.le_of_ble_eq_true rfl, Nat.le_of_ble_eq_true rfl⟩ hl.1 rfl (Nat.le_of_ble_eq_true rfl) dX6_restore_32 (fun H locs Z => ?_)
    refine lv_aload_n hx hb dX6_restore_35 rfl (lv_at hl 0 rfl) ?_
    refine g_get (j := 0) (v := .ref (G.1 0)) X Z (oX6 k160) (iB6 _) rfl (by decide) rfl (List.mem_cons_of_mem _ mB385) rfl dX6_restore_36 ?_
    refine lv_aload_n hx hb dX6_restore_39 rfl (lv_at hl 0 rfl) ?_
    refine g_get (j := 2) (v := .ref (G.1 155)) X Z (oX6 k160) (iB6 _) rfl (by decide) rfl (List.mem_cons_of_mem _ mB390) rfl dX6_restore_40 ?_
    refine lv_iload_n hx hb dX6_restore_43 rfl (lv_at hl 1 rfl) ?_
    obtain ⟨b9, hm⟩ := sIdx_some hm
    refine g_aald X Z rL rfl b9 dX6_restore_44 ?_
    obtain ⟨g12, e10, hm⟩ := sBi_some hm
    refine g_callVV (n := 1) (As := [.ref (G.1 (17 * (x1.toNatClampNeg + 7)))]) (rest := []) sameC X Z (cX2_copyFrom_c l k0 (k12l (vp_in_lt b9)) e10) (oX2 k0) rfl (gooV mB533 mB81 mB82 mB43 mB73) rfl (by decide +kernel) rfl ⟨Nat.le_of_ble_eq_true rfl, Nat.le_of_ble_eq_true rfl⟩ ⟨Nat.le_of_ble_eq_true rfl, Nat.le_of_ble_eq_true rfl⟩ hl.1 rfl (Nat.le_of_ble_eq_true rfl) dX6_restore_45 (fun H locs Z => ?_)
    refine lv_aload_n hx hb dX6_restore_48 rfl (lv_at hl 0 rfl) ?_
    refine g_get (j := 0) (v := .ref (G.1 0)) X Z (oX6 k160) (iB6 _) rfl (by decide) rfl (List.mem_cons_of_mem _ mB385) rfl dX6_restore_49 ?_
    refine g_get (j := 0) (v := .int (g12 0 0)) X Z (oX2 k0) (iB2 _) rfl (by decide) rfl (List.mem_cons_of_mem _ mB472) rfl dX6_restore_52 ?_
    obtain rfl := Option.some.inj hm
    exact kI _ _ _ _ _ _ (Nat.le_of_ble_eq_true rfl) (Nat.le_of_ble_eq_true rfl) rfl dX6_restore_55 Z (vp_nar_int _)
  · replace hm := (if_pos c5).symm.trans hm
    obtain rfl := Option.some.inj hm
    exact g_throw (ec := 3) (text := "the slot is empty") (names := ["java/lang/RuntimeException", "java/lang/Exception"]) X hNX hst Z hl.1 rfl thfS thn (List.mem_cons_of_mem _ mB404) (List.mem_cons_of_mem _ mB405) (by decide) (fun w h => List.mem_cons_of_mem _ (iAtS w h)) (by decide) thbS thgS_46 dX6_restore_14 dX6_restore_17 dX6_restore_18 dX6_restore_20 dX6_restore_23 ⟨Nat.le_of_ble_eq_true rfl, Nat.le_of_ble_eq_true rfl, Nat.le_of_ble_eq_true rfl, Nat.le_of_ble_eq_true rfl⟩ ⟨Nat.le_of_ble_eq_true rfl, Nat.le_of_ble_eq_true rfl⟩ (kT th3)
theorem cX6_restore_c (l : Launch) (hst : l.stackTraces = false) {G : LY} {g : Mem} {n : Nat} {x1 : Int32} {r : Nat × Int32 × Mem} (hm : sX6_restore n g x1 = some r) : cXI l yX6_restore wmX6_restore 7 113 2 12 .int wC G [.ref (G.1 160), .int x1] g r.1 r.2.1 r.2.2 :=
  mk_cXI sameC (by decide +kernel) rfl (Nat.le_of_ble_eq_true rfl) (fun p e s m args below meth c A Qc XC ls X hNX kI kT hl Z => bX6_restore_0 X hNX hst kI kT g x1 _ _ ls Z hl hm)
abbrev wmX6_trueTime : List Cond := Cond.code yX6_trueTime cX6_trueTime 1 (some .int) :: wA0
set_option maxHeartbeats 4000000 in
set_option maxRecDepth 100000 in
theorem bX6_trueTime_0 (X : gC p s m args meth c cX6_trueTime 1 wmX6_trueTime yX6_trueTime.cls (some .int) G A) {g : Mem} {r : Int32} (kI : ∀ (pc : Nat) (ls : Array Slot) (H : Heap) (locs : List Loc), decode cX6_trueTime pc = .ok (.ireturn, 1) → WS wC G g A s.heap H locs → narrow .int (.int r) = .int r → W p l e { frames := 0, cells := 0, slots := 0, locals := 0 } s m args below meth c H locs 0 0 Q (F0 m pc ls [.int r])) : ∀ (H : Heap) (locs : List Loc) (ls : Array Slot), WS wC G g A s.heap H locs → lv_has ls 1 [(0, .ref (G.1 160))] → sX6_trueTime g = some r → W p l e { frames := 0, cells := 0, slots := 0, locals := 0 } s m args below meth c H locs 0 0 Q (F0 m 0 ls []) := by
  have hx := X.1
  have hb := X.2.1
  intro H locs ls Z hl hm
  unfold sX6_trueTime at hm
  refine lv_aload_n hx hb dX6_trueTime_0 rfl (lv_at hl 0 rfl) ?_
  refine g_get (j := 0) (v := .ref (G.1 0)) X Z (oX6 k160) (iB6 _) rfl (by decide) rfl (List.mem_cons_of_mem _ mB385) rfl dX6_trueTime_1 ?_
  refine g_get (j := 0) (v := .int (g 0 0)) X Z (oX2 k0) (iB2 _) rfl (by decide) rfl (List.mem_cons_of_mem _ mB472) rfl dX6_trueTime_4 ?_
  obtain rfl := Option.some.inj hm
  exact kI _ _ _ _ dX6_trueTime_7 Z (vp_nar_int _)
theorem cX6_trueTime_c (l : Launch) {G : LY} {g : Mem} {r : Int32} (hm : sX6_trueTime g = some r) : cI l yX6_trueTime wmX6_trueTime 0 0 .int wC G [.ref (G.1 160)] g r g :=
  mk_cI sameC (by decide +kernel) rfl (Nat.le_of_ble_eq_true rfl) (fun p e s m args below meth c A Q ls X kI hl Z => bX6_trueTime_0 X kI  _ _ ls Z hl hm)
abbrev wmX6_reading : List Cond := Cond.code yX6_reading cX6_reading 2 (some .int) :: wA0
set_option maxHeartbeats 4000000 in
set_option maxRecDepth 100000 in
theorem bX6_reading_0 (X : gC p s m args meth c cX6_reading 2 wmX6_reading yX6_reading.cls (some .int) G A) {g : Mem} {r : Nat × Int32} (hNX : ∀ x ∈ c.exceptionTable.toList, False) (hst : l.stackTraces = false) (kI : ∀ (pc : Nat) (ls : Array Slot) (H : Heap) (locs : List Loc) (cells slots : Nat), cells ≤ 1 → slots ≤ 6 → r.1 = 0 → decode cX6_reading pc = .ok (.ireturn, 1) → WS wC G g A s.heap H locs → narrow .int (.int r.2) = .int r.2 → W p l e { frames := 7, cells := 1, slots := 6, locals := 111 } s m args below meth c H locs cells slots (vx_MQ below Qc XC args s 1 6 A) (F0 m pc ls [.int r.2])) (kT : r.1 ≠ 0 → gTh XC s wC G A r.1 g) : ∀ (x1 : Int32) (H : Heap) (locs : List Loc) (ls : Array Slot), WS wC G g A s.heap H locs → lv_has ls 2 [(0, .ref (G.1 160)), (1, .int x1)] → sX6_reading g x1 = some r → W p l e { frames := 7, cells := 1, slots := 6, locals := 111 } s m args below meth c H locs 0 0 (vx_MQ below Qc XC args s 1 6 A) (F0 m 0 ls []) := by
  have hx := X.1
  have hb := X.2.1
  intro x1 H locs ls Z hl hm
  unfold sX6_reading at hm
  refine lv_aload_n hx hb dX6_reading_0 rfl (lv_at hl 0 rfl) ?_
  refine lv_iload_n hx hb dX6_reading_1 rfl (lv_at hl 1 rfl) ?_
  rcases sReq_some hm with ⟨e1, hm⟩ | ⟨ec2, c3, e1, hm⟩
  rotate_left
  · obtain rfl := Option.some.inj hm
    exact g_xcallT (n := 1) (As := [.int x1]) (rest := []) sameC X hNX Z c3 (cX6_requireServer_c l hst e1) (oX6 k160) rfl (gooV mB406 mB407 mB408 mB409 mB401) rfl (by decide +kernel) rfl ⟨Nat.le_of_ble_eq_true rfl, Nat.le_of_ble_eq_true rfl⟩ ⟨Nat.le_of_ble_eq_true rfl, Nat.le_of_ble_eq_true rfl⟩ ⟨Nat.le_of_ble_eq_true rfl, Nat.le_of_ble_eq_true rfl⟩ hl.1 rfl (Nat.le_of_ble_eq_true rfl) dX6_reading_2 (kT c3)
  refine g_xcall0 (n := 1) (As := [.int x1]) (rest := []) (c1 := 1) (s1 := 6) sameC X Z (cX6_requireServer_c l hst e1) (oX6 k160) rfl (gooV mB406 mB407 mB408 mB409 mB401) rfl (by decide +kernel) rfl ⟨Nat.le_of_ble_eq_true rfl, Nat.le_of_ble_eq_true rfl⟩ rfl rfl ⟨Nat.le_of_ble_eq_true rfl, Nat.le_of_ble_eq_true rfl⟩ hl.1 rfl (Nat.le_of_ble_eq_true rfl) dX6_reading_2 (fun H locs Z => ?_)
  refine lv_aload_n hx hb dX6_reading_5 rfl (lv_at hl 0 rfl) ?_
  refine g_get (j := 0) (v := .ref (G.1 0)) X Z (oX6 k160) (iB6 _) rfl (by decide) rfl (List.mem_cons_of_mem _ mB385) rfl dX6_reading_6 ?_
  refine g_get (j := 0) (v := .int (g 0 0)) X Z (oX2 k0) (iB2 _) rfl (by decide) rfl (List.mem_cons_of_mem _ mB472) rfl dX6_reading_9 ?_
  refine lv_aload_n hx hb dX6_reading_12 rfl (lv_at hl 0 rfl) ?_
  refine g_get (j := 0) (v := .ref (G.1 0)) X Z (oX6 k160) (iB6 _) rfl (by decide) rfl (List.mem_cons_of_mem _ mB385) rfl dX6_reading_13 ?_
  refine g_get (j := 3) (v := .ref (G.1 (0 + 1))) X Z (oX2 k0) (iB2 _) rfl (by decide) rfl (List.mem_cons_of_mem _ mB471) rfl dX6_reading_16 ?_
  refine lv_iload_n hx hb dX6_reading_19 rfl (lv_at hl 1 rfl) ?_
  obtain ⟨b4, hm⟩ := sIdx_some hm
  refine g_aald X Z (rS (k23 k0)) rfl b4 dX6_reading_20 ?_
  refine lv_aload_n hx hb dX6_reading_21 rfl (lv_at hl 0 rfl) ?_
  refine g_get (j := 0) (v := .ref (G.1 0)) X Z (oX6 k160) (iB6 _) rfl (by decide) rfl (List.mem_cons_of_mem _ mB385) rfl dX6_reading_22 ?_
  refine g_get (j := 0) (v := .int (g 0 0)) X Z (oX2 k0) (iB2 _) rfl (by decide) rfl (List.mem_cons_of_mem _ mB472) rfl dX6_reading_25 ?_
  obtain ⟨r7, e5, hm⟩ := sBi_some hm
  refine g_callVI (n := 1) (As := [.int (g 0 0)]) (rest := [.int (g 0 0)]) sameC X Z (cX1_offsetAt_c l (k11 (k23 k0) (vp_in_lt b4)) e5) (oX1 (k11 (k23 k0) (vp_in_lt b4))) rfl (gooV mB538 mB93 mB94 mB33 mB87) rfl (by decide +kernel) rfl ⟨Nat.le_of_ble_eq_true rfl, Nat.le_of_ble_eq_true rfl⟩ ⟨Nat.le_of_ble_eq_true rfl, Nat.le_of_ble_eq_true rfl⟩ hl.1 rfl (Nat.le_of_ble_eq_true rfl) dX6_reading_28 (fun w6 H locs Z => ?_)
  refine lv_iadd hx hb dX6_reading_31 ?_
  obtain rfl := Option.some.inj hm
  exact kI _ _ _ _ _ _ (Nat.le_of_ble_eq_true rfl) (Nat.le_of_ble_eq_true rfl) rfl dX6_reading_32 Z (vp_nar_int _)
theorem cX6_reading_c (l : Launch) (hst : l.stackTraces = false) {G : LY} {g : Mem} {x1 : Int32} {r : Nat × Int32} (hm : sX6_reading g x1 = some r) : cXI l yX6_reading wmX6_reading 7 111 1 6 .int wC G [.ref (G.1 160), .int x1] g r.1 r.2 g :=
  mk_cXI sameC (by decide +kernel) rfl (Nat.le_of_ble_eq_true rfl) (fun p e s m args below meth c A Qc XC ls X hNX kI kT hl Z => bX6_reading_0 X hNX hst kI kT x1 _ _ ls Z hl hm)
abbrev wmX6_earliest : List Cond := Cond.code yX6_earliest cX6_earliest 2 (some .int) :: wA0
set_option maxHeartbeats 4000000 in
set_option maxRecDepth 100000 in
theorem bX6_earliest_0 (X : gC p s m args meth c cX6_earliest 2 wmX6_earliest yX6_earliest.cls (some .int) G A) {g : Mem} {r : Nat × Int32} (hNX : ∀ x ∈ c.exceptionTable.toList, False) (hst : l.stackTraces = false) (kI : ∀ (pc : Nat) (ls : Array Slot) (H : Heap) (locs : List Loc) (cells slots : Nat), cells ≤ 1 → slots ≤ 6 → r.1 = 0 → decode cX6_earliest pc = .ok (.ireturn, 1) → WS wC G g A s.heap H locs → narrow .int (.int r.2) = .int r.2 → W p l e { frames := 7, cells := 1, slots := 6, locals := 111 } s m args below meth c H locs cells slots (vx_MQ below Qc XC args s 1 6 A) (F0 m pc ls [.int r.2])) (kT : r.1 ≠ 0 → gTh XC s wC G A r.1 g) : ∀ (x1 : Int32) (H : Heap) (locs : List Loc) (ls : Array Slot), WS wC G g A s.heap H locs → lv_has ls 2 [(0, .ref (G.1 160)), (1, .int x1)] → sX6_earliest g x1 = some r → W p l e { frames := 7, cells := 1, slots := 6, locals := 111 } s m args below meth c H locs 0 0 (vx_MQ below Qc XC args s 1 6 A) (F0 m 0 ls []) := by
  have hx := X.1
  have hb := X.2.1
  intro x1 H locs ls Z hl hm
  unfold sX6_earliest at hm
  refine lv_aload_n hx hb dX6_earliest_0 rfl (lv_at hl 0 rfl) ?_
  refine lv_iload_n hx hb dX6_earliest_1 rfl (lv_at hl 1 rfl) ?_
  rcases sReq_some hm with ⟨e1, hm⟩ | ⟨ec2, c3, e1, hm⟩
  rotate_left
  · obtain rfl := Option.some.inj hm
    exact g_xcallT (n := 1) (As := [.int x1]) (rest := []) sameC X hNX Z c3 (cX6_requireServer_c l hst e1) (oX6 k160) rfl (gooV mB406 mB407 mB408 mB409 mB401) rfl (by decide +kernel) rfl ⟨Nat.le_of_ble_eq_true rfl, Nat.le_of_ble_eq_true rfl⟩ ⟨Nat.le_of_ble_eq_true rfl, Nat.le_of_ble_eq_true rfl⟩ ⟨Nat.le_of_ble_eq_true rfl, Nat.le_of_ble_eq_true rfl⟩ hl.1 rfl (Nat.le_of_ble_eq_true rfl) dX6_earliest_2 (kT c3)
  refine g_xcall0 (n := 1) (As := [.int x1]) (rest := []) (c1 := 1) (s1 := 6) sameC X Z (cX6_requireServer_c l hst e1) (oX6 k160) rfl (gooV mB406 mB407 mB408 mB409 mB401) rfl (by decide +kernel) rfl ⟨Nat.le_of_ble_eq_true rfl, Nat.le_of_ble_eq_true rfl⟩ rfl rfl ⟨Nat.le_of_ble_eq_true rfl, Nat.le_of_ble_eq_true rfl⟩ hl.1 rfl (Nat.le_of_ble_eq_true rfl) dX6_earliest_2 (fun H locs Z => ?_)
  refine lv_aload_n hx hb dX6_earliest_5 rfl (lv_at hl 0 rfl) ?_
  refine g_get (j := 0) (v := .ref (G.1 0)) X Z (oX6 k160) (iB6 _) rfl (by decide) rfl (List.mem_cons_of_mem _ mB385) rfl dX6_earliest_6 ?_
  refine g_get (j := 3) (v := .ref (G.1 (0 + 1))) X Z (oX2 k0) (iB2 _) rfl (by decide) rfl (List.mem_cons_of_mem _ mB471) rfl dX6_earliest_9 ?_
  refine lv_iload_n hx hb dX6_earliest_12 rfl (lv_at hl 1 rfl) ?_
  obtain ⟨b4, hm⟩ := sIdx_some hm
  refine g_aald X Z (rS (k23 k0)) rfl b4 dX6_earliest_13 ?_
  refine lv_aload_n hx hb dX6_earliest_14 rfl (lv_at hl 0 rfl) ?_
  refine g_get (j := 0) (v := .ref (G.1 0)) X Z (oX6 k160) (iB6 _) rfl (by decide) rfl (List.mem_cons_of_mem _ mB385) rfl dX6_earliest_15 ?_
  refine g_get (j := 0) (v := .int (g 0 0)) X Z (oX2 k0) (iB2 _) rfl (by decide) rfl (List.mem_cons_of_mem _ mB472) rfl dX6_earliest_18 ?_
  obtain ⟨r7, e5, hm⟩ := sBi_some hm
  refine g_callVI (n := 1) (As := [.int (g 0 0)]) (rest := []) sameC X Z (cX1_earliestAt_c l (k11 (k23 k0) (vp_in_lt b4)) e5) (oX1 (k11 (k23 k0) (vp_in_lt b4))) rfl (gooV mB539 mB218 mB219 mB33 mB97) rfl (by decide +kernel) rfl ⟨Nat.le_of_ble_eq_true rfl, Nat.le_of_ble_eq_true rfl⟩ ⟨Nat.le_of_ble_eq_true rfl, Nat.le_of_ble_eq_true rfl⟩ hl.1 rfl (Nat.le_of_ble_eq_true rfl) dX6_earliest_21 (fun w6 H locs Z => ?_)
  obtain rfl := Option.some.inj hm
  exact kI _ _ _ _ _ _ (Nat.le_of_ble_eq_true rfl) (Nat.le_of_ble_eq_true rfl) rfl dX6_earliest_24 Z (vp_nar_int _)
theorem cX6_earliest_c (l : Launch) (hst : l.stackTraces = false) {G : LY} {g : Mem} {x1 : Int32} {r : Nat × Int32} (hm : sX6_earliest g x1 = some r) : cXI l yX6_earliest wmX6_earliest 7 111 1 6 .int wC G [.ref (G.1 160), .int x1] g r.1 r.2 g :=
  mk_cXI sameC (by decide +kernel) rfl (Nat.le_of_ble_eq_true rfl) (fun p e s m args below meth c A Qc XC ls X hNX kI kT hl Z => bX6_earliest_0 X hNX hst kI kT x1 _ _ ls Z hl hm)
abbrev wmX6_latest : List Cond := Cond.code yX6_latest cX6_latest 2 (some .int) :: wA0
set_option maxHeartbeats 4000000 in
set_option maxRecDepth 100000 in
theorem bX6_latest_0 (X : gC p s m args meth c cX6_latest 2 wmX6_latest yX6_latest.cls (some .int) G A) {g : Mem} {r : Nat × Int32} (hNX : ∀ x ∈ c.exceptionTable.toList, False) (hst : l.stackTraces = false) (kI : ∀ (pc : Nat) (ls : Array Slot) (H : Heap) (locs : List Loc) (cells slots : Nat), cells ≤ 1 → slots ≤ 6 → r.1 = 0 → decode cX6_latest pc = .ok (.ireturn, 1) → WS wC G g A s.heap H locs → narrow .int (.int r.2) = .int r.2 → W p l e { frames := 7, cells := 1, slots := 6, locals := 111 } s m args below meth c H locs cells slots (vx_MQ below Qc XC args s 1 6 A) (F0 m pc ls [.int r.2])) (kT : r.1 ≠ 0 → gTh XC s wC G A r.1 g) : ∀ (x1 : Int32) (H : Heap) (locs : List Loc) (ls : Array Slot), WS wC G g A s.heap H locs → lv_has ls 2 [(0, .ref (G.1 160)), (1, .int x1)] → sX6_latest g x1 = some r → W p l e { frames := 7, cells := 1, slots := 6, locals := 111 } s m args below meth c H locs 0 0 (vx_MQ below Qc XC args s 1 6 A) (F0 m 0 ls []) := by
  have hx := X.1
  have hb := X.2.1
  intro x1 H locs ls Z hl hm
  unfold sX6_latest at hm
  refine lv_aload_n hx hb dX6_latest_0 rfl (lv_at hl 0 rfl) ?_
  refine lv_iload_n hx hb dX6_latest_1 rfl (lv_at hl 1 rfl) ?_
  rcases sReq_some hm with ⟨e1, hm⟩ | ⟨ec2, c3, e1, hm⟩
  rotate_left
  · obtain rfl := Option.some.inj hm
    exact g_xcallT (n := 1) (As := [.int x1]) (rest := []) sameC X hNX Z c3 (cX6_requireServer_c l hst e1) (oX6 k160) rfl (gooV mB406 mB407 mB408 mB409 mB401) rfl (by decide +kernel) rfl ⟨Nat.le_of_ble_eq_true rfl, Nat.le_of_ble_eq_true rfl⟩ ⟨Nat.le_of_ble_eq_true rfl, Nat.le_of_ble_eq_true rfl⟩ ⟨Nat.le_of_ble_eq_true rfl, Nat.le_of_ble_eq_true rfl⟩ hl.1 rfl (Nat.le_of_ble_eq_true rfl) dX6_latest_2 (kT c3)
  refine g_xcall0 (n := 1) (As := [.int x1]) (rest := []) (c1 := 1) (s1 := 6) sameC X Z (cX6_requireServer_c l hst e1) (oX6 k160) rfl (gooV mB406 mB407 mB408 mB409 mB401) rfl (by decide +kernel) rfl ⟨Nat.le_of_ble_eq_true rfl, Nat.le_of_ble_eq_true rfl⟩ rfl rfl ⟨Nat.le_of_ble_eq_true rfl, Nat.le_of_ble_eq_true rfl⟩ hl.1 rfl (Nat.le_of_ble_eq_true rfl) dX6_latest_2 (fun H locs Z => ?_)
  refine lv_aload_n hx hb dX6_latest_5 rfl (lv_at hl 0 rfl) ?_
  refine g_get (j := 0) (v := .ref (G.1 0)) X Z (oX6 k160) (iB6 _) rfl (by decide) rfl (List.mem_cons_of_mem _ mB385) rfl dX6_latest_6 ?_
  refine g_get (j := 3) (v := .ref (G.1 (0 + 1))) X Z (oX2 k0) (iB2 _) rfl (by decide) rfl (List.mem_cons_of_mem _ mB471) rfl dX6_latest_9 ?_
  refine lv_iload_n hx hb dX6_latest_12 rfl (lv_at hl 1 rfl) ?_
  obtain ⟨b4, hm⟩ := sIdx_some hm
  refine g_aald X Z (rS (k23 k0)) rfl b4 dX6_latest_13 ?_
  refine lv_aload_n hx hb dX6_latest_14 rfl (lv_at hl 0 rfl) ?_
  refine g_get (j := 0) (v := .ref (G.1 0)) X Z (oX6 k160) (iB6 _) rfl (by decide) rfl (List.mem_cons_of_mem _ mB385) rfl dX6_latest_15 ?_
  refine g_get (j := 0) (v := .int (g 0 0)) X Z (oX2 k0) (iB2 _) rfl (by decide) rfl (List.mem_cons_of_mem _ mB472) rfl dX6_latest_18 ?_
  obtain ⟨r7, e5, hm⟩ := sBi_some hm
  refine g_callVI (n := 1) (As := [.int (g 0 0)]) (rest := []) sameC X Z (cX1_latestAt_c l (k11 (k23 k0) (vp_in_lt b4)) e5) (oX1 (k11 (k23 k0) (vp_in_lt b4))) rfl (gooV mB541 mB106 mB107 mB33 mB101) rfl (by decide +kernel) rfl ⟨Nat.le_of_ble_eq_true rfl, Nat.le_of_ble_eq_true rfl⟩ ⟨Nat.le_of_ble_eq_true rfl, Nat.le_of_ble_eq_true rfl⟩ hl.1 rfl (Nat.le_of_ble_eq_true rfl) dX6_latest_21 (fun w6 H locs Z => ?_)
  obtain rfl := Option.some.inj hm
  exact kI _ _ _ _ _ _ (Nat.le_of_ble_eq_true rfl) (Nat.le_of_ble_eq_true rfl) rfl dX6_latest_24 Z (vp_nar_int _)
theorem cX6_latest_c (l : Launch) (hst : l.stackTraces = false) {G : LY} {g : Mem} {x1 : Int32} {r : Nat × Int32} (hm : sX6_latest g x1 = some r) : cXI l yX6_latest wmX6_latest 7 111 1 6 .int wC G [.ref (G.1 160), .int x1] g r.1 r.2 g :=
  mk_cXI sameC (by decide +kernel) rfl (Nat.le_of_ble_eq_true rfl) (fun p e s m args below meth c A Qc XC ls X hNX kI kT hl Z => bX6_latest_0 X hNX hst kI kT x1 _ _ ls Z hl hm)
abbrev wmX6_isSound : List Cond := Cond.code yX6_isSound cX6_isSound 2 (some .boolean) :: wA0
set_option maxHeartbeats 4000000 in
set_option maxRecDepth 100000 in
theorem bX6_isSound_0 (X : gC p s m args meth c cX6_isSound 2 wmX6_isSound yX6_isSound.cls (some .boolean) G A) {g : Mem} {r : Nat × Int32} (hNX : ∀ x ∈ c.exceptionTable.toList, False) (hst : l.stackTraces = false) (kI : ∀ (pc : Nat) (ls : Array Slot) (H : Heap) (locs : List Loc) (cells slots : Nat), cells ≤ 1 → slots ≤ 6 → r.1 = 0 → decode cX6_isSound pc = .ok (.ireturn, 1) → WS wC G g A s.heap H locs → narrow .boolean (.int r.2) = .int r.2 → W p l e { frames := 7, cells := 1, slots := 6, locals := 111 } s m args below meth c H locs cells slots (vx_MQ below Qc XC args s 1 6 A) (F0 m pc ls [.int r.2])) (kT : r.1 ≠ 0 → gTh XC s wC G A r.1 g) : ∀ (x1 : Int32) (H : Heap) (locs : List Loc) (ls : Array Slot), WS wC G g A s.heap H locs → lv_has ls 2 [(0, .ref (G.1 160)), (1, .int x1)] → sX6_isSound g x1 = some r → W p l e { frames := 7, cells := 1, slots := 6, locals := 111 } s m args below meth c H locs 0 0 (vx_MQ below Qc XC args s 1 6 A) (F0 m 0 ls []) := by
  have hx := X.1
  have hb := X.2.1
  intro x1 H locs ls Z hl hm
  unfold sX6_isSound at hm
  refine lv_aload_n hx hb dX6_isSound_0 rfl (lv_at hl 0 rfl) ?_
  refine lv_iload_n hx hb dX6_isSound_1 rfl (lv_at hl 1 rfl) ?_
  rcases sReq_some hm with ⟨e1, hm⟩ | ⟨ec2, c3, e1, hm⟩
  rotate_left
  · obtain rfl := Option.some.inj hm
    exact g_xcallT (n := 1) (As := [.int x1]) (rest := []) sameC X hNX Z c3 (cX6_requireServer_c l hst e1) (oX6 k160) rfl (gooV mB406 mB407 mB408 mB409 mB401) rfl (by decide +kernel) rfl ⟨Nat.le_of_ble_eq_true rfl, Nat.le_of_ble_eq_true rfl⟩ ⟨Nat.le_of_ble_eq_true rfl, Nat.le_of_ble_eq_true rfl⟩ ⟨Nat.le_of_ble_eq_true rfl, Nat.le_of_ble_eq_true rfl⟩ hl.1 rfl (Nat.le_of_ble_eq_true rfl) dX6_isSound_2 (kT c3)
  refine g_xcall0 (n := 1) (As := [.int x1]) (rest := []) (c1 := 1) (s1 := 6) sameC X Z (cX6_requireServer_c l hst e1) (oX6 k160) rfl (gooV mB406 mB407 mB408 mB409 mB401) rfl (by decide +kernel) rfl ⟨Nat.le_of_ble_eq_true rfl, Nat.le_of_ble_eq_true rfl⟩ rfl rfl ⟨Nat.le_of_ble_eq_true rfl, Nat.le_of_ble_eq_true rfl⟩ hl.1 rfl (Nat.le_of_ble_eq_true rfl) dX6_isSound_2 (fun H locs Z => ?_)
  refine lv_aload_n hx hb dX6_isSound_5 rfl (lv_at hl 0 rfl) ?_
  refine g_get (j := 0) (v := .ref (G.1 0)) X Z (oX6 k160) (iB6 _) rfl (by decide) rfl (List.mem_cons_of_mem _ mB385) rfl dX6_isSound_6 ?_
  refine g_get (j := 3) (v := .ref (G.1 (0 + 1))) X Z (oX2 k0) (iB2 _) rfl (by decide) rfl (List.mem_cons_of_mem _ mB471) rfl dX6_isSound_9 ?_
  refine lv_iload_n hx hb dX6_isSound_12 rfl (lv_at hl 1 rfl) ?_
  obtain ⟨b4, hm⟩ := sIdx_some hm
  refine g_aald X Z (rS (k23 k0)) rfl b4 dX6_isSound_13 ?_
  refine lv_aload_n hx hb dX6_isSound_14 rfl (lv_at hl 0 rfl) ?_
  refine g_get (j := 0) (v := .ref (G.1 0)) X Z (oX6 k160) (iB6 _) rfl (by decide) rfl (List.mem_cons_of_mem _ mB385) rfl dX6_isSound_15 ?_
  refine g_get (j := 0) (v := .int (g 0 0)) X Z (oX2 k0) (iB2 _) rfl (by decide) rfl (List.mem_cons_of_mem _ mB472) rfl dX6_isSound_18 ?_
  obtain ⟨r7, e5, hm⟩ := sBi_some hm
  refine g_callVI (n := 1) (As := [.int (g 0 0)]) (rest := []) sameC X Z (cX1_isSoundAt_c l (k11 (k23 k0) (vp_in_lt b4)) e5) (oX1 (k11 (k23 k0) (vp_in_lt b4))) rfl (gooV mB543 mB199 mB200 mB33 mB102) rfl (by decide +kernel) rfl ⟨Nat.le_of_ble_eq_true rfl, Nat.le_of_ble_eq_true rfl⟩ ⟨Nat.le_of_ble_eq_true rfl, Nat.le_of_ble_eq_true rfl⟩ hl.1 rfl (Nat.le_of_ble_eq_true rfl) dX6_isSound_21 (fun w6 H locs Z => ?_)
  obtain rfl := Option.some.inj hm
  exact kI _ _ _ _ _ _ (Nat.le_of_ble_eq_true rfl) (Nat.le_of_ble_eq_true rfl) rfl dX6_isSound_24 Z w6
theorem cX6_isSound_c (l : Launch) (hst : l.stackTraces = false) {G : LY} {g : Mem} {x1 : Int32} {r : Nat × Int32} (hm : sX6_isSound g x1 = some r) : cXI l yX6_isSound wmX6_isSound 7 111 1 6 .boolean wC G [.ref (G.1 160), .int x1] g r.1 r.2 g :=
  mk_cXI sameC (by decide +kernel) rfl (Nat.le_of_ble_eq_true rfl) (fun p e s m args below meth c A Qc XC ls X hNX kI kT hl Z => bX6_isSound_0 X hNX hst kI kT x1 _ _ ls Z hl hm)
abbrev wmX6_nextTimestamp : List Cond := Cond.code yX6_nextTimestamp cX6_nextTimestamp 2 (some .int) :: wA0
set_option maxHeartbeats 4000000 in
set_option maxRecDepth 100000 in
theorem bX6_nextTimestamp_0 (X : gC p s m args meth c cX6_nextTimestamp 2 wmX6_nextTimestamp yX6_nextTimestamp.cls (some .int) G A) {g : Mem} {r : Nat × Int32} (hNX : ∀ x ∈ c.exceptionTable.toList, False) (hst : l.stackTraces = false) (kI : ∀ (pc : Nat) (ls : Array Slot) (H : Heap) (locs : List Loc) (cells slots : Nat), cells ≤ 1 → slots ≤ 6 → r.1 = 0 → decode cX6_nextTimestamp pc = .ok (.ireturn, 1) → WS wC G g A s.heap H locs → narrow .int (.int r.2) = .int r.2 → W p l e { frames := 7, cells := 1, slots := 6, locals := 111 } s m args below meth c H locs cells slots (vx_MQ below Qc XC args s 1 6 A) (F0 m pc ls [.int r.2])) (kT : r.1 ≠ 0 → gTh XC s wC G A r.1 g) : ∀ (x1 : Int32) (H : Heap) (locs : List Loc) (ls : Array Slot), WS wC G g A s.heap H locs → lv_has ls 2 [(0, .ref (G.1 160)), (1, .int x1)] → sX6_nextTimestamp g x1 = some r → W p l e { frames := 7, cells := 1, slots := 6, locals := 111 } s m args below meth c H locs 0 0 (vx_MQ below Qc XC args s 1 6 A) (F0 m 0 ls []) := by
  have hx := X.1
  have hb := X.2.1
  intro x1 H locs ls Z hl hm
  unfold sX6_nextTimestamp at hm
  refine lv_aload_n hx hb dX6_nextTimestamp_0 rfl (lv_at hl 0 rfl) ?_
  refine lv_iload_n hx hb dX6_nextTimestamp_1 rfl (lv_at hl 1 rfl) ?_
  rcases sReq_some hm with ⟨e1, hm⟩ | ⟨ec2, c3, e1, hm⟩
  rotate_left
  · obtain rfl := Option.some.inj hm
    exact g_xcallT (n := 1) (As := [.int x1]) (rest := []) sameC X hNX Z c3 (cX6_requireServer_c l hst e1) (oX6 k160) rfl (gooV mB406 mB407 mB408 mB409 mB401) rfl (by decide +kernel) rfl ⟨Nat.le_of_ble_eq_true rfl, Nat.le_of_ble_eq_true rfl⟩ ⟨Nat.le_of_ble_eq_true rfl, Nat.le_of_ble_eq_true rfl⟩ ⟨Nat.le_of_ble_eq_true rfl, Nat.le_of_ble_eq_true rfl⟩ hl.1 rfl (Nat.le_of_ble_eq_true rfl) dX6_nextTimestamp_2 (kT c3)
  refine g_xcall0 (n := 1) (As := [.int x1]) (rest := []) (c1 := 1) (s1 := 6) sameC X Z (cX6_requireServer_c l hst e1) (oX6 k160) rfl (gooV mB406 mB407 mB408 mB409 mB401) rfl (by decide +kernel) rfl ⟨Nat.le_of_ble_eq_true rfl, Nat.le_of_ble_eq_true rfl⟩ rfl rfl ⟨Nat.le_of_ble_eq_true rfl, Nat.le_of_ble_eq_true rfl⟩ hl.1 rfl (Nat.le_of_ble_eq_true rfl) dX6_nextTimestamp_2 (fun H locs Z => ?_)
  refine lv_aload_n hx hb dX6_nextTimestamp_5 rfl (lv_at hl 0 rfl) ?_
  refine g_get (j := 0) (v := .ref (G.1 0)) X Z (oX6 k160) (iB6 _) rfl (by decide) rfl (List.mem_cons_of_mem _ mB385) rfl dX6_nextTimestamp_6 ?_
  refine lv_iload_n hx hb dX6_nextTimestamp_9 rfl (lv_at hl 1 rfl) ?_
  obtain ⟨r6, e4, hm⟩ := sBi_some hm
  refine g_callVI (n := 1) (As := [.int x1]) (rest := []) sameC X Z (cX2_nextTimestampOf_c l k0 e4) (oX2 k0) rfl (gooV mB545 mB184 mB185 mB43 mB172) rfl (by decide +kernel) rfl ⟨Nat.le_of_ble_eq_true rfl, Nat.le_of_ble_eq_true rfl⟩ ⟨Nat.le_of_ble_eq_true rfl, Nat.le_of_ble_eq_true rfl⟩ hl.1 rfl (Nat.le_of_ble_eq_true rfl) dX6_nextTimestamp_10 (fun w5 H locs Z => ?_)
  obtain rfl := Option.some.inj hm
  exact kI _ _ _ _ _ _ (Nat.le_of_ble_eq_true rfl) (Nat.le_of_ble_eq_true rfl) rfl dX6_nextTimestamp_13 Z (vp_nar_int _)
theorem cX6_nextTimestamp_c (l : Launch) (hst : l.stackTraces = false) {G : LY} {g : Mem} {x1 : Int32} {r : Nat × Int32} (hm : sX6_nextTimestamp g x1 = some r) : cXI l yX6_nextTimestamp wmX6_nextTimestamp 7 111 1 6 .int wC G [.ref (G.1 160), .int x1] g r.1 r.2 g :=
  mk_cXI sameC (by decide +kernel) rfl (Nat.le_of_ble_eq_true rfl) (fun p e s m args below meth c A Qc XC ls X hNX kI kT hl Z => bX6_nextTimestamp_0 X hNX hst kI kT x1 _ _ ls Z hl hm)
abbrev wmX6_transactions : List Cond := Cond.code yX6_transactions cX6_transactions 1 (some .int) :: wA0
set_option maxHeartbeats 4000000 in
set_option maxRecDepth 100000 in
theorem bX6_transactions_0 (X : gC p s m args meth c cX6_transactions 1 wmX6_transactions yX6_transactions.cls (some .int) G A) {g : Mem} {r : Int32} (kI : ∀ (pc : Nat) (ls : Array Slot) (H : Heap) (locs : List Loc), decode cX6_transactions pc = .ok (.ireturn, 1) → WS wC G g A s.heap H locs → narrow .int (.int r) = .int r → W p l e { frames := 0, cells := 0, slots := 0, locals := 0 } s m args below meth c H locs 0 0 Q (F0 m pc ls [.int r])) : ∀ (H : Heap) (locs : List Loc) (ls : Array Slot), WS wC G g A s.heap H locs → lv_has ls 1 [(0, .ref (G.1 160))] → sX6_transactions g = some r → W p l e { frames := 0, cells := 0, slots := 0, locals := 0 } s m args below meth c H locs 0 0 Q (F0 m 0 ls []) := by
  have hx := X.1
  have hb := X.2.1
  intro H locs ls Z hl hm
  unfold sX6_transactions at hm
  refine lv_aload_n hx hb dX6_transactions_0 rfl (lv_at hl 0 rfl) ?_
  refine g_get (j := 0) (v := .ref (G.1 0)) X Z (oX6 k160) (iB6 _) rfl (by decide) rfl (List.mem_cons_of_mem _ mB385) rfl dX6_transactions_1 ?_
  refine g_get (j := 5) (v := .ref (G.1 (0 + 9))) X Z (oX2 k0) (iB2 _) rfl (by decide) rfl (List.mem_cons_of_mem _ mB421) rfl dX6_transactions_4 ?_
  refine g_get (j := 0) (v := .int (g (0 + 9) 0)) X Z (oX4 (k25 k0)) (iB4 _) rfl (by decide) rfl (List.mem_cons_of_mem _ mB422) rfl dX6_transactions_7 ?_
  obtain rfl := Option.some.inj hm
  exact kI _ _ _ _ dX6_transactions_10 Z (vp_nar_int _)
theorem cX6_transactions_c (l : Launch) {G : LY} {g : Mem} {r : Int32} (hm : sX6_transactions g = some r) : cI l yX6_transactions wmX6_transactions 0 0 .int wC G [.ref (G.1 160)] g r g :=
  mk_cI sameC (by decide +kernel) rfl (Nat.le_of_ble_eq_true rfl) (fun p e s m args below meth c A Q ls X kI hl Z => bX6_transactions_0 X kI  _ _ ls Z hl hm)
abbrev wmX6_state : List Cond := Cond.code yX6_state cX6_state 2 (some .int) :: wA0
set_option maxHeartbeats 4000000 in
set_option maxRecDepth 100000 in
theorem bX6_state_0 (X : gC p s m args meth c cX6_state 2 wmX6_state yX6_state.cls (some .int) G A) {g : Mem} {r : Nat × Int32} (hNX : ∀ x ∈ c.exceptionTable.toList, False) (hst : l.stackTraces = false) (kI : ∀ (pc : Nat) (ls : Array Slot) (H : Heap) (locs : List Loc) (cells slots : Nat), cells ≤ 1 → slots ≤ 6 → r.1 = 0 → decode cX6_state pc = .ok (.ireturn, 1) → WS wC G g A s.heap H locs → narrow .int (.int r.2) = .int r.2 → W p l e { frames := 7, cells := 1, slots := 6, locals := 111 } s m args below meth c H locs cells slots (vx_MQ below Qc XC args s 1 6 A) (F0 m pc ls [.int r.2])) (kT : r.1 ≠ 0 → gTh XC s wC G A r.1 g) : ∀ (x1 : Int32) (H : Heap) (locs : List Loc) (ls : Array Slot), WS wC G g A s.heap H locs → lv_has ls 2 [(0, .ref (G.1 160)), (1, .int x1)] → sX6_state g x1 = some r → W p l e { frames := 7, cells := 1, slots := 6, locals := 111 } s m args below meth c H locs 0 0 (vx_MQ below Qc XC args s 1 6 A) (F0 m 0 ls []) := by
  have hx := X.1
  have hb := X.2.1
  intro x1 H locs ls Z hl hm
  unfold sX6_state at hm
  refine lv_aload_n hx hb dX6_state_0 rfl (lv_at hl 0 rfl) ?_
  refine lv_iload_n hx hb dX6_state_1 rfl (lv_at hl 1 rfl) ?_
  rcases sReq_some hm with ⟨e1, hm⟩ | ⟨ec2, c3, e1, hm⟩
  rotate_left
  · obtain rfl := Option.some.inj hm
    exact g_xcallT (n := 1) (As := [.int x1]) (rest := []) sameC X hNX Z c3 (cX6_requireTransaction_c l hst e1) (oX6 k160) rfl (gooV mB428 mB429 mB430 mB409 mB420) rfl (by decide +kernel) rfl ⟨Nat.le_of_ble_eq_true rfl, Nat.le_of_ble_eq_true rfl⟩ ⟨Nat.le_of_ble_eq_true rfl, Nat.le_of_ble_eq_true rfl⟩ ⟨Nat.le_of_ble_eq_true rfl, Nat.le_of_ble_eq_true rfl⟩ hl.1 rfl (Nat.le_of_ble_eq_true rfl) dX6_state_2 (kT c3)
  refine g_xcall0 (n := 1) (As := [.int x1]) (rest := []) (c1 := 1) (s1 := 6) sameC X Z (cX6_requireTransaction_c l hst e1) (oX6 k160) rfl (gooV mB428 mB429 mB430 mB409 mB420) rfl (by decide +kernel) rfl ⟨Nat.le_of_ble_eq_true rfl, Nat.le_of_ble_eq_true rfl⟩ rfl rfl ⟨Nat.le_of_ble_eq_true rfl, Nat.le_of_ble_eq_true rfl⟩ hl.1 rfl (Nat.le_of_ble_eq_true rfl) dX6_state_2 (fun H locs Z => ?_)
  refine lv_aload_n hx hb dX6_state_5 rfl (lv_at hl 0 rfl) ?_
  refine g_get (j := 0) (v := .ref (G.1 0)) X Z (oX6 k160) (iB6 _) rfl (by decide) rfl (List.mem_cons_of_mem _ mB385) rfl dX6_state_6 ?_
  refine g_get (j := 5) (v := .ref (G.1 (0 + 9))) X Z (oX2 k0) (iB2 _) rfl (by decide) rfl (List.mem_cons_of_mem _ mB421) rfl dX6_state_9 ?_
  refine g_get (j := 2) (v := .ref (G.1 ((0 + 9) + 2))) X Z (oX4 (k25 k0)) (iB4 _) rfl (by decide) rfl (List.mem_cons_of_mem _ mB549) rfl dX6_state_12 ?_
  refine lv_iload_n hx hb dX6_state_15 rfl (lv_at hl 1 rfl) ?_
  obtain ⟨b4, hm⟩ := sIdx_some hm
  refine g_iald X Z (aI (k42 (k25 k0))) b4 dX6_state_16 ?_
  obtain rfl := Option.some.inj hm
  exact kI _ _ _ _ _ _ (Nat.le_of_ble_eq_true rfl) (Nat.le_of_ble_eq_true rfl) rfl dX6_state_17 Z (vp_nar_int _)
theorem cX6_state_c (l : Launch) (hst : l.stackTraces = false) {G : LY} {g : Mem} {x1 : Int32} {r : Nat × Int32} (hm : sX6_state g x1 = some r) : cXI l yX6_state wmX6_state 7 111 1 6 .int wC G [.ref (G.1 160), .int x1] g r.1 r.2 g :=
  mk_cXI sameC (by decide +kernel) rfl (Nat.le_of_ble_eq_true rfl) (fun p e s m args below meth c A Qc XC ls X hNX kI kT hl Z => bX6_state_0 X hNX hst kI kT x1 _ _ ls Z hl hm)
abbrev wmX6_timestamp : List Cond := Cond.code yX6_timestamp cX6_timestamp 2 (some .int) :: wA0
set_option maxHeartbeats 4000000 in
set_option maxRecDepth 100000 in
theorem bX6_timestamp_0 (X : gC p s m args meth c cX6_timestamp 2 wmX6_timestamp yX6_timestamp.cls (some .int) G A) {g : Mem} {r : Nat × Int32} (hNX : ∀ x ∈ c.exceptionTable.toList, False) (hst : l.stackTraces = false) (kI : ∀ (pc : Nat) (ls : Array Slot) (H : Heap) (locs : List Loc) (cells slots : Nat), cells ≤ 1 → slots ≤ 6 → r.1 = 0 → decode cX6_timestamp pc = .ok (.ireturn, 1) → WS wC G g A s.heap H locs → narrow .int (.int r.2) = .int r.2 → W p l e { frames := 7, cells := 1, slots := 6, locals := 111 } s m args below meth c H locs cells slots (vx_MQ below Qc XC args s 1 6 A) (F0 m pc ls [.int r.2])) (kT : r.1 ≠ 0 → gTh XC s wC G A r.1 g) : ∀ (x1 : Int32) (H : Heap) (locs : List Loc) (ls : Array Slot), WS wC G g A s.heap H locs → lv_has ls 2 [(0, .ref (G.1 160)), (1, .int x1)] → sX6_timestamp g x1 = some r → W p l e { frames := 7, cells := 1, slots := 6, locals := 111 } s m args below meth c H locs 0 0 (vx_MQ below Qc XC args s 1 6 A) (F0 m 0 ls []) := by
  have hx := X.1
  have hb := X.2.1
  intro x1 H locs ls Z hl hm
  unfold sX6_timestamp at hm
  refine lv_aload_n hx hb dX6_timestamp_0 rfl (lv_at hl 0 rfl) ?_
  refine lv_iload_n hx hb dX6_timestamp_1 rfl (lv_at hl 1 rfl) ?_
  rcases sReq_some hm with ⟨e1, hm⟩ | ⟨ec2, c3, e1, hm⟩
  rotate_left
  · obtain rfl := Option.some.inj hm
    exact g_xcallT (n := 1) (As := [.int x1]) (rest := []) sameC X hNX Z c3 (cX6_requireTransaction_c l hst e1) (oX6 k160) rfl (gooV mB428 mB429 mB430 mB409 mB420) rfl (by decide +kernel) rfl ⟨Nat.le_of_ble_eq_true rfl, Nat.le_of_ble_eq_true rfl⟩ ⟨Nat.le_of_ble_eq_true rfl, Nat.le_of_ble_eq_true rfl⟩ ⟨Nat.le_of_ble_eq_true rfl, Nat.le_of_ble_eq_true rfl⟩ hl.1 rfl (Nat.le_of_ble_eq_true rfl) dX6_timestamp_2 (kT c3)
  refine g_xcall0 (n := 1) (As := [.int x1]) (rest := []) (c1 := 1) (s1 := 6) sameC X Z (cX6_requireTransaction_c l hst e1) (oX6 k160) rfl (gooV mB428 mB429 mB430 mB409 mB420) rfl (by decide +kernel) rfl ⟨Nat.le_of_ble_eq_true rfl, Nat.le_of_ble_eq_true rfl⟩ rfl rfl ⟨Nat.le_of_ble_eq_true rfl, Nat.le_of_ble_eq_true rfl⟩ hl.1 rfl (Nat.le_of_ble_eq_true rfl) dX6_timestamp_2 (fun H locs Z => ?_)
  refine lv_aload_n hx hb dX6_timestamp_5 rfl (lv_at hl 0 rfl) ?_
  refine g_get (j := 0) (v := .ref (G.1 0)) X Z (oX6 k160) (iB6 _) rfl (by decide) rfl (List.mem_cons_of_mem _ mB385) rfl dX6_timestamp_6 ?_
  refine g_get (j := 5) (v := .ref (G.1 (0 + 9))) X Z (oX2 k0) (iB2 _) rfl (by decide) rfl (List.mem_cons_of_mem _ mB421) rfl dX6_timestamp_9 ?_
  refine g_get (j := 3) (v := .ref (G.1 ((0 + 9) + 3))) X Z (oX4 (k25 k0)) (iB4 _) rfl (by decide) rfl (List.mem_cons_of_mem _ mB551) rfl dX6_timestamp_12 ?_
  refine lv_iload_n hx hb dX6_timestamp_15 rfl (lv_at hl 1 rfl) ?_
  obtain ⟨b4, hm⟩ := sIdx_some hm
  refine g_iald X Z (aI (k43 (k25 k0))) b4 dX6_timestamp_16 ?_
  obtain rfl := Option.some.inj hm
  exact kI _ _ _ _ _ _ (Nat.le_of_ble_eq_true rfl) (Nat.le_of_ble_eq_true rfl) rfl dX6_timestamp_17 Z (vp_nar_int _)
theorem cX6_timestamp_c (l : Launch) (hst : l.stackTraces = false) {G : LY} {g : Mem} {x1 : Int32} {r : Nat × Int32} (hm : sX6_timestamp g x1 = some r) : cXI l yX6_timestamp wmX6_timestamp 7 111 1 6 .int wC G [.ref (G.1 160), .int x1] g r.1 r.2 g :=
  mk_cXI sameC (by decide +kernel) rfl (Nat.le_of_ble_eq_true rfl) (fun p e s m args below meth c A Qc XC ls X hNX kI kT hl Z => bX6_timestamp_0 X hNX hst kI kT x1 _ _ ls Z hl hm)
abbrev wmX6_requestTime : List Cond := Cond.code yX6_requestTime cX6_requestTime 2 (some .int) :: wA0
set_option maxHeartbeats 4000000 in
set_option maxRecDepth 100000 in
theorem bX6_requestTime_0 (X : gC p s m args meth c cX6_requestTime 2 wmX6_requestTime yX6_requestTime.cls (some .int) G A) {g : Mem} {r : Nat × Int32} (hNX : ∀ x ∈ c.exceptionTable.toList, False) (hst : l.stackTraces = false) (kI : ∀ (pc : Nat) (ls : Array Slot) (H : Heap) (locs : List Loc) (cells slots : Nat), cells ≤ 1 → slots ≤ 6 → r.1 = 0 → decode cX6_requestTime pc = .ok (.ireturn, 1) → WS wC G g A s.heap H locs → narrow .int (.int r.2) = .int r.2 → W p l e { frames := 7, cells := 1, slots := 6, locals := 111 } s m args below meth c H locs cells slots (vx_MQ below Qc XC args s 1 6 A) (F0 m pc ls [.int r.2])) (kT : r.1 ≠ 0 → gTh XC s wC G A r.1 g) : ∀ (x1 : Int32) (H : Heap) (locs : List Loc) (ls : Array Slot), WS wC G g A s.heap H locs → lv_has ls 2 [(0, .ref (G.1 160)), (1, .int x1)] → sX6_requestTime g x1 = some r → W p l e { frames := 7, cells := 1, slots := 6, locals := 111 } s m args below meth c H locs 0 0 (vx_MQ below Qc XC args s 1 6 A) (F0 m 0 ls []) := by
  have hx := X.1
  have hb := X.2.1
  intro x1 H locs ls Z hl hm
  unfold sX6_requestTime at hm
  refine lv_aload_n hx hb dX6_requestTime_0 rfl (lv_at hl 0 rfl) ?_
  refine lv_iload_n hx hb dX6_requestTime_1 rfl (lv_at hl 1 rfl) ?_
  rcases sReq_some hm with ⟨e1, hm⟩ | ⟨ec2, c3, e1, hm⟩
  rotate_left
  · obtain rfl := Option.some.inj hm
    exact g_xcallT (n := 1) (As := [.int x1]) (rest := []) sameC X hNX Z c3 (cX6_requireTransaction_c l hst e1) (oX6 k160) rfl (gooV mB428 mB429 mB430 mB409 mB420) rfl (by decide +kernel) rfl ⟨Nat.le_of_ble_eq_true rfl, Nat.le_of_ble_eq_true rfl⟩ ⟨Nat.le_of_ble_eq_true rfl, Nat.le_of_ble_eq_true rfl⟩ ⟨Nat.le_of_ble_eq_true rfl, Nat.le_of_ble_eq_true rfl⟩ hl.1 rfl (Nat.le_of_ble_eq_true rfl) dX6_requestTime_2 (kT c3)
  refine g_xcall0 (n := 1) (As := [.int x1]) (rest := []) (c1 := 1) (s1 := 6) sameC X Z (cX6_requireTransaction_c l hst e1) (oX6 k160) rfl (gooV mB428 mB429 mB430 mB409 mB420) rfl (by decide +kernel) rfl ⟨Nat.le_of_ble_eq_true rfl, Nat.le_of_ble_eq_true rfl⟩ rfl rfl ⟨Nat.le_of_ble_eq_true rfl, Nat.le_of_ble_eq_true rfl⟩ hl.1 rfl (Nat.le_of_ble_eq_true rfl) dX6_requestTime_2 (fun H locs Z => ?_)
  refine lv_aload_n hx hb dX6_requestTime_5 rfl (lv_at hl 0 rfl) ?_
  refine g_get (j := 0) (v := .ref (G.1 0)) X Z (oX6 k160) (iB6 _) rfl (by decide) rfl (List.mem_cons_of_mem _ mB385) rfl dX6_requestTime_6 ?_
  refine g_get (j := 5) (v := .ref (G.1 (0 + 9))) X Z (oX2 k0) (iB2 _) rfl (by decide) rfl (List.mem_cons_of_mem _ mB421) rfl dX6_requestTime_9 ?_
  refine g_get (j := 4) (v := .ref (G.1 ((0 + 9) + 4))) X Z (oX4 (k25 k0)) (iB4 _) rfl (by decide) rfl (List.mem_cons_of_mem _ mB553) rfl dX6_requestTime_12 ?_
  refine lv_iload_n hx hb dX6_requestTime_15 rfl (lv_at hl 1 rfl) ?_
  obtain ⟨b4, hm⟩ := sIdx_some hm
  refine g_iald X Z (aI (k44 (k25 k0))) b4 dX6_requestTime_16 ?_
  obtain rfl := Option.some.inj hm
  exact kI _ _ _ _ _ _ (Nat.le_of_ble_eq_true rfl) (Nat.le_of_ble_eq_true rfl) rfl dX6_requestTime_17 Z (vp_nar_int _)
theorem cX6_requestTime_c (l : Launch) (hst : l.stackTraces = false) {G : LY} {g : Mem} {x1 : Int32} {r : Nat × Int32} (hm : sX6_requestTime g x1 = some r) : cXI l yX6_requestTime wmX6_requestTime 7 111 1 6 .int wC G [.ref (G.1 160), .int x1] g r.1 r.2 g :=
  mk_cXI sameC (by decide +kernel) rfl (Nat.le_of_ble_eq_true rfl) (fun p e s m args below meth c A Qc XC ls X hNX kI kT hl Z => bX6_requestTime_0 X hNX hst kI kT x1 _ _ ls Z hl hm)
abbrev wmX6_commitTime : List Cond := Cond.code yX6_commitTime cX6_commitTime 2 (some .int) :: wA0
set_option maxHeartbeats 4000000 in
set_option maxRecDepth 100000 in
theorem bX6_commitTime_0 (X : gC p s m args meth c cX6_commitTime 2 wmX6_commitTime yX6_commitTime.cls (some .int) G A) {g : Mem} {r : Nat × Int32} (hNX : ∀ x ∈ c.exceptionTable.toList, False) (hst : l.stackTraces = false) (kI : ∀ (pc : Nat) (ls : Array Slot) (H : Heap) (locs : List Loc) (cells slots : Nat), cells ≤ 1 → slots ≤ 6 → r.1 = 0 → decode cX6_commitTime pc = .ok (.ireturn, 1) → WS wC G g A s.heap H locs → narrow .int (.int r.2) = .int r.2 → W p l e { frames := 7, cells := 1, slots := 6, locals := 111 } s m args below meth c H locs cells slots (vx_MQ below Qc XC args s 1 6 A) (F0 m pc ls [.int r.2])) (kT : r.1 ≠ 0 → gTh XC s wC G A r.1 g) : ∀ (x1 : Int32) (H : Heap) (locs : List Loc) (ls : Array Slot), WS wC G g A s.heap H locs → lv_has ls 2 [(0, .ref (G.1 160)), (1, .int x1)] → sX6_commitTime g x1 = some r → W p l e { frames := 7, cells := 1, slots := 6, locals := 111 } s m args below meth c H locs 0 0 (vx_MQ below Qc XC args s 1 6 A) (F0 m 0 ls []) := by
  have hx := X.1
  have hb := X.2.1
  intro x1 H locs ls Z hl hm
  unfold sX6_commitTime at hm
  refine lv_aload_n hx hb dX6_commitTime_0 rfl (lv_at hl 0 rfl) ?_
  refine lv_iload_n hx hb dX6_commitTime_1 rfl (lv_at hl 1 rfl) ?_
  rcases sReq_some hm with ⟨e1, hm⟩ | ⟨ec2, c3, e1, hm⟩
  rotate_left
  · obtain rfl := Option.some.inj hm
    exact g_xcallT (n := 1) (As := [.int x1]) (rest := []) sameC X hNX Z c3 (cX6_requireTransaction_c l hst e1) (oX6 k160) rfl (gooV mB428 mB429 mB430 mB409 mB420) rfl (by decide +kernel) rfl ⟨Nat.le_of_ble_eq_true rfl, Nat.le_of_ble_eq_true rfl⟩ ⟨Nat.le_of_ble_eq_true rfl, Nat.le_of_ble_eq_true rfl⟩ ⟨Nat.le_of_ble_eq_true rfl, Nat.le_of_ble_eq_true rfl⟩ hl.1 rfl (Nat.le_of_ble_eq_true rfl) dX6_commitTime_2 (kT c3)
  refine g_xcall0 (n := 1) (As := [.int x1]) (rest := []) (c1 := 1) (s1 := 6) sameC X Z (cX6_requireTransaction_c l hst e1) (oX6 k160) rfl (gooV mB428 mB429 mB430 mB409 mB420) rfl (by decide +kernel) rfl ⟨Nat.le_of_ble_eq_true rfl, Nat.le_of_ble_eq_true rfl⟩ rfl rfl ⟨Nat.le_of_ble_eq_true rfl, Nat.le_of_ble_eq_true rfl⟩ hl.1 rfl (Nat.le_of_ble_eq_true rfl) dX6_commitTime_2 (fun H locs Z => ?_)
  refine lv_aload_n hx hb dX6_commitTime_5 rfl (lv_at hl 0 rfl) ?_
  refine g_get (j := 0) (v := .ref (G.1 0)) X Z (oX6 k160) (iB6 _) rfl (by decide) rfl (List.mem_cons_of_mem _ mB385) rfl dX6_commitTime_6 ?_
  refine g_get (j := 5) (v := .ref (G.1 (0 + 9))) X Z (oX2 k0) (iB2 _) rfl (by decide) rfl (List.mem_cons_of_mem _ mB421) rfl dX6_commitTime_9 ?_
  refine g_get (j := 5) (v := .ref (G.1 ((0 + 9) + 5))) X Z (oX4 (k25 k0)) (iB4 _) rfl (by decide) rfl (List.mem_cons_of_mem _ mB555) rfl dX6_commitTime_12 ?_
  refine lv_iload_n hx hb dX6_commitTime_15 rfl (lv_at hl 1 rfl) ?_
  obtain ⟨b4, hm⟩ := sIdx_some hm
  refine g_iald X Z (aI (k45 (k25 k0))) b4 dX6_commitTime_16 ?_
  obtain rfl := Option.some.inj hm
  exact kI _ _ _ _ _ _ (Nat.le_of_ble_eq_true rfl) (Nat.le_of_ble_eq_true rfl) rfl dX6_commitTime_17 Z (vp_nar_int _)
theorem cX6_commitTime_c (l : Launch) (hst : l.stackTraces = false) {G : LY} {g : Mem} {x1 : Int32} {r : Nat × Int32} (hm : sX6_commitTime g x1 = some r) : cXI l yX6_commitTime wmX6_commitTime 7 111 1 6 .int wC G [.ref (G.1 160), .int x1] g r.1 r.2 g :=
  mk_cXI sameC (by decide +kernel) rfl (Nat.le_of_ble_eq_true rfl) (fun p e s m args below meth c A Qc XC ls X hNX kI kT hl Z => bX6_commitTime_0 X hNX hst kI kT x1 _ _ ls Z hl hm)
abbrev wmX6_bufferedValue : List Cond := Cond.code yX6_bufferedValue cX6_bufferedValue 3 (some .int) :: wA0
set_option maxHeartbeats 4000000 in
set_option maxRecDepth 100000 in
theorem bX6_bufferedValue_0 (X : gC p s m args meth c cX6_bufferedValue 3 wmX6_bufferedValue yX6_bufferedValue.cls (some .int) G A) {g : Mem} {r : Nat × Int32} (hNX : ∀ x ∈ c.exceptionTable.toList, False) (hst : l.stackTraces = false) (kI : ∀ (pc : Nat) (ls : Array Slot) (H : Heap) (locs : List Loc) (cells slots : Nat), cells ≤ 2 → slots ≤ 12 → r.1 = 0 → decode cX6_bufferedValue pc = .ok (.ireturn, 1) → WS wC G g A s.heap H locs → narrow .int (.int r.2) = .int r.2 → W p l e { frames := 7, cells := 2, slots := 12, locals := 111 } s m args below meth c H locs cells slots (vx_MQ below Qc XC args s 2 12 A) (F0 m pc ls [.int r.2])) (kT : r.1 ≠ 0 → gTh XC s wC G A r.1 g) : ∀ (x1 : Int32) (x2 : Int32) (H : Heap) (locs : List Loc) (ls : Array Slot), WS wC G g A s.heap H locs → lv_has ls 3 [(0, .ref (G.1 160)), (1, .int x1), (2, .int x2)] → sX6_bufferedValue g x1 x2 = some r → W p l e { frames := 7, cells := 2, slots := 12, locals := 111 } s m args below meth c H locs 0 0 (vx_MQ below Qc XC args s 2 12 A) (F0 m 0 ls []) := by
  have hx := X.1
  have hb := X.2.1
  intro x1 x2 H locs ls Z hl hm
  unfold sX6_bufferedValue at hm
  refine lv_aload_n hx hb dX6_bufferedValue_0 rfl (lv_at hl 0 rfl) ?_
  refine lv_iload_n hx hb dX6_bufferedValue_1 rfl (lv_at hl 1 rfl) ?_
  rcases sReq_some hm with ⟨e1, hm⟩ | ⟨ec2, c3, e1, hm⟩
  rotate_left
  · obtain rfl := Option.some.inj hm
    exact g_xcallT (n := 1) (As := [.int x1]) (rest := []) sameC X hNX Z c3 (cX6_requireTransaction_c l hst e1) (oX6 k160) rfl (gooV mB428 mB429 mB430 mB409 mB420) rfl (by decide +kernel) rfl ⟨Nat.le_of_ble_eq_true rfl, Nat.le_of_ble_eq_true rfl⟩ ⟨Nat.le_of_ble_eq_true rfl, Nat.le_of_ble_eq_true rfl⟩ ⟨Nat.le_of_ble_eq_true rfl, Nat.le_of_ble_eq_true rfl⟩ hl.1 rfl (Nat.le_of_ble_eq_true rfl) dX6_bufferedValue_2 (kT c3)
  refine g_xcall0 (n := 1) (As := [.int x1]) (rest := []) (c1 := 1) (s1 := 6) sameC X Z (cX6_requireTransaction_c l hst e1) (oX6 k160) rfl (gooV mB428 mB429 mB430 mB409 mB420) rfl (by decide +kernel) rfl ⟨Nat.le_of_ble_eq_true rfl, Nat.le_of_ble_eq_true rfl⟩ rfl rfl ⟨Nat.le_of_ble_eq_true rfl, Nat.le_of_ble_eq_true rfl⟩ hl.1 rfl (Nat.le_of_ble_eq_true rfl) dX6_bufferedValue_2 (fun H locs Z => ?_)
  refine lv_aload_n hx hb dX6_bufferedValue_5 rfl (lv_at hl 0 rfl) ?_
  refine lv_iload_n hx hb dX6_bufferedValue_6 rfl (lv_at hl 2 rfl) ?_
  rcases sReq_some hm with ⟨e4, hm⟩ | ⟨ec5, c6, e4, hm⟩
  rotate_left
  · obtain rfl := Option.some.inj hm
    exact g_xcallT (n := 1) (As := [.int x2]) (rest := []) sameC X hNX Z c6 (cX6_requireKey_c l hst e4) (oX6 k160) rfl (gooV mB431 mB432 mB433 mB409 mB423) rfl (by decide +kernel) rfl ⟨Nat.le_of_ble_eq_true rfl, Nat.le_of_ble_eq_true rfl⟩ ⟨Nat.le_of_ble_eq_true rfl, Nat.le_of_ble_eq_true rfl⟩ ⟨Nat.le_of_ble_eq_true rfl, Nat.le_of_ble_eq_true rfl⟩ hl.1 rfl (Nat.le_of_ble_eq_true rfl) dX6_bufferedValue_7 (kT c6)
  refine g_xcall0 (n := 1) (As := [.int x2]) (rest := []) (c1 := 2) (s1 := 12) sameC X Z (cX6_requireKey_c l hst e4) (oX6 k160) rfl (gooV mB431 mB432 mB433 mB409 mB423) rfl (by decide +kernel) rfl ⟨Nat.le_of_ble_eq_true rfl, Nat.le_of_ble_eq_true rfl⟩ rfl rfl ⟨Nat.le_of_ble_eq_true rfl, Nat.le_of_ble_eq_true rfl⟩ hl.1 rfl (Nat.le_of_ble_eq_true rfl) dX6_bufferedValue_7 (fun H locs Z => ?_)
  refine lv_aload_n hx hb dX6_bufferedValue_10 rfl (lv_at hl 0 rfl) ?_
  refine g_get (j := 0) (v := .ref (G.1 0)) X Z (oX6 k160) (iB6 _) rfl (by decide) rfl (List.mem_cons_of_mem _ mB385) rfl dX6_bufferedValue_11 ?_
  refine g_get (j := 5) (v := .ref (G.1 (0 + 9))) X Z (oX2 k0) (iB2 _) rfl (by decide) rfl (List.mem_cons_of_mem _ mB421) rfl dX6_bufferedValue_14 ?_
  refine lv_iload_n hx hb dX6_bufferedValue_17 rfl (lv_at hl 1 rfl) ?_
  refine lv_iload_n hx hb dX6_bufferedValue_18 rfl (lv_at hl 2 rfl) ?_
  obtain ⟨r9, e7, hm⟩ := sBi_some hm
  refine g_callVI (n := 2) (As := [.int x1, .int x2]) (rest := []) sameC X Z (cX4_bufferOf_c l (k25 k0) e7) (oX4 (k25 k0)) rfl (gooV mB557 mB133 mB134 mB30 mB124) rfl (by decide +kernel) rfl ⟨Nat.le_of_ble_eq_true rfl, Nat.le_of_ble_eq_true rfl⟩ ⟨Nat.le_of_ble_eq_true rfl, Nat.le_of_ble_eq_true rfl⟩ hl.1 rfl (Nat.le_of_ble_eq_true rfl) dX6_bufferedValue_19 (fun w8 H locs Z => ?_)
  obtain rfl := Option.some.inj hm
  exact kI _ _ _ _ _ _ (Nat.le_of_ble_eq_true rfl) (Nat.le_of_ble_eq_true rfl) rfl dX6_bufferedValue_22 Z (vp_nar_int _)
theorem cX6_bufferedValue_c (l : Launch) (hst : l.stackTraces = false) {G : LY} {g : Mem} {x1 : Int32} {x2 : Int32} {r : Nat × Int32} (hm : sX6_bufferedValue g x1 x2 = some r) : cXI l yX6_bufferedValue wmX6_bufferedValue 7 111 2 12 .int wC G [.ref (G.1 160), .int x1, .int x2] g r.1 r.2 g :=
  mk_cXI sameC (by decide +kernel) rfl (Nat.le_of_ble_eq_true rfl) (fun p e s m args below meth c A Qc XC ls X hNX kI kT hl Z => bX6_bufferedValue_0 X hNX hst kI kT x1 x2 _ _ ls Z hl hm)
abbrev wmX6_recordedTimestamp : List Cond := Cond.code yX6_recordedTimestamp cX6_recordedTimestamp 4 (some .int) :: wA0
set_option maxHeartbeats 4000000 in
set_option maxRecDepth 100000 in
theorem bX6_recordedTimestamp_0 (X : gC p s m args meth c cX6_recordedTimestamp 4 wmX6_recordedTimestamp yX6_recordedTimestamp.cls (some .int) G A) {g : Mem} {r : Nat × Int32} (hNX : ∀ x ∈ c.exceptionTable.toList, False) (hst : l.stackTraces = false) (kI : ∀ (pc : Nat) (ls : Array Slot) (H : Heap) (locs : List Loc) (cells slots : Nat), cells ≤ 2 → slots ≤ 12 → r.1 = 0 → decode cX6_recordedTimestamp pc = .ok (.ireturn, 1) → WS wC G g A s.heap H locs → narrow .int (.int r.2) = .int r.2 → W p l e { frames := 7, cells := 2, slots := 12, locals := 111 } s m args below meth c H locs cells slots (vx_MQ below Qc XC args s 2 12 A) (F0 m pc ls [.int r.2])) (kT : r.1 ≠ 0 → gTh XC s wC G A r.1 g) : ∀ (x1 : Int32) (x2 : Int32) (H : Heap) (locs : List Loc) (ls : Array Slot), WS wC G g A s.heap H locs → lv_has ls 4 [(0, .ref (G.1 160)), (1, .int x1), (2, .int x2)] → sX6_recordedTimestamp g x1 x2 = some r → W p l e { frames := 7, cells := 2, slots := 12, locals := 111 } s m args below meth c H locs 0 0 (vx_MQ below Qc XC args s 2 12 A) (F0 m 0 ls []) := by
  have hx := X.1
  have hb := X.2.1
  intro x1 x2 H locs ls Z hl hm
  unfold sX6_recordedTimestamp at hm
  refine lv_aload_n hx hb dX6_recordedTimestamp_0 rfl (lv_at hl 0 rfl) ?_
  refine lv_iload_n hx hb dX6_recordedTimestamp_1 rfl (lv_at hl 1 rfl) ?_
  rcases sReq_some hm with ⟨e1, hm⟩ | ⟨ec2, c3, e1, hm⟩
  rotate_left
  · obtain rfl := Option.some.inj hm
    exact g_xcallT (n := 1) (As := [.int x1]) (rest := []) sameC X hNX Z c3 (cX6_requireTransaction_c l hst e1) (oX6 k160) rfl (gooV mB428 mB429 mB430 mB409 mB420) rfl (by decide +kernel) rfl ⟨Nat.le_of_ble_eq_true rfl, Nat.le_of_ble_eq_true rfl⟩ ⟨Nat.le_of_ble_eq_true rfl, Nat.le_of_ble_eq_true rfl⟩ ⟨Nat.le_of_ble_eq_true rfl, Nat.le_of_ble_eq_true rfl⟩ hl.1 rfl (Nat.le_of_ble_eq_true rfl) dX6_recordedTimestamp_2 (kT c3)
  refine g_xcall0 (n := 1) (As := [.int x1]) (rest := []) (c1 := 1) (s1 := 6) sameC X Z (cX6_requireTransaction_c l hst e1) (oX6 k160) rfl (gooV mB428 mB429 mB430 mB409 mB420) rfl (by decide +kernel) rfl ⟨Nat.le_of_ble_eq_true rfl, Nat.le_of_ble_eq_true rfl⟩ rfl rfl ⟨Nat.le_of_ble_eq_true rfl, Nat.le_of_ble_eq_true rfl⟩ hl.1 rfl (Nat.le_of_ble_eq_true rfl) dX6_recordedTimestamp_2 (fun H locs Z => ?_)
  refine lv_aload_n hx hb dX6_recordedTimestamp_5 rfl (lv_at hl 0 rfl) ?_
  refine lv_iload_n hx hb dX6_recordedTimestamp_6 rfl (lv_at hl 2 rfl) ?_
  rcases sReq_some hm with ⟨e4, hm⟩ | ⟨ec5, c6, e4, hm⟩
  rotate_left
  · obtain rfl := Option.some.inj hm
    exact g_xcallT (n := 1) (As := [.int x2]) (rest := []) sameC X hNX Z c6 (cX6_requireKey_c l hst e4) (oX6 k160) rfl (gooV mB431 mB432 mB433 mB409 mB423) rfl (by decide +kernel) rfl ⟨Nat.le_of_ble_eq_true rfl, Nat.le_of_ble_eq_true rfl⟩ ⟨Nat.le_of_ble_eq_true rfl, Nat.le_of_ble_eq_true rfl⟩ ⟨Nat.le_of_ble_eq_true rfl, Nat.le_of_ble_eq_true rfl⟩ hl.1 rfl (Nat.le_of_ble_eq_true rfl) dX6_recordedTimestamp_7 (kT c6)
  refine g_xcall0 (n := 1) (As := [.int x2]) (rest := []) (c1 := 2) (s1 := 12) sameC X Z (cX6_requireKey_c l hst e4) (oX6 k160) rfl (gooV mB431 mB432 mB433 mB409 mB423) rfl (by decide +kernel) rfl ⟨Nat.le_of_ble_eq_true rfl, Nat.le_of_ble_eq_true rfl⟩ rfl rfl ⟨Nat.le_of_ble_eq_true rfl, Nat.le_of_ble_eq_true rfl⟩ hl.1 rfl (Nat.le_of_ble_eq_true rfl) dX6_recordedTimestamp_7 (fun H locs Z => ?_)
  refine lv_aload_n hx hb dX6_recordedTimestamp_10 rfl (lv_at hl 0 rfl) ?_
  refine g_get (j := 0) (v := .ref (G.1 0)) X Z (oX6 k160) (iB6 _) rfl (by decide) rfl (List.mem_cons_of_mem _ mB385) rfl dX6_recordedTimestamp_11 ?_
  refine g_get (j := 5) (v := .ref (G.1 (0 + 9))) X Z (oX2 k0) (iB2 _) rfl (by decide) rfl (List.mem_cons_of_mem _ mB421) rfl dX6_recordedTimestamp_14 ?_
  refine lv_iload_n hx hb dX6_recordedTimestamp_17 rfl (lv_at hl 1 rfl) ?_
  refine lv_iload_n hx hb dX6_recordedTimestamp_18 rfl (lv_at hl 2 rfl) ?_
  obtain ⟨r9, e7, hm⟩ := sBi_some hm
  refine g_callVI (n := 2) (As := [.int x1, .int x2]) (rest := []) sameC X Z (cX4_recordedVersion_c l (k25 k0) e7) (oX4 (k25 k0)) rfl (gooV mB558 mB143 mB144 mB30 mB127) rfl (by decide +kernel) rfl ⟨Nat.le_of_ble_eq_true rfl, Nat.le_of_ble_eq_true rfl⟩ ⟨Nat.le_of_ble_eq_true rfl, Nat.le_of_ble_eq_true rfl⟩ hl.1 rfl (Nat.le_of_ble_eq_true rfl) dX6_recordedTimestamp_19 (fun w8 H locs Z => ?_)
  refine lv_istore_n (lv' := [(3, .int r9), (0, .ref (G.1 160)), (1, .int x1), (2, .int x2)]) hx hb dX6_recordedTimestamp_22 rfl hl (by decide) rfl (fun ls hl => ?_)
  refine lv_iload_n hx hb dX6_recordedTimestamp_23 rfl (lv_at hl 0 rfl) ?_
  refine lv_iconst (v := (-1)) hx hb dX6_recordedTimestamp_24 (by decide) ?_
  refine lv_icmp_ne (tgt := 32) hx hb dX6_recordedTimestamp_25 (by decide) (fun c10 => ?_) (fun c10 => ?_)
  · replace hm := (if_neg c10).symm.trans hm
    refine lv_aload_n hx hb dX6_recordedTimestamp_32 rfl (lv_at hl 1 rfl) ?_
    refine g_get (j := 0) (v := .ref (G.1 0)) X Z (oX6 k160) (iB6 _) rfl (by decide) rfl (List.mem_cons_of_mem _ mB385) rfl dX6_recordedTimestamp_33 ?_
    refine g_get (j := 4) (v := .ref (G.1 (0 + 5))) X Z (oX2 k0) (iB2 _) rfl (by decide) rfl (List.mem_cons_of_mem _ mB485) rfl dX6_recordedTimestamp_36 ?_
    refine lv_iload_n hx hb dX6_recordedTimestamp_39 rfl (lv_at hl 3 rfl) ?_
    refine lv_iload_n hx hb dX6_recordedTimestamp_40 rfl (lv_at hl 0 rfl) ?_
    obtain ⟨r13, e11, hm⟩ := sBi_some hm
    refine g_callVI (n := 2) (As := [.int x2, .int r9]) (rest := []) sameC X Z (cX5_timestampOf_c l (k24 k0) e11) (oX5 (k24 k0)) rfl (gooV mB559 mB188 mB189 mB26 mB173) rfl (by decide +kernel) rfl ⟨Nat.le_of_ble_eq_true rfl, Nat.le_of_ble_eq_true rfl⟩ ⟨Nat.le_of_ble_eq_true rfl, Nat.le_of_ble_eq_true rfl⟩ hl.1 rfl (Nat.le_of_ble_eq_true rfl) dX6_recordedTimestamp_41 (fun w12 H locs Z => ?_)
    obtain rfl := Option.some.inj hm
    exact kI _ _ _ _ _ _ (Nat.le_of_ble_eq_true rfl) (Nat.le_of_ble_eq_true rfl) rfl dX6_recordedTimestamp_44 Z (vp_nar_int _)
  · replace hm := (if_pos c10).symm.trans hm
    refine lv_iconst (v := (-1)) hx hb dX6_recordedTimestamp_28 (by decide) ?_
    refine lv_goto (tgt := 44) hx hb dX6_recordedTimestamp_29 (by decide) ?_
    obtain rfl := Option.some.inj hm
    exact kI _ _ _ _ _ _ (Nat.le_of_ble_eq_true rfl) (Nat.le_of_ble_eq_true rfl) rfl dX6_recordedTimestamp_44 Z (vp_nar_int _)
theorem cX6_recordedTimestamp_c (l : Launch) (hst : l.stackTraces = false) {G : LY} {g : Mem} {x1 : Int32} {x2 : Int32} {r : Nat × Int32} (hm : sX6_recordedTimestamp g x1 x2 = some r) : cXI l yX6_recordedTimestamp wmX6_recordedTimestamp 7 111 2 12 .int wC G [.ref (G.1 160), .int x1, .int x2] g r.1 r.2 g :=
  mk_cXI sameC (by decide +kernel) rfl (Nat.le_of_ble_eq_true rfl) (fun p e s m args below meth c A Qc XC ls X hNX kI kT hl Z => bX6_recordedTimestamp_0 X hNX hst kI kT x1 x2 _ _ ls Z hl hm)
abbrev wmX6_ifCommitted : List Cond := Cond.code yX6_ifCommitted cX6_ifCommitted 2 (some .int) :: wA0
set_option maxHeartbeats 4000000 in
set_option maxRecDepth 100000 in
theorem bX6_ifCommitted_0 (X : gC p s m args meth c cX6_ifCommitted 2 wmX6_ifCommitted yX6_ifCommitted.cls (some .int) G A) {n : Nat} {g : Mem} {r : Nat × Int32} (hNX : ∀ x ∈ c.exceptionTable.toList, False) (hst : l.stackTraces = false) (kI : ∀ (pc : Nat) (ls : Array Slot) (H : Heap) (locs : List Loc) (cells slots : Nat), cells ≤ 1 → slots ≤ 6 → r.1 = 0 → decode cX6_ifCommitted pc = .ok (.ireturn, 1) → WS wC G g A s.heap H locs → narrow .int (.int r.2) = .int r.2 → W p l e { frames := 7, cells := 1, slots := 6, locals := 112 } s m args below meth c H locs cells slots (vx_MQ below Qc XC args s 1 6 A) (F0 m pc ls [.int r.2])) (kT : r.1 ≠ 0 → gTh XC s wC G A r.1 g) : ∀ (x1 : Int32) (H : Heap) (locs : List Loc) (ls : Array Slot), WS wC G g A s.heap H locs → lv_has ls 2 [(0, .ref (G.1 160)), (1, .int x1)] → sX6_ifCommitted n g x1 = some r → W p l e { frames := 7, cells := 1, slots := 6, locals := 112 } s m args below meth c H locs 0 0 (vx_MQ below Qc XC args s 1 6 A) (F0 m 0 ls []) := by
  have hx := X.1
  have hb := X.2.1
  intro x1 H locs ls Z hl hm
  unfold sX6_ifCommitted at hm
  refine lv_aload_n hx hb dX6_ifCommitted_0 rfl (lv_at hl 0 rfl) ?_
  refine lv_iload_n hx hb dX6_ifCommitted_1 rfl (lv_at hl 1 rfl) ?_
  rcases sReq_some hm with ⟨e1, hm⟩ | ⟨ec2, c3, e1, hm⟩
  rotate_left
  · obtain rfl := Option.some.inj hm
    exact g_xcallT (n := 1) (As := [.int x1]) (rest := []) sameC X hNX Z c3 (cX6_requireTransaction_c l hst e1) (oX6 k160) rfl (gooV mB428 mB429 mB430 mB409 mB420) rfl (by decide +kernel) rfl ⟨Nat.le_of_ble_eq_true rfl, Nat.le_of_ble_eq_true rfl⟩ ⟨Nat.le_of_ble_eq_true rfl, Nat.le_of_ble_eq_true rfl⟩ ⟨Nat.le_of_ble_eq_true rfl, Nat.le_of_ble_eq_true rfl⟩ hl.1 rfl (Nat.le_of_ble_eq_true rfl) dX6_ifCommitted_2 (kT c3)
  refine g_xcall0 (n := 1) (As := [.int x1]) (rest := []) (c1 := 1) (s1 := 6) sameC X Z (cX6_requireTransaction_c l hst e1) (oX6 k160) rfl (gooV mB428 mB429 mB430 mB409 mB420) rfl (by decide +kernel) rfl ⟨Nat.le_of_ble_eq_true rfl, Nat.le_of_ble_eq_true rfl⟩ rfl rfl ⟨Nat.le_of_ble_eq_true rfl, Nat.le_of_ble_eq_true rfl⟩ hl.1 rfl (Nat.le_of_ble_eq_true rfl) dX6_ifCommitted_2 (fun H locs Z => ?_)
  refine lv_aload_n hx hb dX6_ifCommitted_5 rfl (lv_at hl 0 rfl) ?_
  refine g_get (j := 0) (v := .ref (G.1 0)) X Z (oX6 k160) (iB6 _) rfl (by decide) rfl (List.mem_cons_of_mem _ mB385) rfl dX6_ifCommitted_6 ?_
  refine g_get (j := 5) (v := .ref (G.1 (0 + 9))) X Z (oX2 k0) (iB2 _) rfl (by decide) rfl (List.mem_cons_of_mem _ mB421) rfl dX6_ifCommitted_9 ?_
  refine lv_iload_n hx hb dX6_ifCommitted_12 rfl (lv_at hl 1 rfl) ?_
  obtain ⟨r6, e4, hm⟩ := sBi_some hm
  refine g_callVI (n := 1) (As := [.int x1]) (rest := []) sameC X Z (cX4_isOpen_c l (k25 k0) e4) (oX4 (k25 k0)) rfl (gooV mB425 mB426 mB427 mB30 mB368) rfl (by decide +kernel) rfl ⟨Nat.le_of_ble_eq_true rfl, Nat.le_of_ble_eq_true rfl⟩ ⟨Nat.le_of_ble_eq_true rfl, Nat.le_of_ble_eq_true rfl⟩ hl.1 rfl (Nat.le_of_ble_eq_true rfl) dX6_ifCommitted_13 (fun w5 H locs Z => ?_)
  refine lv_if_eq (tgt := 30) hx hb dX6_ifCommitted_16 (by decide) (fun c7 => ?_) (fun c7 => ?_)
  · replace hm := (if_pos c7).symm.trans hm
    refine lv_iconst (v := (-1)) hx hb dX6_ifCommitted_30 (by decide) ?_
    obtain rfl := Option.some.inj hm
    exact kI _ _ _ _ _ _ (Nat.le_of_ble_eq_true rfl) (Nat.le_of_ble_eq_true rfl) rfl dX6_ifCommitted_31 Z (vp_nar_int _)
  · replace hm := (if_neg c7).symm.trans hm
    refine lv_aload_n hx hb dX6_ifCommitted_19 rfl (lv_at hl 0 rfl) ?_
    refine g_get (j := 0) (v := .ref (G.1 0)) X Z (oX6 k160) (iB6 _) rfl (by decide) rfl (List.mem_cons_of_mem _ mB385) rfl dX6_ifCommitted_20 ?_
    refine lv_iload_n hx hb dX6_ifCommitted_23 rfl (lv_at hl 1 rfl) ?_
    obtain ⟨r10, e8, hm⟩ := sBi_some hm
    refine g_callVI (n := 1) (As := [.int x1]) (rest := []) sameC X Z (cX2_commitOutcome_c l k0 e8) (oX2 k0) rfl (gooV mB451 mB452 mB453 mB43 mB193) rfl (by decide +kernel) rfl ⟨Nat.le_of_ble_eq_true rfl, Nat.le_of_ble_eq_true rfl⟩ ⟨Nat.le_of_ble_eq_true rfl, Nat.le_of_ble_eq_true rfl⟩ hl.1 rfl (Nat.le_of_ble_eq_true rfl) dX6_ifCommitted_24 (fun w9 H locs Z => ?_)
    refine lv_goto (tgt := 31) hx hb dX6_ifCommitted_27 (by decide) ?_
    obtain rfl := Option.some.inj hm
    exact kI _ _ _ _ _ _ (Nat.le_of_ble_eq_true rfl) (Nat.le_of_ble_eq_true rfl) rfl dX6_ifCommitted_31 Z (vp_nar_int _)
theorem cX6_ifCommitted_c (l : Launch) (hst : l.stackTraces = false) {G : LY} {g : Mem} {n : Nat} {x1 : Int32} {r : Nat × Int32} (hm : sX6_ifCommitted n g x1 = some r) : cXI l yX6_ifCommitted wmX6_ifCommitted 7 112 1 6 .int wC G [.ref (G.1 160), .int x1] g r.1 r.2 g :=
  mk_cXI sameC (by decide +kernel) rfl (Nat.le_of_ble_eq_true rfl) (fun p e s m args below meth c A Qc XC ls X hNX kI kT hl Z => bX6_ifCommitted_0 X hNX hst kI kT x1 _ _ ls Z hl hm)
abbrev wmX6_ticksToCommit : List Cond := Cond.code yX6_ticksToCommit cX6_ticksToCommit 3 (some .int) :: wA0
set_option maxHeartbeats 4000000 in
set_option maxRecDepth 100000 in
theorem bX6_ticksToCommit_0 (X : gC p s m args meth c cX6_ticksToCommit 3 wmX6_ticksToCommit yX6_ticksToCommit.cls (some .int) G A) {n : Nat} {g : Mem} {r : Nat × Int32} (hNX : ∀ x ∈ c.exceptionTable.toList, False) (hst : l.stackTraces = false) (kI : ∀ (pc : Nat) (ls : Array Slot) (H : Heap) (locs : List Loc) (cells slots : Nat), cells ≤ 1 → slots ≤ 6 → r.1 = 0 → decode cX6_ticksToCommit pc = .ok (.ireturn, 1) → WS wC G g A s.heap H locs → narrow .int (.int r.2) = .int r.2 → W p l e { frames := 7, cells := 1, slots := 6, locals := 111 } s m args below meth c H locs cells slots (vx_MQ below Qc XC args s 1 6 A) (F0 m pc ls [.int r.2])) (kT : r.1 ≠ 0 → gTh XC s wC G A r.1 g) : ∀ (x1 : Int32) (H : Heap) (locs : List Loc) (ls : Array Slot), WS wC G g A s.heap H locs → lv_has ls 3 [(0, .ref (G.1 160)), (1, .int x1)] → sX6_ticksToCommit n g x1 = some r → W p l e { frames := 7, cells := 1, slots := 6, locals := 111 } s m args below meth c H locs 0 0 (vx_MQ below Qc XC args s 1 6 A) (F0 m 0 ls []) := by
  have hx := X.1
  have hb := X.2.1
  intro x1 H locs ls Z hl hm
  unfold sX6_ticksToCommit at hm
  refine lv_aload_n hx hb dX6_ticksToCommit_0 rfl (lv_at hl 0 rfl) ?_
  refine lv_iload_n hx hb dX6_ticksToCommit_1 rfl (lv_at hl 1 rfl) ?_
  rcases sReq_some hm with ⟨e1, hm⟩ | ⟨ec2, c3, e1, hm⟩
  rotate_left
  · obtain rfl := Option.some.inj hm
    exact g_xcallT (n := 1) (As := [.int x1]) (rest := []) sameC X hNX Z c3 (cX6_requireTransaction_c l hst e1) (oX6 k160) rfl (gooV mB428 mB429 mB430 mB409 mB420) rfl (by decide +kernel) rfl ⟨Nat.le_of_ble_eq_true rfl, Nat.le_of_ble_eq_true rfl⟩ ⟨Nat.le_of_ble_eq_true rfl, Nat.le_of_ble_eq_true rfl⟩ ⟨Nat.le_of_ble_eq_true rfl, Nat.le_of_ble_eq_true rfl⟩ hl.1 rfl (Nat.le_of_ble_eq_true rfl) dX6_ticksToCommit_2 (kT c3)
  refine g_xcall0 (n := 1) (As := [.int x1]) (rest := []) (c1 := 1) (s1 := 6) sameC X Z (cX6_requireTransaction_c l hst e1) (oX6 k160) rfl (gooV mB428 mB429 mB430 mB409 mB420) rfl (by decide +kernel) rfl ⟨Nat.le_of_ble_eq_true rfl, Nat.le_of_ble_eq_true rfl⟩ rfl rfl ⟨Nat.le_of_ble_eq_true rfl, Nat.le_of_ble_eq_true rfl⟩ hl.1 rfl (Nat.le_of_ble_eq_true rfl) dX6_ticksToCommit_2 (fun H locs Z => ?_)
  refine lv_aload_n hx hb dX6_ticksToCommit_5 rfl (lv_at hl 0 rfl) ?_
  refine g_get (j := 0) (v := .ref (G.1 0)) X Z (oX6 k160) (iB6 _) rfl (by decide) rfl (List.mem_cons_of_mem _ mB385) rfl dX6_ticksToCommit_6 ?_
  refine g_get (j := 5) (v := .ref (G.1 (0 + 9))) X Z (oX2 k0) (iB2 _) rfl (by decide) rfl (List.mem_cons_of_mem _ mB421) rfl dX6_ticksToCommit_9 ?_
  refine g_get (j := 2) (v := .ref (G.1 ((0 + 9) + 2))) X Z (oX4 (k25 k0)) (iB4 _) rfl (by decide) rfl (List.mem_cons_of_mem _ mB549) rfl dX6_ticksToCommit_12 ?_
  refine lv_iload_n hx hb dX6_ticksToCommit_15 rfl (lv_at hl 1 rfl) ?_
  obtain ⟨b4, hm⟩ := sIdx_some hm
  refine g_iald X Z (aI (k42 (k25 k0))) b4 dX6_ticksToCommit_16 ?_
  refine lv_iconst (v := 2) hx hb dX6_ticksToCommit_17 (by decide) ?_
  refine lv_icmp_ne (tgt := 23) hx hb dX6_ticksToCommit_18 (by decide) (fun c5 => ?_) (fun c5 => ?_)
  · replace hm := (if_neg c5).symm.trans hm
    refine lv_aload_n hx hb dX6_ticksToCommit_23 rfl (lv_at hl 0 rfl) ?_
    refine g_get (j := 0) (v := .ref (G.1 0)) X Z (oX6 k160) (iB6 _) rfl (by decide) rfl (List.mem_cons_of_mem _ mB385) rfl dX6_ticksToCommit_24 ?_
    refine g_get (j := 5) (v := .ref (G.1 (0 + 9))) X Z (oX2 k0) (iB2 _) rfl (by decide) rfl (List.mem_cons_of_mem _ mB421) rfl dX6_ticksToCommit_27 ?_
    refine g_get (j := 2) (v := .ref (G.1 ((0 + 9) + 2))) X Z (oX4 (k25 k0)) (iB4 _) rfl (by decide) rfl (List.mem_cons_of_mem _ mB549) rfl dX6_ticksToCommit_30 ?_
    refine lv_iload_n hx hb dX6_ticksToCommit_33 rfl (lv_at hl 1 rfl) ?_
    obtain ⟨b6, hm⟩ := sIdx_some hm
    refine g_iald X Z (aI (k42 (k25 k0))) b6 dX6_ticksToCommit_34 ?_
    refine lv_iconst (v := 1) hx hb dX6_ticksToCommit_35 (by decide) ?_
    refine lv_icmp_eq (tgt := 41) hx hb dX6_ticksToCommit_36 (by decide) (fun c7 => ?_) (fun c7 => ?_)
    · replace hm := (if_pos c7).symm.trans hm
      refine lv_aload_n hx hb dX6_ticksToCommit_41 rfl (lv_at hl 0 rfl) ?_
      refine g_get (j := 0) (v := .ref (G.1 0)) X Z (oX6 k160) (iB6 _) rfl (by decide) rfl (List.mem_cons_of_mem _ mB385) rfl dX6_ticksToCommit_42 ?_
      refine lv_iload_n hx hb dX6_ticksToCommit_45 rfl (lv_at hl 1 rfl) ?_
      refine lv_sipush (v := 10000) hx hb dX6_ticksToCommit_46 (by decide) ?_
      obtain ⟨r10, e8, hm⟩ := sBi_some hm
      refine g_callVI (n := 2) (As := [.int x1, .int 10000]) (rest := []) sameC X Z (cX2_ticksUntilCommitted_c l k0 e8) (oX2 k0) rfl (gooV mB562 mB222 mB223 mB43 mB220) rfl (by decide +kernel) rfl ⟨Nat.le_of_ble_eq_true rfl, Nat.le_of_ble_eq_true rfl⟩ ⟨Nat.le_of_ble_eq_true rfl, Nat.le_of_ble_eq_true rfl⟩ hl.1 rfl (Nat.le_of_ble_eq_true rfl) dX6_ticksToCommit_49 (fun w9 H locs Z => ?_)
      refine lv_istore_n (lv' := [(2, .int r10), (0, .ref (G.1 160)), (1, .int x1)]) hx hb dX6_ticksToCommit_52 rfl hl (by decide) rfl (fun ls hl => ?_)
      refine lv_iload_n hx hb dX6_ticksToCommit_53 rfl (lv_at hl 0 rfl) ?_
      refine lv_sipush (v := 10000) hx hb dX6_ticksToCommit_54 (by decide) ?_
      refine lv_icmp_le (tgt := 64) hx hb dX6_ticksToCommit_57 (by decide) (fun c11 => ?_) (fun c11 => ?_)
      · replace hm := (if_pos c11).symm.trans hm
        refine lv_iload_n hx hb dX6_ticksToCommit_64 rfl (lv_at hl 0 rfl) ?_
        obtain rfl := Option.some.inj hm
        exact kI _ _ _ _ _ _ (Nat.le_of_ble_eq_true rfl) (Nat.le_of_ble_eq_true rfl) rfl dX6_ticksToCommit_65 Z (vp_nar_int _)
      · replace hm := (if_neg c11).symm.trans hm
        refine lv_iconst (v := (-1)) hx hb dX6_ticksToCommit_60 (by decide) ?_
        refine lv_goto (tgt := 65) hx hb dX6_ticksToCommit_61 (by decide) ?_
        obtain rfl := Option.some.inj hm
        exact kI _ _ _ _ _ _ (Nat.le_of_ble_eq_true rfl) (Nat.le_of_ble_eq_true rfl) rfl dX6_ticksToCommit_65 Z (vp_nar_int _)
    · replace hm := (if_neg c7).symm.trans hm
      refine lv_iconst (v := (-1)) hx hb dX6_ticksToCommit_39 (by decide) ?_
      obtain rfl := Option.some.inj hm
      exact kI _ _ _ _ _ _ (Nat.le_of_ble_eq_true rfl) (Nat.le_of_ble_eq_true rfl) rfl dX6_ticksToCommit_40 Z (vp_nar_int _)
  · replace hm := (if_pos c5).symm.trans hm
    refine lv_iconst (v := 0) hx hb dX6_ticksToCommit_21 (by decide) ?_
    obtain rfl := Option.some.inj hm
    exact kI _ _ _ _ _ _ (Nat.le_of_ble_eq_true rfl) (Nat.le_of_ble_eq_true rfl) rfl dX6_ticksToCommit_22 Z (vp_nar_int _)
theorem cX6_ticksToCommit_c (l : Launch) (hst : l.stackTraces = false) {G : LY} {g : Mem} {n : Nat} {x1 : Int32} {r : Nat × Int32} (hm : sX6_ticksToCommit n g x1 = some r) : cXI l yX6_ticksToCommit wmX6_ticksToCommit 7 111 1 6 .int wC G [.ref (G.1 160), .int x1] g r.1 r.2 g :=
  mk_cXI sameC (by decide +kernel) rfl (Nat.le_of_ble_eq_true rfl) (fun p e s m args below meth c A Qc XC ls X hNX kI kT hl Z => bX6_ticksToCommit_0 X hNX hst kI kT x1 _ _ ls Z hl hm)
abbrev wmX6_versions : List Cond := Cond.code yX6_versions cX6_versions 2 (some .int) :: wA0
set_option maxHeartbeats 4000000 in
set_option maxRecDepth 100000 in
theorem bX6_versions_0 (X : gC p s m args meth c cX6_versions 2 wmX6_versions yX6_versions.cls (some .int) G A) {g : Mem} {r : Nat × Int32} (hNX : ∀ x ∈ c.exceptionTable.toList, False) (hst : l.stackTraces = false) (kI : ∀ (pc : Nat) (ls : Array Slot) (H : Heap) (locs : List Loc) (cells slots : Nat), cells ≤ 1 → slots ≤ 6 → r.1 = 0 → decode cX6_versions pc = .ok (.ireturn, 1) → WS wC G g A s.heap H locs → narrow .int (.int r.2) = .int r.2 → W p l e { frames := 7, cells := 1, slots := 6, locals := 111 } s m args below meth c H locs cells slots (vx_MQ below Qc XC args s 1 6 A) (F0 m pc ls [.int r.2])) (kT : r.1 ≠ 0 → gTh XC s wC G A r.1 g) : ∀ (x1 : Int32) (H : Heap) (locs : List Loc) (ls : Array Slot), WS wC G g A s.heap H locs → lv_has ls 2 [(0, .ref (G.1 160)), (1, .int x1)] → sX6_versions g x1 = some r → W p l e { frames := 7, cells := 1, slots := 6, locals := 111 } s m args below meth c H locs 0 0 (vx_MQ below Qc XC args s 1 6 A) (F0 m 0 ls []) := by
  have hx := X.1
  have hb := X.2.1
  intro x1 H locs ls Z hl hm
  unfold sX6_versions at hm
  refine lv_aload_n hx hb dX6_versions_0 rfl (lv_at hl 0 rfl) ?_
  refine lv_iload_n hx hb dX6_versions_1 rfl (lv_at hl 1 rfl) ?_
  rcases sReq_some hm with ⟨e1, hm⟩ | ⟨ec2, c3, e1, hm⟩
  rotate_left
  · obtain rfl := Option.some.inj hm
    exact g_xcallT (n := 1) (As := [.int x1]) (rest := []) sameC X hNX Z c3 (cX6_requireKey_c l hst e1) (oX6 k160) rfl (gooV mB431 mB432 mB433 mB409 mB423) rfl (by decide +kernel) rfl ⟨Nat.le_of_ble_eq_true rfl, Nat.le_of_ble_eq_true rfl⟩ ⟨Nat.le_of_ble_eq_true rfl, Nat.le_of_ble_eq_true rfl⟩ ⟨Nat.le_of_ble_eq_true rfl, Nat.le_of_ble_eq_true rfl⟩ hl.1 rfl (Nat.le_of_ble_eq_true rfl) dX6_versions_2 (kT c3)
  refine g_xcall0 (n := 1) (As := [.int x1]) (rest := []) (c1 := 1) (s1 := 6) sameC X Z (cX6_requireKey_c l hst e1) (oX6 k160) rfl (gooV mB431 mB432 mB433 mB409 mB423) rfl (by decide +kernel) rfl ⟨Nat.le_of_ble_eq_true rfl, Nat.le_of_ble_eq_true rfl⟩ rfl rfl ⟨Nat.le_of_ble_eq_true rfl, Nat.le_of_ble_eq_true rfl⟩ hl.1 rfl (Nat.le_of_ble_eq_true rfl) dX6_versions_2 (fun H locs Z => ?_)
  refine lv_aload_n hx hb dX6_versions_5 rfl (lv_at hl 0 rfl) ?_
  refine g_get (j := 0) (v := .ref (G.1 0)) X Z (oX6 k160) (iB6 _) rfl (by decide) rfl (List.mem_cons_of_mem _ mB385) rfl dX6_versions_6 ?_
  refine g_get (j := 4) (v := .ref (G.1 (0 + 5))) X Z (oX2 k0) (iB2 _) rfl (by decide) rfl (List.mem_cons_of_mem _ mB485) rfl dX6_versions_9 ?_
  refine g_get (j := 0) (v := .ref (G.1 ((0 + 5) + 1))) X Z (oX5 (k24 k0)) (iB5 _) rfl (by decide) rfl (List.mem_cons_of_mem _ mB565) rfl dX6_versions_12 ?_
  refine lv_iload_n hx hb dX6_versions_15 rfl (lv_at hl 1 rfl) ?_
  obtain ⟨b4, hm⟩ := sIdx_some hm
  refine g_iald X Z (aI (k50 (k24 k0))) b4 dX6_versions_16 ?_
  obtain rfl := Option.some.inj hm
  exact kI _ _ _ _ _ _ (Nat.le_of_ble_eq_true rfl) (Nat.le_of_ble_eq_true rfl) rfl dX6_versions_17 Z (vp_nar_int _)
theorem cX6_versions_c (l : Launch) (hst : l.stackTraces = false) {G : LY} {g : Mem} {x1 : Int32} {r : Nat × Int32} (hm : sX6_versions g x1 = some r) : cXI l yX6_versions wmX6_versions 7 111 1 6 .int wC G [.ref (G.1 160), .int x1] g r.1 r.2 g :=
  mk_cXI sameC (by decide +kernel) rfl (Nat.le_of_ble_eq_true rfl) (fun p e s m args below meth c A Qc XC ls X hNX kI kT hl Z => bX6_versions_0 X hNX hst kI kT x1 _ _ ls Z hl hm)
abbrev wmX6_versionTimestamp : List Cond := Cond.code yX6_versionTimestamp cX6_versionTimestamp 3 (some .int) :: wA0
set_option maxHeartbeats 4000000 in
set_option maxRecDepth 100000 in
theorem bX6_versionTimestamp_0 (X : gC p s m args meth c cX6_versionTimestamp 3 wmX6_versionTimestamp yX6_versionTimestamp.cls (some .int) G A) {g : Mem} {r : Nat × Int32} (hNX : ∀ x ∈ c.exceptionTable.toList, False) (hst : l.stackTraces = false) (kI : ∀ (pc : Nat) (ls : Array Slot) (H : Heap) (locs : List Loc) (cells slots : Nat), cells ≤ 2 → slots ≤ 12 → r.1 = 0 → decode cX6_versionTimestamp pc = .ok (.ireturn, 1) → WS wC G g A s.heap H locs → narrow .int (.int r.2) = .int r.2 → W p l e { frames := 7, cells := 2, slots := 12, locals := 111 } s m args below meth c H locs cells slots (vx_MQ below Qc XC args s 2 12 A) (F0 m pc ls [.int r.2])) (kT : r.1 ≠ 0 → gTh XC s wC G A r.1 g) : ∀ (x1 : Int32) (x2 : Int32) (H : Heap) (locs : List Loc) (ls : Array Slot), WS wC G g A s.heap H locs → lv_has ls 3 [(0, .ref (G.1 160)), (1, .int x1), (2, .int x2)] → sX6_versionTimestamp g x1 x2 = some r → W p l e { frames := 7, cells := 2, slots := 12, locals := 111 } s m args below meth c H locs 0 0 (vx_MQ below Qc XC args s 2 12 A) (F0 m 0 ls []) := by
  have hx := X.1
  have hb := X.2.1
  intro x1 x2 H locs ls Z hl hm
  unfold sX6_versionTimestamp at hm
  refine lv_aload_n hx hb dX6_versionTimestamp_0 rfl (lv_at hl 0 rfl) ?_
  refine lv_iload_n hx hb dX6_versionTimestamp_1 rfl (lv_at hl 1 rfl) ?_
  rcases sReq_some hm with ⟨e1, hm⟩ | ⟨ec2, c3, e1, hm⟩
  rotate_left
  · obtain rfl := Option.some.inj hm
    exact g_xcallT (n := 1) (As := [.int x1]) (rest := []) sameC X hNX Z c3 (cX6_requireKey_c l hst e1) (oX6 k160) rfl (gooV mB431 mB432 mB433 mB409 mB423) rfl (by decide +kernel) rfl ⟨Nat.le_of_ble_eq_true rfl, Nat.le_of_ble_eq_true rfl⟩ ⟨Nat.le_of_ble_eq_true rfl, Nat.le_of_ble_eq_true rfl⟩ ⟨Nat.le_of_ble_eq_true rfl, Nat.le_of_ble_eq_true rfl⟩ hl.1 rfl (Nat.le_of_ble_eq_true rfl) dX6_versionTimestamp_2 (kT c3)
  refine g_xcall0 (n := 1) (As := [.int x1]) (rest := []) (c1 := 1) (s1 := 6) sameC X Z (cX6_requireKey_c l hst e1) (oX6 k160) rfl (gooV mB431 mB432 mB433 mB409 mB423) rfl (by decide +kernel) rfl ⟨Nat.le_of_ble_eq_true rfl, Nat.le_of_ble_eq_true rfl⟩ rfl rfl ⟨Nat.le_of_ble_eq_true rfl, Nat.le_of_ble_eq_true rfl⟩ hl.1 rfl (Nat.le_of_ble_eq_true rfl) dX6_versionTimestamp_2 (fun H locs Z => ?_)
  refine lv_iload_n hx hb dX6_versionTimestamp_5 rfl (lv_at hl 2 rfl) ?_
  refine lv_if_lt (tgt := 25) hx hb dX6_versionTimestamp_6 (by decide) (fun c4 => ?_) (fun c4 => ?_)
  · replace hm := (if_pos c4).symm.trans hm
    obtain rfl := Option.some.inj hm
    exact g_throwW (ec := 1) (text := "there is no such version") (names := ["java/lang/RuntimeException", "java/lang/Exception"]) X hNX hst Z hl.1 rfl thfI thn (List.mem_cons_of_mem _ mB402) (List.mem_cons_of_mem _ mB403) (by decide) (fun w h => List.mem_cons_of_mem _ (iAtI w h)) (by decide) thbI thgI_254 dX6_versionTimestamp_25 dX6_versionTimestamp_28 dX6_versionTimestamp_29 dX6_versionTimestamp_32 dX6_versionTimestamp_35 ⟨Nat.le_of_ble_eq_true rfl, Nat.le_of_ble_eq_true rfl, Nat.le_of_ble_eq_true rfl, Nat.le_of_ble_eq_true rfl⟩ ⟨Nat.le_of_ble_eq_true rfl, Nat.le_of_ble_eq_true rfl⟩ (kT th1)
  · replace hm := (if_neg c4).symm.trans hm
    refine lv_iload_n hx hb dX6_versionTimestamp_9 rfl (lv_at hl 2 rfl) ?_
    refine lv_aload_n hx hb dX6_versionTimestamp_10 rfl (lv_at hl 0 rfl) ?_
    refine g_get (j := 0) (v := .ref (G.1 0)) X Z (oX6 k160) (iB6 _) rfl (by decide) rfl (List.mem_cons_of_mem _ mB385) rfl dX6_versionTimestamp_11 ?_
    refine g_get (j := 4) (v := .ref (G.1 (0 + 5))) X Z (oX2 k0) (iB2 _) rfl (by decide) rfl (List.mem_cons_of_mem _ mB485) rfl dX6_versionTimestamp_14 ?_
    refine g_get (j := 0) (v := .ref (G.1 ((0 + 5) + 1))) X Z (oX5 (k24 k0)) (iB5 _) rfl (by decide) rfl (List.mem_cons_of_mem _ mB565) rfl dX6_versionTimestamp_17 ?_
    refine lv_iload_n hx hb dX6_versionTimestamp_20 rfl (lv_at hl 1 rfl) ?_
    obtain ⟨b5, hm⟩ := sIdx_some hm
    refine g_iald X Z (aI (k50 (k24 k0))) b5 dX6_versionTimestamp_21 ?_
    refine lv_icmp_lt (tgt := 36) hx hb dX6_versionTimestamp_22 (by decide) (fun c6 => ?_) (fun c6 => ?_)
    · replace hm := (if_pos c6).symm.trans hm
      refine lv_aload_n hx hb dX6_versionTimestamp_36 rfl (lv_at hl 0 rfl) ?_
      refine g_get (j := 0) (v := .ref (G.1 0)) X Z (oX6 k160) (iB6 _) rfl (by decide) rfl (List.mem_cons_of_mem _ mB385) rfl dX6_versionTimestamp_37 ?_
      refine g_get (j := 4) (v := .ref (G.1 (0 + 5))) X Z (oX2 k0) (iB2 _) rfl (by decide) rfl (List.mem_cons_of_mem _ mB485) rfl dX6_versionTimestamp_40 ?_
      refine lv_iload_n hx hb dX6_versionTimestamp_43 rfl (lv_at hl 1 rfl) ?_
      refine lv_iload_n hx hb dX6_versionTimestamp_44 rfl (lv_at hl 2 rfl) ?_
      obtain ⟨r9, e7, hm⟩ := sBi_some hm
      refine g_callVI (n := 2) (As := [.int x1, .int x2]) (rest := []) sameC X Z (cX5_timestampOf_c l (k24 k0) e7) (oX5 (k24 k0)) rfl (gooV mB559 mB188 mB189 mB26 mB173) rfl (by decide +kernel) rfl ⟨Nat.le_of_ble_eq_true rfl, Nat.le_of_ble_eq_true rfl⟩ ⟨Nat.le_of_ble_eq_true rfl, Nat.le_of_ble_eq_true rfl⟩ hl.1 rfl (Nat.le_of_ble_eq_true rfl) dX6_versionTimestamp_45 (fun w8 H locs Z => ?_)
      obtain rfl := Option.some.inj hm
      exact kI _ _ _ _ _ _ (Nat.le_of_ble_eq_true rfl) (Nat.le_of_ble_eq_true rfl) rfl dX6_versionTimestamp_48 Z (vp_nar_int _)
    · replace hm := (if_neg c6).symm.trans hm
      obtain rfl := Option.some.inj hm
      exact g_throwW (ec := 1) (text := "there is no such version") (names := ["java/lang/RuntimeException", "java/lang/Exception"]) X hNX hst Z hl.1 rfl thfI thn (List.mem_cons_of_mem _ mB402) (List.mem_cons_of_mem _ mB403) (by decide) (fun w h => List.mem_cons_of_mem _ (iAtI w h)) (by decide) thbI thgI_254 dX6_versionTimestamp_25 dX6_versionTimestamp_28 dX6_versionTimestamp_29 dX6_versionTimestamp_32 dX6_versionTimestamp_35 ⟨Nat.le_of_ble_eq_true rfl, Nat.le_of_ble_eq_true rfl, Nat.le_of_ble_eq_true rfl, Nat.le_of_ble_eq_true rfl⟩ ⟨Nat.le_of_ble_eq_true rfl, Nat.le_of_ble_eq_true rfl⟩ (kT th1)
theorem cX6_versionTimestamp_c (l : Launch) (hst : l.stackTraces = false) {G : LY} {g : Mem} {x1 : Int32} {x2 : Int32} {r : Nat × Int32} (hm : sX6_versionTimestamp g x1 x2 = some r) : cXI l yX6_versionTimestamp wmX6_versionTimestamp 7 111 2 12 .int wC G [.ref (G.1 160), .int x1, .int x2] g r.1 r.2 g :=
  mk_cXI sameC (by decide +kernel) rfl (Nat.le_of_ble_eq_true rfl) (fun p e s m args below meth c A Qc XC ls X hNX kI kT hl Z => bX6_versionTimestamp_0 X hNX hst kI kT x1 x2 _ _ ls Z hl hm)
abbrev wmX6_valueAt : List Cond := Cond.code yX6_valueAt cX6_valueAt 3 (some .int) :: wA0
set_option maxHeartbeats 4000000 in
set_option maxRecDepth 100000 in
theorem bX6_valueAt_0 (X : gC p s m args meth c cX6_valueAt 3 wmX6_valueAt yX6_valueAt.cls (some .int) G A) {n : Nat} {g : Mem} {r : Nat × Int32} (hNX : ∀ x ∈ c.exceptionTable.toList, False) (hst : l.stackTraces = false) (kI : ∀ (pc : Nat) (ls : Array Slot) (H : Heap) (locs : List Loc) (cells slots : Nat), cells ≤ 2 → slots ≤ 12 → r.1 = 0 → decode cX6_valueAt pc = .ok (.ireturn, 1) → WS wC G g A s.heap H locs → narrow .int (.int r.2) = .int r.2 → W p l e { frames := 7, cells := 2, slots := 12, locals := 111 } s m args below meth c H locs cells slots (vx_MQ below Qc XC args s 2 12 A) (F0 m pc ls [.int r.2])) (kT : r.1 ≠ 0 → gTh XC s wC G A r.1 g) : ∀ (x1 : Int32) (x2 : Int32) (H : Heap) (locs : List Loc) (ls : Array Slot), WS wC G g A s.heap H locs → lv_has ls 3 [(0, .ref (G.1 160)), (1, .int x1), (2, .int x2)] → sX6_valueAt n g x1 x2 = some r → W p l e { frames := 7, cells := 2, slots := 12, locals := 111 } s m args below meth c H locs 0 0 (vx_MQ below Qc XC args s 2 12 A) (F0 m 0 ls []) := by
  have hx := X.1
  have hb := X.2.1
  intro x1 x2 H locs ls Z hl hm
  unfold sX6_valueAt at hm
  refine lv_aload_n hx hb dX6_valueAt_0 rfl (lv_at hl 0 rfl) ?_
  refine lv_iload_n hx hb dX6_valueAt_1 rfl (lv_at hl 1 rfl) ?_
  rcases sReq_some hm with ⟨e1, hm⟩ | ⟨ec2, c3, e1, hm⟩
  rotate_left
  · obtain rfl := Option.some.inj hm
    exact g_xcallT (n := 1) (As := [.int x1]) (rest := []) sameC X hNX Z c3 (cX6_requireKey_c l hst e1) (oX6 k160) rfl (gooV mB431 mB432 mB433 mB409 mB423) rfl (by decide +kernel) rfl ⟨Nat.le_of_ble_eq_true rfl, Nat.le_of_ble_eq_true rfl⟩ ⟨Nat.le_of_ble_eq_true rfl, Nat.le_of_ble_eq_true rfl⟩ ⟨Nat.le_of_ble_eq_true rfl, Nat.le_of_ble_eq_true rfl⟩ hl.1 rfl (Nat.le_of_ble_eq_true rfl) dX6_valueAt_2 (kT c3)
  refine g_xcall0 (n := 1) (As := [.int x1]) (rest := []) (c1 := 1) (s1 := 6) sameC X Z (cX6_requireKey_c l hst e1) (oX6 k160) rfl (gooV mB431 mB432 mB433 mB409 mB423) rfl (by decide +kernel) rfl ⟨Nat.le_of_ble_eq_true rfl, Nat.le_of_ble_eq_true rfl⟩ rfl rfl ⟨Nat.le_of_ble_eq_true rfl, Nat.le_of_ble_eq_true rfl⟩ hl.1 rfl (Nat.le_of_ble_eq_true rfl) dX6_valueAt_2 (fun H locs Z => ?_)
  refine lv_aload_n hx hb dX6_valueAt_5 rfl (lv_at hl 0 rfl) ?_
  refine lv_iload_n hx hb dX6_valueAt_6 rfl (lv_at hl 2 rfl) ?_
  rcases sReq_some hm with ⟨e4, hm⟩ | ⟨ec5, c6, e4, hm⟩
  rotate_left
  · obtain rfl := Option.some.inj hm
    exact g_xcallT (n := 1) (As := [.int x2]) (rest := []) sameC X hNX Z c6 (cX6_requireNotNegative_c l hst e4) (oX6 k160) rfl (gooV mB486 mB487 mB488 mB409 mB482) rfl (by decide +kernel) rfl ⟨Nat.le_of_ble_eq_true rfl, Nat.le_of_ble_eq_true rfl⟩ ⟨Nat.le_of_ble_eq_true rfl, Nat.le_of_ble_eq_true rfl⟩ ⟨Nat.le_of_ble_eq_true rfl, Nat.le_of_ble_eq_true rfl⟩ hl.1 rfl (Nat.le_of_ble_eq_true rfl) dX6_valueAt_7 (kT c6)
  refine g_xcall0 (n := 1) (As := [.int x2]) (rest := []) (c1 := 2) (s1 := 12) sameC X Z (cX6_requireNotNegative_c l hst e4) (oX6 k160) rfl (gooV mB486 mB487 mB488 mB409 mB482) rfl (by decide +kernel) rfl ⟨Nat.le_of_ble_eq_true rfl, Nat.le_of_ble_eq_true rfl⟩ rfl rfl ⟨Nat.le_of_ble_eq_true rfl, Nat.le_of_ble_eq_true rfl⟩ hl.1 rfl (Nat.le_of_ble_eq_true rfl) dX6_valueAt_7 (fun H locs Z => ?_)
  refine lv_aload_n hx hb dX6_valueAt_10 rfl (lv_at hl 0 rfl) ?_
  refine g_get (j := 0) (v := .ref (G.1 0)) X Z (oX6 k160) (iB6 _) rfl (by decide) rfl (List.mem_cons_of_mem _ mB385) rfl dX6_valueAt_11 ?_
  refine g_get (j := 4) (v := .ref (G.1 (0 + 5))) X Z (oX2 k0) (iB2 _) rfl (by decide) rfl (List.mem_cons_of_mem _ mB485) rfl dX6_valueAt_14 ?_
  refine lv_iload_n hx hb dX6_valueAt_17 rfl (lv_at hl 1 rfl) ?_
  refine lv_iload_n hx hb dX6_valueAt_18 rfl (lv_at hl 2 rfl) ?_
  obtain ⟨r9, e7, hm⟩ := sBi_some hm
  refine g_callVI (n := 2) (As := [.int x1, .int x2]) (rest := []) sameC X Z (cX5_valueOf_c l (k24 k0) e7) (oX5 (k24 k0)) rfl (gooV mB492 mB493 mB494 mB26 mB379) rfl (by decide +kernel) rfl ⟨Nat.le_of_ble_eq_true rfl, Nat.le_of_ble_eq_true rfl⟩ ⟨Nat.le_of_ble_eq_true rfl, Nat.le_of_ble_eq_true rfl⟩ hl.1 rfl (Nat.le_of_ble_eq_true rfl) dX6_valueAt_19 (fun w8 H locs Z => ?_)
  obtain rfl := Option.some.inj hm
  exact kI _ _ _ _ _ _ (Nat.le_of_ble_eq_true rfl) (Nat.le_of_ble_eq_true rfl) rfl dX6_valueAt_22 Z (vp_nar_int _)
theorem cX6_valueAt_c (l : Launch) (hst : l.stackTraces = false) {G : LY} {g : Mem} {n : Nat} {x1 : Int32} {x2 : Int32} {r : Nat × Int32} (hm : sX6_valueAt n g x1 x2 = some r) : cXI l yX6_valueAt wmX6_valueAt 7 111 2 12 .int wC G [.ref (G.1 160), .int x1, .int x2] g r.1 r.2 g :=
  mk_cXI sameC (by decide +kernel) rfl (Nat.le_of_ble_eq_true rfl) (fun p e s m args below meth c A Qc XC ls X hNX kI kT hl Z => bX6_valueAt_0 X hNX hst kI kT x1 x2 _ _ ls Z hl hm)
abbrev wmX6_replayedValueAt : List Cond := Cond.code yX6_replayedValueAt cX6_replayedValueAt 3 (some .int) :: wA0
set_option maxHeartbeats 4000000 in
set_option maxRecDepth 100000 in
theorem bX6_replayedValueAt_0 (X : gC p s m args meth c cX6_replayedValueAt 3 wmX6_replayedValueAt yX6_replayedValueAt.cls (some .int) G A) {n : Nat} {g : Mem} {r : Nat × Int32} (hNX : ∀ x ∈ c.exceptionTable.toList, False) (hst : l.stackTraces = false) (kI : ∀ (pc : Nat) (ls : Array Slot) (H : Heap) (locs : List Loc) (cells slots : Nat), cells ≤ 2 → slots ≤ 12 → r.1 = 0 → decode cX6_replayedValueAt pc = .ok (.ireturn, 1) → WS wC G g A s.heap H locs → narrow .int (.int r.2) = .int r.2 → W p l e { frames := 7, cells := 2, slots := 12, locals := 111 } s m args below meth c H locs cells slots (vx_MQ below Qc XC args s 2 12 A) (F0 m pc ls [.int r.2])) (kT : r.1 ≠ 0 → gTh XC s wC G A r.1 g) : ∀ (x1 : Int32) (x2 : Int32) (H : Heap) (locs : List Loc) (ls : Array Slot), WS wC G g A s.heap H locs → lv_has ls 3 [(0, .ref (G.1 160)), (1, .int x1), (2, .int x2)] → sX6_replayedValueAt n g x1 x2 = some r → W p l e { frames := 7, cells := 2, slots := 12, locals := 111 } s m args below meth c H locs 0 0 (vx_MQ below Qc XC args s 2 12 A) (F0 m 0 ls []) := by
  have hx := X.1
  have hb := X.2.1
  intro x1 x2 H locs ls Z hl hm
  unfold sX6_replayedValueAt at hm
  refine lv_aload_n hx hb dX6_replayedValueAt_0 rfl (lv_at hl 0 rfl) ?_
  refine lv_iload_n hx hb dX6_replayedValueAt_1 rfl (lv_at hl 1 rfl) ?_
  rcases sReq_some hm with ⟨e1, hm⟩ | ⟨ec2, c3, e1, hm⟩
  rotate_left
  · obtain rfl := Option.some.inj hm
    exact g_xcallT (n := 1) (As := [.int x1]) (rest := []) sameC X hNX Z c3 (cX6_requireKey_c l hst e1) (oX6 k160) rfl (gooV mB431 mB432 mB433 mB409 mB423) rfl (by decide +kernel) rfl ⟨Nat.le_of_ble_eq_true rfl, Nat.le_of_ble_eq_true rfl⟩ ⟨Nat.le_of_ble_eq_true rfl, Nat.le_of_ble_eq_true rfl⟩ ⟨Nat.le_of_ble_eq_true rfl, Nat.le_of_ble_eq_true rfl⟩ hl.1 rfl (Nat.le_of_ble_eq_true rfl) dX6_replayedValueAt_2 (kT c3)
  refine g_xcall0 (n := 1) (As := [.int x1]) (rest := []) (c1 := 1) (s1 := 6) sameC X Z (cX6_requireKey_c l hst e1) (oX6 k160) rfl (gooV mB431 mB432 mB433 mB409 mB423) rfl (by decide +kernel) rfl ⟨Nat.le_of_ble_eq_true rfl, Nat.le_of_ble_eq_true rfl⟩ rfl rfl ⟨Nat.le_of_ble_eq_true rfl, Nat.le_of_ble_eq_true rfl⟩ hl.1 rfl (Nat.le_of_ble_eq_true rfl) dX6_replayedValueAt_2 (fun H locs Z => ?_)
  refine lv_aload_n hx hb dX6_replayedValueAt_5 rfl (lv_at hl 0 rfl) ?_
  refine lv_iload_n hx hb dX6_replayedValueAt_6 rfl (lv_at hl 2 rfl) ?_
  rcases sReq_some hm with ⟨e4, hm⟩ | ⟨ec5, c6, e4, hm⟩
  rotate_left
  · obtain rfl := Option.some.inj hm
    exact g_xcallT (n := 1) (As := [.int x2]) (rest := []) sameC X hNX Z c6 (cX6_requireNotNegative_c l hst e4) (oX6 k160) rfl (gooV mB486 mB487 mB488 mB409 mB482) rfl (by decide +kernel) rfl ⟨Nat.le_of_ble_eq_true rfl, Nat.le_of_ble_eq_true rfl⟩ ⟨Nat.le_of_ble_eq_true rfl, Nat.le_of_ble_eq_true rfl⟩ ⟨Nat.le_of_ble_eq_true rfl, Nat.le_of_ble_eq_true rfl⟩ hl.1 rfl (Nat.le_of_ble_eq_true rfl) dX6_replayedValueAt_7 (kT c6)
  refine g_xcall0 (n := 1) (As := [.int x2]) (rest := []) (c1 := 2) (s1 := 12) sameC X Z (cX6_requireNotNegative_c l hst e4) (oX6 k160) rfl (gooV mB486 mB487 mB488 mB409 mB482) rfl (by decide +kernel) rfl ⟨Nat.le_of_ble_eq_true rfl, Nat.le_of_ble_eq_true rfl⟩ rfl rfl ⟨Nat.le_of_ble_eq_true rfl, Nat.le_of_ble_eq_true rfl⟩ hl.1 rfl (Nat.le_of_ble_eq_true rfl) dX6_replayedValueAt_7 (fun H locs Z => ?_)
  refine lv_aload_n hx hb dX6_replayedValueAt_10 rfl (lv_at hl 0 rfl) ?_
  refine g_get (j := 0) (v := .ref (G.1 0)) X Z (oX6 k160) (iB6 _) rfl (by decide) rfl (List.mem_cons_of_mem _ mB385) rfl dX6_replayedValueAt_11 ?_
  refine g_get (j := 5) (v := .ref (G.1 (0 + 9))) X Z (oX2 k0) (iB2 _) rfl (by decide) rfl (List.mem_cons_of_mem _ mB421) rfl dX6_replayedValueAt_14 ?_
  refine lv_iload_n hx hb dX6_replayedValueAt_17 rfl (lv_at hl 1 rfl) ?_
  refine lv_iload_n hx hb dX6_replayedValueAt_18 rfl (lv_at hl 2 rfl) ?_
  obtain ⟨r9, e7, hm⟩ := sBi_some hm
  refine g_callVI (n := 2) (As := [.int x1, .int x2]) (rest := []) sameC X Z (cX4_replay_c l (k25 k0) e7) (oX4 (k25 k0)) rfl (gooV mB568 mB569 mB570 mB30 mB370) rfl (by decide +kernel) rfl ⟨Nat.le_of_ble_eq_true rfl, Nat.le_of_ble_eq_true rfl⟩ ⟨Nat.le_of_ble_eq_true rfl, Nat.le_of_ble_eq_true rfl⟩ hl.1 rfl (Nat.le_of_ble_eq_true rfl) dX6_replayedValueAt_19 (fun w8 H locs Z => ?_)
  obtain rfl := Option.some.inj hm
  exact kI _ _ _ _ _ _ (Nat.le_of_ble_eq_true rfl) (Nat.le_of_ble_eq_true rfl) rfl dX6_replayedValueAt_22 Z (vp_nar_int _)
theorem cX6_replayedValueAt_c (l : Launch) (hst : l.stackTraces = false) {G : LY} {g : Mem} {n : Nat} {x1 : Int32} {x2 : Int32} {r : Nat × Int32} (hm : sX6_replayedValueAt n g x1 x2 = some r) : cXI l yX6_replayedValueAt wmX6_replayedValueAt 7 111 2 12 .int wC G [.ref (G.1 160), .int x1, .int x2] g r.1 r.2 g :=
  mk_cXI sameC (by decide +kernel) rfl (Nat.le_of_ble_eq_true rfl) (fun p e s m args below meth c A Qc XC ls X hNX kI kT hl Z => bX6_replayedValueAt_0 X hNX hst kI kT x1 x2 _ _ ls Z hl hm)
abbrev wmX6_waitingWriter : List Cond := Cond.code yX6_waitingWriter cX6_waitingWriter 2 (some .int) :: wA0
set_option maxHeartbeats 4000000 in
set_option maxRecDepth 100000 in
theorem bX6_waitingWriter_0 (X : gC p s m args meth c cX6_waitingWriter 2 wmX6_waitingWriter yX6_waitingWriter.cls (some .int) G A) {n : Nat} {g : Mem} {r : Nat × Int32} (hNX : ∀ x ∈ c.exceptionTable.toList, False) (hst : l.stackTraces = false) (kI : ∀ (pc : Nat) (ls : Array Slot) (H : Heap) (locs : List Loc) (cells slots : Nat), cells ≤ 1 → slots ≤ 6 → r.1 = 0 → decode cX6_waitingWriter pc = .ok (.ireturn, 1) → WS wC G g A s.heap H locs → narrow .int (.int r.2) = .int r.2 → W p l e { frames := 7, cells := 1, slots := 6, locals := 111 } s m args below meth c H locs cells slots (vx_MQ below Qc XC args s 1 6 A) (F0 m pc ls [.int r.2])) (kT : r.1 ≠ 0 → gTh XC s wC G A r.1 g) : ∀ (x1 : Int32) (H : Heap) (locs : List Loc) (ls : Array Slot), WS wC G g A s.heap H locs → lv_has ls 2 [(0, .ref (G.1 160)), (1, .int x1)] → sX6_waitingWriter n g x1 = some r → W p l e { frames := 7, cells := 1, slots := 6, locals := 111 } s m args below meth c H locs 0 0 (vx_MQ below Qc XC args s 1 6 A) (F0 m 0 ls []) := by
  have hx := X.1
  have hb := X.2.1
  intro x1 H locs ls Z hl hm
  unfold sX6_waitingWriter at hm
  refine lv_aload_n hx hb dX6_waitingWriter_0 rfl (lv_at hl 0 rfl) ?_
  refine lv_iload_n hx hb dX6_waitingWriter_1 rfl (lv_at hl 1 rfl) ?_
  rcases sReq_some hm with ⟨e1, hm⟩ | ⟨ec2, c3, e1, hm⟩
  rotate_left
  · obtain rfl := Option.some.inj hm
    exact g_xcallT (n := 1) (As := [.int x1]) (rest := []) sameC X hNX Z c3 (cX6_requireKey_c l hst e1) (oX6 k160) rfl (gooV mB431 mB432 mB433 mB409 mB423) rfl (by decide +kernel) rfl ⟨Nat.le_of_ble_eq_true rfl, Nat.le_of_ble_eq_true rfl⟩ ⟨Nat.le_of_ble_eq_true rfl, Nat.le_of_ble_eq_true rfl⟩ ⟨Nat.le_of_ble_eq_true rfl, Nat.le_of_ble_eq_true rfl⟩ hl.1 rfl (Nat.le_of_ble_eq_true rfl) dX6_waitingWriter_2 (kT c3)
  refine g_xcall0 (n := 1) (As := [.int x1]) (rest := []) (c1 := 1) (s1 := 6) sameC X Z (cX6_requireKey_c l hst e1) (oX6 k160) rfl (gooV mB431 mB432 mB433 mB409 mB423) rfl (by decide +kernel) rfl ⟨Nat.le_of_ble_eq_true rfl, Nat.le_of_ble_eq_true rfl⟩ rfl rfl ⟨Nat.le_of_ble_eq_true rfl, Nat.le_of_ble_eq_true rfl⟩ hl.1 rfl (Nat.le_of_ble_eq_true rfl) dX6_waitingWriter_2 (fun H locs Z => ?_)
  refine lv_aload_n hx hb dX6_waitingWriter_5 rfl (lv_at hl 0 rfl) ?_
  refine g_get (j := 0) (v := .ref (G.1 0)) X Z (oX6 k160) (iB6 _) rfl (by decide) rfl (List.mem_cons_of_mem _ mB385) rfl dX6_waitingWriter_6 ?_
  refine g_get (j := 5) (v := .ref (G.1 (0 + 9))) X Z (oX2 k0) (iB2 _) rfl (by decide) rfl (List.mem_cons_of_mem _ mB421) rfl dX6_waitingWriter_9 ?_
  refine lv_iload_n hx hb dX6_waitingWriter_12 rfl (lv_at hl 1 rfl) ?_
  obtain ⟨r6, e4, hm⟩ := sBi_some hm
  refine g_callVI (n := 1) (As := [.int x1]) (rest := []) sameC X Z (cX4_findWaitingWriter_c l (k25 k0) e4) (oX4 (k25 k0)) rfl (gooV mB573 mB574 mB575 mB30 mB369) rfl (by decide +kernel) rfl ⟨Nat.le_of_ble_eq_true rfl, Nat.le_of_ble_eq_true rfl⟩ ⟨Nat.le_of_ble_eq_true rfl, Nat.le_of_ble_eq_true rfl⟩ hl.1 rfl (Nat.le_of_ble_eq_true rfl) dX6_waitingWriter_13 (fun w5 H locs Z => ?_)
  obtain rfl := Option.some.inj hm
  exact kI _ _ _ _ _ _ (Nat.le_of_ble_eq_true rfl) (Nat.le_of_ble_eq_true rfl) rfl dX6_waitingWriter_16 Z (vp_nar_int _)
theorem cX6_waitingWriter_c (l : Launch) (hst : l.stackTraces = false) {G : LY} {g : Mem} {n : Nat} {x1 : Int32} {r : Nat × Int32} (hm : sX6_waitingWriter n g x1 = some r) : cXI l yX6_waitingWriter wmX6_waitingWriter 7 111 1 6 .int wC G [.ref (G.1 160), .int x1] g r.1 r.2 g :=
  mk_cXI sameC (by decide +kernel) rfl (Nat.le_of_ble_eq_true rfl) (fun p e s m args below meth c A Qc XC ls X hNX kI kT hl Z => bX6_waitingWriter_0 X hNX hst kI kT x1 _ _ ls Z hl hm)
abbrev wmX6_readerMark : List Cond := Cond.code yX6_readerMark cX6_readerMark 2 (some .int) :: wA0
set_option maxHeartbeats 4000000 in
set_option maxRecDepth 100000 in
theorem bX6_readerMark_0 (X : gC p s m args meth c cX6_readerMark 2 wmX6_readerMark yX6_readerMark.cls (some .int) G A) {n : Nat} {g : Mem} {r : Nat × Int32} (hNX : ∀ x ∈ c.exceptionTable.toList, False) (hst : l.stackTraces = false) (kI : ∀ (pc : Nat) (ls : Array Slot) (H : Heap) (locs : List Loc) (cells slots : Nat), cells ≤ 1 → slots ≤ 6 → r.1 = 0 → decode cX6_readerMark pc = .ok (.ireturn, 1) → WS wC G g A s.heap H locs → narrow .int (.int r.2) = .int r.2 → W p l e { frames := 7, cells := 1, slots := 6, locals := 111 } s m args below meth c H locs cells slots (vx_MQ below Qc XC args s 1 6 A) (F0 m pc ls [.int r.2])) (kT : r.1 ≠ 0 → gTh XC s wC G A r.1 g) : ∀ (x1 : Int32) (H : Heap) (locs : List Loc) (ls : Array Slot), WS wC G g A s.heap H locs → lv_has ls 2 [(0, .ref (G.1 160)), (1, .int x1)] → sX6_readerMark n g x1 = some r → W p l e { frames := 7, cells := 1, slots := 6, locals := 111 } s m args below meth c H locs 0 0 (vx_MQ below Qc XC args s 1 6 A) (F0 m 0 ls []) := by
  have hx := X.1
  have hb := X.2.1
  intro x1 H locs ls Z hl hm
  unfold sX6_readerMark at hm
  refine lv_aload_n hx hb dX6_readerMark_0 rfl (lv_at hl 0 rfl) ?_
  refine lv_iload_n hx hb dX6_readerMark_1 rfl (lv_at hl 1 rfl) ?_
  rcases sReq_some hm with ⟨e1, hm⟩ | ⟨ec2, c3, e1, hm⟩
  rotate_left
  · obtain rfl := Option.some.inj hm
    exact g_xcallT (n := 1) (As := [.int x1]) (rest := []) sameC X hNX Z c3 (cX6_requireKey_c l hst e1) (oX6 k160) rfl (gooV mB431 mB432 mB433 mB409 mB423) rfl (by decide +kernel) rfl ⟨Nat.le_of_ble_eq_true rfl, Nat.le_of_ble_eq_true rfl⟩ ⟨Nat.le_of_ble_eq_true rfl, Nat.le_of_ble_eq_true rfl⟩ ⟨Nat.le_of_ble_eq_true rfl, Nat.le_of_ble_eq_true rfl⟩ hl.1 rfl (Nat.le_of_ble_eq_true rfl) dX6_readerMark_2 (kT c3)
  refine g_xcall0 (n := 1) (As := [.int x1]) (rest := []) (c1 := 1) (s1 := 6) sameC X Z (cX6_requireKey_c l hst e1) (oX6 k160) rfl (gooV mB431 mB432 mB433 mB409 mB423) rfl (by decide +kernel) rfl ⟨Nat.le_of_ble_eq_true rfl, Nat.le_of_ble_eq_true rfl⟩ rfl rfl ⟨Nat.le_of_ble_eq_true rfl, Nat.le_of_ble_eq_true rfl⟩ hl.1 rfl (Nat.le_of_ble_eq_true rfl) dX6_readerMark_2 (fun H locs Z => ?_)
  refine lv_aload_n hx hb dX6_readerMark_5 rfl (lv_at hl 0 rfl) ?_
  refine g_get (j := 0) (v := .ref (G.1 0)) X Z (oX6 k160) (iB6 _) rfl (by decide) rfl (List.mem_cons_of_mem _ mB385) rfl dX6_readerMark_6 ?_
  refine g_get (j := 5) (v := .ref (G.1 (0 + 9))) X Z (oX2 k0) (iB2 _) rfl (by decide) rfl (List.mem_cons_of_mem _ mB421) rfl dX6_readerMark_9 ?_
  refine lv_iload_n hx hb dX6_readerMark_12 rfl (lv_at hl 1 rfl) ?_
  obtain ⟨r6, e4, hm⟩ := sBi_some hm
  refine g_callVI (n := 1) (As := [.int x1]) (rest := []) sameC X Z (cX4_greatestReaderTimestamp_c l (k25 k0) e4) (oX4 (k25 k0)) rfl (gooV mB576 mB191 mB192 mB30 mB174) rfl (by decide +kernel) rfl ⟨Nat.le_of_ble_eq_true rfl, Nat.le_of_ble_eq_true rfl⟩ ⟨Nat.le_of_ble_eq_true rfl, Nat.le_of_ble_eq_true rfl⟩ hl.1 rfl (Nat.le_of_ble_eq_true rfl) dX6_readerMark_13 (fun w5 H locs Z => ?_)
  obtain rfl := Option.some.inj hm
  exact kI _ _ _ _ _ _ (Nat.le_of_ble_eq_true rfl) (Nat.le_of_ble_eq_true rfl) rfl dX6_readerMark_16 Z (vp_nar_int _)
theorem cX6_readerMark_c (l : Launch) (hst : l.stackTraces = false) {G : LY} {g : Mem} {n : Nat} {x1 : Int32} {r : Nat × Int32} (hm : sX6_readerMark n g x1 = some r) : cXI l yX6_readerMark wmX6_readerMark 7 111 1 6 .int wC G [.ref (G.1 160), .int x1] g r.1 r.2 g :=
  mk_cXI sameC (by decide +kernel) rfl (Nat.le_of_ble_eq_true rfl) (fun p e s m args below meth c A Qc XC ls X hNX kI kT hl Z => bX6_readerMark_0 X hNX hst kI kT x1 _ _ ls Z hl hm)
abbrev wmX6_safeTime : List Cond := Cond.code yX6_safeTime cX6_safeTime 1 (some .int) :: wA0
set_option maxHeartbeats 4000000 in
set_option maxRecDepth 100000 in
theorem bX6_safeTime_0 (X : gC p s m args meth c cX6_safeTime 1 wmX6_safeTime yX6_safeTime.cls (some .int) G A) {n : Nat} {g : Mem} {r : Int32} (kI : ∀ (pc : Nat) (ls : Array Slot) (H : Heap) (locs : List Loc), decode cX6_safeTime pc = .ok (.ireturn, 1) → WS wC G g A s.heap H locs → narrow .int (.int r) = .int r → W p l e { frames := 5, cells := 0, slots := 0, locals := 108 } s m args below meth c H locs 0 0 Q (F0 m pc ls [.int r])) : ∀ (H : Heap) (locs : List Loc) (ls : Array Slot), WS wC G g A s.heap H locs → lv_has ls 1 [(0, .ref (G.1 160))] → sX6_safeTime n g = some r → W p l e { frames := 5, cells := 0, slots := 0, locals := 108 } s m args below meth c H locs 0 0 Q (F0 m 0 ls []) := by
  have hx := X.1
  have hb := X.2.1
  intro H locs ls Z hl hm
  unfold sX6_safeTime at hm
  refine lv_aload_n hx hb dX6_safeTime_0 rfl (lv_at hl 0 rfl) ?_
  refine g_get (j := 0) (v := .ref (G.1 0)) X Z (oX6 k160) (iB6 _) rfl (by decide) rfl (List.mem_cons_of_mem _ mB385) rfl dX6_safeTime_1 ?_
  obtain ⟨r3, e1, hm⟩ := sBi_some hm
  refine g_callVI (n := 0) (As := []) (rest := []) sameC X Z (cX2_safeTimeNow_c l k0 e1) (oX2 k0) rfl (gooV mB489 mB490 mB491 mB43 mB234) rfl (by decide +kernel) rfl ⟨Nat.le_of_ble_eq_true rfl, Nat.le_of_ble_eq_true rfl⟩ ⟨Nat.le_of_ble_eq_true rfl, Nat.le_of_ble_eq_true rfl⟩ hl.1 rfl (Nat.le_of_ble_eq_true rfl) dX6_safeTime_4 (fun w2 H locs Z => ?_)
  obtain rfl := Option.some.inj hm
  exact kI _ _ _ _ dX6_safeTime_7 Z (vp_nar_int _)
theorem cX6_safeTime_c (l : Launch) {G : LY} {g : Mem} {n : Nat} {r : Int32} (hm : sX6_safeTime n g = some r) : cI l yX6_safeTime wmX6_safeTime 5 108 .int wC G [.ref (G.1 160)] g r g :=
  mk_cI sameC (by decide +kernel) rfl (Nat.le_of_ble_eq_true rfl) (fun p e s m args below meth c A Q ls X kI hl Z => bX6_safeTime_0 X kI  _ _ ls Z hl hm)
abbrev wmX6_readFloor : List Cond := Cond.code yX6_readFloor cX6_readFloor 1 (some .int) :: wA0
set_option maxHeartbeats 4000000 in
set_option maxRecDepth 100000 in
theorem bX6_readFloor_0 (X : gC p s m args meth c cX6_readFloor 1 wmX6_readFloor yX6_readFloor.cls (some .int) G A) {g : Mem} {r : Int32} (kI : ∀ (pc : Nat) (ls : Array Slot) (H : Heap) (locs : List Loc), decode cX6_readFloor pc = .ok (.ireturn, 1) → WS wC G g A s.heap H locs → narrow .int (.int r) = .int r → W p l e { frames := 0, cells := 0, slots := 0, locals := 0 } s m args below meth c H locs 0 0 Q (F0 m pc ls [.int r])) : ∀ (H : Heap) (locs : List Loc) (ls : Array Slot), WS wC G g A s.heap H locs → lv_has ls 1 [(0, .ref (G.1 160))] → sX6_readFloor g = some r → W p l e { frames := 0, cells := 0, slots := 0, locals := 0 } s m args below meth c H locs 0 0 Q (F0 m 0 ls []) := by
  have hx := X.1
  have hb := X.2.1
  intro H locs ls Z hl hm
  unfold sX6_readFloor at hm
  refine lv_aload_n hx hb dX6_readFloor_0 rfl (lv_at hl 0 rfl) ?_
  refine g_get (j := 0) (v := .ref (G.1 0)) X Z (oX6 k160) (iB6 _) rfl (by decide) rfl (List.mem_cons_of_mem _ mB385) rfl dX6_readFloor_1 ?_
  refine g_get (j := 1) (v := .int (g 0 1)) X Z (oX2 k0) (iB2 _) rfl (by decide) rfl (List.mem_cons_of_mem _ mB483) rfl dX6_readFloor_4 ?_
  obtain rfl := Option.some.inj hm
  exact kI _ _ _ _ dX6_readFloor_7 Z (vp_nar_int _)
theorem cX6_readFloor_c (l : Launch) {G : LY} {g : Mem} {r : Int32} (hm : sX6_readFloor g = some r) : cI l yX6_readFloor wmX6_readFloor 0 0 .int wC G [.ref (G.1 160)] g r g :=
  mk_cI sameC (by decide +kernel) rfl (Nat.le_of_ble_eq_true rfl) (fun p e s m args below meth c A Q ls X kI hl Z => bX6_readFloor_0 X kI  _ _ ls Z hl hm)
abbrev wmX6_ticksUntilSafe : List Cond := Cond.code yX6_ticksUntilSafe cX6_ticksUntilSafe 3 (some .int) :: wA0
set_option maxHeartbeats 4000000 in
set_option maxRecDepth 100000 in
theorem bX6_ticksUntilSafe_0 (X : gC p s m args meth c cX6_ticksUntilSafe 3 wmX6_ticksUntilSafe yX6_ticksUntilSafe.cls (some .int) G A) {n : Nat} {g : Mem} {r : Nat × Int32} (hNX : ∀ x ∈ c.exceptionTable.toList, False) (hst : l.stackTraces = false) (kI : ∀ (pc : Nat) (ls : Array Slot) (H : Heap) (locs : List Loc) (cells slots : Nat), cells ≤ 1 → slots ≤ 6 → r.1 = 0 → decode cX6_ticksUntilSafe pc = .ok (.ireturn, 1) → WS wC G g A s.heap H locs → narrow .int (.int r.2) = .int r.2 → W p l e { frames := 7, cells := 1, slots := 6, locals := 115 } s m args below meth c H locs cells slots (vx_MQ below Qc XC args s 1 6 A) (F0 m pc ls [.int r.2])) (kT : r.1 ≠ 0 → gTh XC s wC G A r.1 g) : ∀ (x1 : Int32) (H : Heap) (locs : List Loc) (ls : Array Slot), WS wC G g A s.heap H locs → lv_has ls 3 [(0, .ref (G.1 160)), (1, .int x1)] → sX6_ticksUntilSafe n g x1 = some r → W p l e { frames := 7, cells := 1, slots := 6, locals := 115 } s m args below meth c H locs 0 0 (vx_MQ below Qc XC args s 1 6 A) (F0 m 0 ls []) := by
  have hx := X.1
  have hb := X.2.1
  intro x1 H locs ls Z hl hm
  unfold sX6_ticksUntilSafe at hm
  refine lv_aload_n hx hb dX6_ticksUntilSafe_0 rfl (lv_at hl 0 rfl) ?_
  refine lv_iload_n hx hb dX6_ticksUntilSafe_1 rfl (lv_at hl 1 rfl) ?_
  rcases sReq_some hm with ⟨e1, hm⟩ | ⟨ec2, c3, e1, hm⟩
  rotate_left
  · obtain rfl := Option.some.inj hm
    exact g_xcallT (n := 1) (As := [.int x1]) (rest := []) sameC X hNX Z c3 (cX6_requireNotNegative_c l hst e1) (oX6 k160) rfl (gooV mB486 mB487 mB488 mB409 mB482) rfl (by decide +kernel) rfl ⟨Nat.le_of_ble_eq_true rfl, Nat.le_of_ble_eq_true rfl⟩ ⟨Nat.le_of_ble_eq_true rfl, Nat.le_of_ble_eq_true rfl⟩ ⟨Nat.le_of_ble_eq_true rfl, Nat.le_of_ble_eq_true rfl⟩ hl.1 rfl (Nat.le_of_ble_eq_true rfl) dX6_ticksUntilSafe_2 (kT c3)
  refine g_xcall0 (n := 1) (As := [.int x1]) (rest := []) (c1 := 1) (s1 := 6) sameC X Z (cX6_requireNotNegative_c l hst e1) (oX6 k160) rfl (gooV mB486 mB487 mB488 mB409 mB482) rfl (by decide +kernel) rfl ⟨Nat.le_of_ble_eq_true rfl, Nat.le_of_ble_eq_true rfl⟩ rfl rfl ⟨Nat.le_of_ble_eq_true rfl, Nat.le_of_ble_eq_true rfl⟩ hl.1 rfl (Nat.le_of_ble_eq_true rfl) dX6_ticksUntilSafe_2 (fun H locs Z => ?_)
  refine lv_aload_n hx hb dX6_ticksUntilSafe_5 rfl (lv_at hl 0 rfl) ?_
  refine g_get (j := 0) (v := .ref (G.1 0)) X Z (oX6 k160) (iB6 _) rfl (by decide) rfl (List.mem_cons_of_mem _ mB385) rfl dX6_ticksUntilSafe_6 ?_
  refine lv_iload_n hx hb dX6_ticksUntilSafe_9 rfl (lv_at hl 1 rfl) ?_
  refine lv_sipush (v := 10000) hx hb dX6_ticksUntilSafe_10 (by decide) ?_
  obtain ⟨r6, e4, hm⟩ := sBi_some hm
  refine g_callVI (n := 2) (As := [.int x1, .int 10000]) (rest := []) sameC X Z (cX2_ticksUntilSafeAt_c l k0 e4) (oX2 k0) rfl (gooV mB580 mB581 mB582 mB43 mB238) rfl (by decide +kernel) rfl ⟨Nat.le_of_ble_eq_true rfl, Nat.le_of_ble_eq_true rfl⟩ ⟨Nat.le_of_ble_eq_true rfl, Nat.le_of_ble_eq_true rfl⟩ hl.1 rfl (Nat.le_of_ble_eq_true rfl) dX6_ticksUntilSafe_13 (fun w5 H locs Z => ?_)
  refine lv_istore_n (lv' := [(2, .int r6), (0, .ref (G.1 160)), (1, .int x1)]) hx hb dX6_ticksUntilSafe_16 rfl hl (by decide) rfl (fun ls hl => ?_)
  refine lv_iload_n hx hb dX6_ticksUntilSafe_17 rfl (lv_at hl 0 rfl) ?_
  refine lv_sipush (v := 10000) hx hb dX6_ticksUntilSafe_18 (by decide) ?_
  refine lv_icmp_le (tgt := 28) hx hb dX6_ticksUntilSafe_21 (by decide) (fun c7 => ?_) (fun c7 => ?_)
  · replace hm := (if_pos c7).symm.trans hm
    refine lv_iload_n hx hb dX6_ticksUntilSafe_28 rfl (lv_at hl 0 rfl) ?_
    obtain rfl := Option.some.inj hm
    exact kI _ _ _ _ _ _ (Nat.le_of_ble_eq_true rfl) (Nat.le_of_ble_eq_true rfl) rfl dX6_ticksUntilSafe_29 Z (vp_nar_int _)
  · replace hm := (if_neg c7).symm.trans hm
    refine lv_iconst (v := (-1)) hx hb dX6_ticksUntilSafe_24 (by decide) ?_
    refine lv_goto (tgt := 29) hx hb dX6_ticksUntilSafe_25 (by decide) ?_
    obtain rfl := Option.some.inj hm
    exact kI _ _ _ _ _ _ (Nat.le_of_ble_eq_true rfl) (Nat.le_of_ble_eq_true rfl) rfl dX6_ticksUntilSafe_29 Z (vp_nar_int _)
theorem cX6_ticksUntilSafe_c (l : Launch) (hst : l.stackTraces = false) {G : LY} {g : Mem} {n : Nat} {x1 : Int32} {r : Nat × Int32} (hm : sX6_ticksUntilSafe n g x1 = some r) : cXI l yX6_ticksUntilSafe wmX6_ticksUntilSafe 7 115 1 6 .int wC G [.ref (G.1 160), .int x1] g r.1 r.2 g :=
  mk_cXI sameC (by decide +kernel) rfl (Nat.le_of_ble_eq_true rfl) (fun p e s m args below meth c A Qc XC ls X hNX kI kT hl Z => bX6_ticksUntilSafe_0 X hNX hst kI kT x1 _ _ ls Z hl hm)
abbrev wmX6_countInState : List Cond := Cond.code yX6_countInState cX6_countInState 2 (some .int) :: wA0
set_option maxHeartbeats 4000000 in
set_option maxRecDepth 100000 in
theorem bX6_countInState_0 (X : gC p s m args meth c cX6_countInState 2 wmX6_countInState yX6_countInState.cls (some .int) G A) {n : Nat} {g : Mem} {r : Nat × Int32} (hNX : ∀ x ∈ c.exceptionTable.toList, False) (hst : l.stackTraces = false) (kI : ∀ (pc : Nat) (ls : Array Slot) (H : Heap) (locs : List Loc) (cells slots : Nat), cells ≤ 1 → slots ≤ 6 → r.1 = 0 → decode cX6_countInState pc = .ok (.ireturn, 1) → WS wC G g A s.heap H locs → narrow .int (.int r.2) = .int r.2 → W p l e { frames := 7, cells := 1, slots := 6, locals := 113 } s m args below meth c H locs cells slots (vx_MQ below Qc XC args s 1 6 A) (F0 m pc ls [.int r.2])) (kT : r.1 ≠ 0 → gTh XC s wC G A r.1 g) : ∀ (x1 : Int32) (H : Heap) (locs : List Loc) (ls : Array Slot), WS wC G g A s.heap H locs → lv_has ls 2 [(0, .ref (G.1 160)), (1, .int x1)] → sX6_countInState n g x1 = some r → W p l e { frames := 7, cells := 1, slots := 6, locals := 113 } s m args below meth c H locs 0 0 (vx_MQ below Qc XC args s 1 6 A) (F0 m 0 ls []) := by
  have hx := X.1
  have hb := X.2.1
  intro x1 H locs ls Z hl hm
  unfold sX6_countInState at hm
  refine lv_aload_n hx hb dX6_countInState_0 rfl (lv_at hl 0 rfl) ?_
  refine lv_iload_n hx hb dX6_countInState_1 rfl (lv_at hl 1 rfl) ?_
  refine lv_iconst (v := 0) hx hb dX6_countInState_2 (by decide) ?_
  refine lv_iconst (v := 3) hx hb dX6_countInState_3 (by decide) ?_
  rcases sReq_some hm with ⟨e1, hm⟩ | ⟨ec2, c3, e1, hm⟩
  rotate_left
  · obtain rfl := Option.some.inj hm
    exact g_xcallT (n := 3) (As := [.int x1, .int 0, .int 3]) (rest := []) sameC X hNX Z c3 (cX6_requireRange_c l hst e1) (oX6 k160) rfl (gooV mB444 mB445 mB446 mB409 mB441) rfl (by decide +kernel) rfl ⟨Nat.le_of_ble_eq_true rfl, Nat.le_of_ble_eq_true rfl⟩ ⟨Nat.le_of_ble_eq_true rfl, Nat.le_of_ble_eq_true rfl⟩ ⟨Nat.le_of_ble_eq_true rfl, Nat.le_of_ble_eq_true rfl⟩ hl.1 rfl (Nat.le_of_ble_eq_true rfl) dX6_countInState_4 (kT c3)
  refine g_xcall0 (n := 3) (As := [.int x1, .int 0, .int 3]) (rest := []) (c1 := 1) (s1 := 6) sameC X Z (cX6_requireRange_c l hst e1) (oX6 k160) rfl (gooV mB444 mB445 mB446 mB409 mB441) rfl (by decide +kernel) rfl ⟨Nat.le_of_ble_eq_true rfl, Nat.le_of_ble_eq_true rfl⟩ rfl rfl ⟨Nat.le_of_ble_eq_true rfl, Nat.le_of_ble_eq_true rfl⟩ hl.1 rfl (Nat.le_of_ble_eq_true rfl) dX6_countInState_4 (fun H locs Z => ?_)
  refine lv_aload_n hx hb dX6_countInState_7 rfl (lv_at hl 0 rfl) ?_
  refine g_get (j := 0) (v := .ref (G.1 0)) X Z (oX6 k160) (iB6 _) rfl (by decide) rfl (List.mem_cons_of_mem _ mB385) rfl dX6_countInState_8 ?_
  refine g_get (j := 5) (v := .ref (G.1 (0 + 9))) X Z (oX2 k0) (iB2 _) rfl (by decide) rfl (List.mem_cons_of_mem _ mB421) rfl dX6_countInState_11 ?_
  refine lv_iload_n hx hb dX6_countInState_14 rfl (lv_at hl 1 rfl) ?_
  obtain ⟨r6, e4, hm⟩ := sBi_some hm
  refine g_callVI (n := 1) (As := [.int x1]) (rest := []) sameC X Z (cX4_countWithStatus_c l (k25 k0) e4) (oX4 (k25 k0)) rfl (gooV mB585 mB586 mB587 mB30 mB372) rfl (by decide +kernel) rfl ⟨Nat.le_of_ble_eq_true rfl, Nat.le_of_ble_eq_true rfl⟩ ⟨Nat.le_of_ble_eq_true rfl, Nat.le_of_ble_eq_true rfl⟩ hl.1 rfl (Nat.le_of_ble_eq_true rfl) dX6_countInState_15 (fun w5 H locs Z => ?_)
  obtain rfl := Option.some.inj hm
  exact kI _ _ _ _ _ _ (Nat.le_of_ble_eq_true rfl) (Nat.le_of_ble_eq_true rfl) rfl dX6_countInState_18 Z (vp_nar_int _)
theorem cX6_countInState_c (l : Launch) (hst : l.stackTraces = false) {G : LY} {g : Mem} {n : Nat} {x1 : Int32} {r : Nat × Int32} (hm : sX6_countInState n g x1 = some r) : cXI l yX6_countInState wmX6_countInState 7 113 1 6 .int wC G [.ref (G.1 160), .int x1] g r.1 r.2 g :=
  mk_cXI sameC (by decide +kernel) rfl (Nat.le_of_ble_eq_true rfl) (fun p e s m args below meth c A Qc XC ls X hNX kI kT hl Z => bX6_countInState_0 X hNX hst kI kT x1 _ _ ls Z hl hm)
abbrev wmX6_totalWait : List Cond := Cond.code yX6_totalWait cX6_totalWait 1 (some .int) :: wA0
set_option maxHeartbeats 4000000 in
set_option maxRecDepth 100000 in
theorem bX6_totalWait_0 (X : gC p s m args meth c cX6_totalWait 1 wmX6_totalWait yX6_totalWait.cls (some .int) G A) {n : Nat} {g : Mem} {r : Int32} (kI : ∀ (pc : Nat) (ls : Array Slot) (H : Heap) (locs : List Loc), decode cX6_totalWait pc = .ok (.ireturn, 1) → WS wC G g A s.heap H locs → narrow .int (.int r) = .int r → W p l e { frames := 1, cells := 0, slots := 0, locals := 22 } s m args below meth c H locs 0 0 Q (F0 m pc ls [.int r])) : ∀ (H : Heap) (locs : List Loc) (ls : Array Slot), WS wC G g A s.heap H locs → lv_has ls 1 [(0, .ref (G.1 160))] → sX6_totalWait n g = some r → W p l e { frames := 1, cells := 0, slots := 0, locals := 22 } s m args below meth c H locs 0 0 Q (F0 m 0 ls []) := by
  have hx := X.1
  have hb := X.2.1
  intro H locs ls Z hl hm
  unfold sX6_totalWait at hm
  refine lv_aload_n hx hb dX6_totalWait_0 rfl (lv_at hl 0 rfl) ?_
  refine g_get (j := 0) (v := .ref (G.1 0)) X Z (oX6 k160) (iB6 _) rfl (by decide) rfl (List.mem_cons_of_mem _ mB385) rfl dX6_totalWait_1 ?_
  refine g_get (j := 5) (v := .ref (G.1 (0 + 9))) X Z (oX2 k0) (iB2 _) rfl (by decide) rfl (List.mem_cons_of_mem _ mB421) rfl dX6_totalWait_4 ?_
  obtain ⟨r3, e1, hm⟩ := sBi_some hm
  refine g_callVI (n := 0) (As := []) (rest := []) sameC X Z (cX4_sumOfWaits_c l (k25 k0) e1) (oX4 (k25 k0)) rfl (gooV mB589 mB590 mB591 mB30 mB373) rfl (by decide +kernel) rfl ⟨Nat.le_of_ble_eq_true rfl, Nat.le_of_ble_eq_true rfl⟩ ⟨Nat.le_of_ble_eq_true rfl, Nat.le_of_ble_eq_true rfl⟩ hl.1 rfl (Nat.le_of_ble_eq_true rfl) dX6_totalWait_7 (fun w2 H locs Z => ?_)
  obtain rfl := Option.some.inj hm
  exact kI _ _ _ _ dX6_totalWait_10 Z (vp_nar_int _)
theorem cX6_totalWait_c (l : Launch) {G : LY} {g : Mem} {n : Nat} {r : Int32} (hm : sX6_totalWait n g = some r) : cI l yX6_totalWait wmX6_totalWait 1 22 .int wC G [.ref (G.1 160)] g r g :=
  mk_cI sameC (by decide +kernel) rfl (Nat.le_of_ble_eq_true rfl) (fun p e s m args below meth c A Q ls X kI hl Z => bX6_totalWait_0 X kI  _ _ ls Z hl hm)
abbrev wmX6_unsoundUses : List Cond := Cond.code yX6_unsoundUses cX6_unsoundUses 1 (some .int) :: wA0
set_option maxHeartbeats 4000000 in
set_option maxRecDepth 100000 in
theorem bX6_unsoundUses_0 (X : gC p s m args meth c cX6_unsoundUses 1 wmX6_unsoundUses yX6_unsoundUses.cls (some .int) G A) {g : Mem} {r : Int32} (kI : ∀ (pc : Nat) (ls : Array Slot) (H : Heap) (locs : List Loc), decode cX6_unsoundUses pc = .ok (.ireturn, 1) → WS wC G g A s.heap H locs → narrow .int (.int r) = .int r → W p l e { frames := 0, cells := 0, slots := 0, locals := 0 } s m args below meth c H locs 0 0 Q (F0 m pc ls [.int r])) : ∀ (H : Heap) (locs : List Loc) (ls : Array Slot), WS wC G g A s.heap H locs → lv_has ls 1 [(0, .ref (G.1 160))] → sX6_unsoundUses g = some r → W p l e { frames := 0, cells := 0, slots := 0, locals := 0 } s m args below meth c H locs 0 0 Q (F0 m 0 ls []) := by
  have hx := X.1
  have hb := X.2.1
  intro H locs ls Z hl hm
  unfold sX6_unsoundUses at hm
  refine lv_aload_n hx hb dX6_unsoundUses_0 rfl (lv_at hl 0 rfl) ?_
  refine g_get (j := 0) (v := .ref (G.1 0)) X Z (oX6 k160) (iB6 _) rfl (by decide) rfl (List.mem_cons_of_mem _ mB385) rfl dX6_unsoundUses_1 ?_
  refine g_get (j := 2) (v := .int (g 0 2)) X Z (oX2 k0) (iB2 _) rfl (by decide) rfl (List.mem_cons_of_mem _ mB593) rfl dX6_unsoundUses_4 ?_
  obtain rfl := Option.some.inj hm
  exact kI _ _ _ _ dX6_unsoundUses_7 Z (vp_nar_int _)
theorem cX6_unsoundUses_c (l : Launch) {G : LY} {g : Mem} {r : Int32} (hm : sX6_unsoundUses g = some r) : cI l yX6_unsoundUses wmX6_unsoundUses 0 0 .int wC G [.ref (G.1 160)] g r g :=
  mk_cI sameC (by decide +kernel) rfl (Nat.le_of_ble_eq_true rfl) (fun p e s m args below meth c A Q ls X kI hl Z => bX6_unsoundUses_0 X kI  _ _ ls Z hl hm)
abbrev wmX6_inversions : List Cond := Cond.code yX6_inversions cX6_inversions 1 (some .int) :: wA0
set_option maxHeartbeats 4000000 in
set_option maxRecDepth 100000 in
theorem bX6_inversions_0 (X : gC p s m args meth c cX6_inversions 1 wmX6_inversions yX6_inversions.cls (some .int) G A) {n : Nat} {g : Mem} {r : Int32} (kI : ∀ (pc : Nat) (ls : Array Slot) (H : Heap) (locs : List Loc), decode cX6_inversions pc = .ok (.ireturn, 1) → WS wC G g A s.heap H locs → narrow .int (.int r) = .int r → W p l e { frames := 2, cells := 0, slots := 0, locals := 45 } s m args below meth c H locs 0 0 Q (F0 m pc ls [.int r])) : ∀ (H : Heap) (locs : List Loc) (ls : Array Slot), WS wC G g A s.heap H locs → lv_has ls 1 [(0, .ref (G.1 160))] → sX6_inversions n g = some r → W p l e { frames := 2, cells := 0, slots := 0, locals := 45 } s m args below meth c H locs 0 0 Q (F0 m 0 ls []) := by
  have hx := X.1
  have hb := X.2.1
  intro H locs ls Z hl hm
  unfold sX6_inversions at hm
  refine lv_aload_n hx hb dX6_inversions_0 rfl (lv_at hl 0 rfl) ?_
  refine g_get (j := 0) (v := .ref (G.1 0)) X Z (oX6 k160) (iB6 _) rfl (by decide) rfl (List.mem_cons_of_mem _ mB385) rfl dX6_inversions_1 ?_
  refine g_get (j := 5) (v := .ref (G.1 (0 + 9))) X Z (oX2 k0) (iB2 _) rfl (by decide) rfl (List.mem_cons_of_mem _ mB421) rfl dX6_inversions_4 ?_
  obtain ⟨r3, e1, hm⟩ := sBi_some hm
  refine g_callVI (n := 0) (As := []) (rest := []) sameC X Z (cX4_countInversions_c l (k25 k0) e1) (oX4 (k25 k0)) rfl (gooV mB595 mB596 mB597 mB30 mB375) rfl (by decide +kernel) rfl ⟨Nat.le_of_ble_eq_true rfl, Nat.le_of_ble_eq_true rfl⟩ ⟨Nat.le_of_ble_eq_true rfl, Nat.le_of_ble_eq_true rfl⟩ hl.1 rfl (Nat.le_of_ble_eq_true rfl) dX6_inversions_7 (fun w2 H locs Z => ?_)
  obtain rfl := Option.some.inj hm
  exact kI _ _ _ _ dX6_inversions_10 Z (vp_nar_int _)
theorem cX6_inversions_c (l : Launch) {G : LY} {g : Mem} {n : Nat} {r : Int32} (hm : sX6_inversions n g = some r) : cI l yX6_inversions wmX6_inversions 2 45 .int wC G [.ref (G.1 160)] g r g :=
  mk_cI sameC (by decide +kernel) rfl (Nat.le_of_ble_eq_true rfl) (fun p e s m args below meth c A Q ls X kI hl Z => bX6_inversions_0 X kI  _ _ ls Z hl hm)
abbrev wmX6_savedStates : List Cond := Cond.code yX6_savedStates cX6_savedStates 1 (some .int) :: wA0
set_option maxHeartbeats 4000000 in
set_option maxRecDepth 100000 in
theorem bX6_savedStates_0 (X : gC p s m args meth c cX6_savedStates 1 wmX6_savedStates yX6_savedStates.cls (some .int) G A) {g : Mem} {r : Int32} (kI : ∀ (pc : Nat) (ls : Array Slot) (H : Heap) (locs : List Loc), decode cX6_savedStates pc = .ok (.ireturn, 1) → WS wC G g A s.heap H locs → narrow .int (.int r) = .int r → W p l e { frames := 0, cells := 0, slots := 0, locals := 0 } s m args below meth c H locs 0 0 Q (F0 m pc ls [.int r])) : ∀ (H : Heap) (locs : List Loc) (ls : Array Slot), WS wC G g A s.heap H locs → lv_has ls 1 [(0, .ref (G.1 160))] → sX6_savedStates g = some r → W p l e { frames := 0, cells := 0, slots := 0, locals := 0 } s m args below meth c H locs 0 0 Q (F0 m 0 ls []) := by
  have hx := X.1
  have hb := X.2.1
  intro H locs ls Z hl hm
  unfold sX6_savedStates at hm
  refine lv_aload_n hx hb dX6_savedStates_0 rfl (lv_at hl 0 rfl) ?_
  refine g_get (j := 1) (v := .ref (G.1 153)) X Z (oX6 k160) (iB6 _) rfl (by decide) rfl (List.mem_cons_of_mem _ mB389) rfl dX6_savedStates_1 ?_
  refine g_get (j := 0) (v := .int (g 153 0)) X Z (oX0 k153) (iB0 _) rfl (by decide) rfl (List.mem_cons_of_mem _ mB524) rfl dX6_savedStates_4 ?_
  obtain rfl := Option.some.inj hm
  exact kI _ _ _ _ dX6_savedStates_7 Z (vp_nar_int _)
theorem cX6_savedStates_c (l : Launch) {G : LY} {g : Mem} {r : Int32} (hm : sX6_savedStates g = some r) : cI l yX6_savedStates wmX6_savedStates 0 0 .int wC G [.ref (G.1 160)] g r g :=
  mk_cI sameC (by decide +kernel) rfl (Nat.le_of_ble_eq_true rfl) (fun p e s m args below meth c A Q ls X kI hl Z => bX6_savedStates_0 X kI  _ _ ls Z hl hm)
abbrev wmX6_textLength : List Cond := Cond.code yX6_textLength cX6_textLength 1 (some .int) :: wA0
set_option maxHeartbeats 4000000 in
set_option maxRecDepth 100000 in
theorem bX6_textLength_0 (X : gC p s m args meth c cX6_textLength 1 wmX6_textLength yX6_textLength.cls (some .int) G A) {g : Mem} {r : Int32} (kI : ∀ (pc : Nat) (ls : Array Slot) (H : Heap) (locs : List Loc), decode cX6_textLength pc = .ok (.ireturn, 1) → WS wC G g A s.heap H locs → narrow .int (.int r) = .int r → W p l e { frames := 0, cells := 0, slots := 0, locals := 0 } s m args below meth c H locs 0 0 Q (F0 m pc ls [.int r])) : ∀ (H : Heap) (locs : List Loc) (ls : Array Slot), WS wC G g A s.heap H locs → lv_has ls 1 [(0, .ref (G.1 160))] → sX6_textLength g = some r → W p l e { frames := 0, cells := 0, slots := 0, locals := 0 } s m args below meth c H locs 0 0 Q (F0 m 0 ls []) := by
  have hx := X.1
  have hb := X.2.1
  intro H locs ls Z hl hm
  unfold sX6_textLength at hm
  refine lv_aload_n hx hb dX6_textLength_0 rfl (lv_at hl 0 rfl) ?_
  refine g_get (j := 4) (v := .ref (G.1 157)) X Z (oX6 k160) (iB6 _) rfl (by decide) rfl (List.mem_cons_of_mem _ mB395) rfl dX6_textLength_1 ?_
  refine g_get (j := 0) (v := .int (g 157 0)) X Z (oX3 k157) (iB3 _) rfl (by decide) rfl (List.mem_cons_of_mem _ mB497) rfl dX6_textLength_4 ?_
  obtain rfl := Option.some.inj hm
  exact kI _ _ _ _ dX6_textLength_7 Z (vp_nar_int _)
theorem cX6_textLength_c (l : Launch) {G : LY} {g : Mem} {r : Int32} (hm : sX6_textLength g = some r) : cI l yX6_textLength wmX6_textLength 0 0 .int wC G [.ref (G.1 160)] g r g :=
  mk_cI sameC (by decide +kernel) rfl (Nat.le_of_ble_eq_true rfl) (fun p e s m args below meth c A Q ls X kI hl Z => bX6_textLength_0 X kI  _ _ ls Z hl hm)
end GW
