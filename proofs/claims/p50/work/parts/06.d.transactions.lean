section GW
variable {Qc : Array Value → State → Outcome → State → Prop} {XC : String → State → State → Prop} {p : Program} {l : Launch} {e : Env} {s : State} {m : MethodId} {args : Array Value} {below : List Frame} {meth : Method} {c : Code} {Q : State → Prop} {G : LY} {A : Nat → Prop}
abbrev wmX4_copyFrom : List Cond := Cond.code yX4_copyFrom cX4_copyFrom 2 none :: wA0
set_option maxHeartbeats 4000000 in
set_option maxRecDepth 100000 in
theorem bX4_copyFrom_0 (X : gC p s m args meth c cX4_copyFrom 2 wmX4_copyFrom yX4_copyFrom.cls none G A) {r : Mem} (kI : ∀ (pc : Nat) (ls : Array Slot) (H : Heap) (locs : List Loc), decode cX4_copyFrom pc = .ok (.return_, 1) → WS wC G r A s.heap H locs → W p l e { frames := 1, cells := 0, slots := 0, locals := 48 } s m args below meth c H locs 0 0 Q (F0 m pc ls [])) : ∀ (g : Mem) (k0 : Nat) (k1 : Nat) (H : Heap) (locs : List Loc) (ls : Array Slot), KD k0 = 4 → KD k1 = 4 → WS wC G g A s.heap H locs → lv_has ls 2 [(0, .ref (G.1 k0)), (1, .ref (G.1 k1))] → sX4_copyFrom g k0 k1 = some r → W p l e { frames := 1, cells := 0, slots := 0, locals := 48 } s m args below meth c H locs 0 0 Q (F0 m 0 ls []) := by
  have hx := X.1
  have hb := X.2.1
  intro g k0 k1 H locs ls hk0 hk1 Z hl hm
  unfold sX4_copyFrom at hm
  refine lv_aload_n hx hb dX4_copyFrom_0 rfl (lv_at hl 0 rfl) ?_
  refine lv_aload_n hx hb dX4_copyFrom_1 rfl (lv_at hl 1 rfl) ?_
  refine g_get (j := 0) (v := .int (g k1 0)) X Z (oX4 hk1) (iB4 _) rfl (by decide) rfl (List.mem_cons_of_mem _ mB59) rfl dX4_copyFrom_2 ?_
  obtain ⟨g1, eg1, hm⟩ := sLet_some hm
  refine g_put (j := 0) eg1 X Z (oX4 hk0) (iB4 _) rfl tyX4_ok nmX4 (by decide) rfl rfl (Nat.le_of_ble_eq_true rfl) (p4_0 G g (g k1 0)) rfl (List.mem_cons_of_mem _ mB59) dX4_copyFrom_5 (fun H locs Z => ?_)
  refine lv_aload_n hx hb dX4_copyFrom_8 rfl (lv_at hl 1 rfl) ?_
  refine g_get (j := 1) (v := .ref (G.1 (k1 + 1))) X Z (oX4 hk1) (iB4 _) rfl (by decide) rfl (List.mem_cons_of_mem _ mB10) rfl dX4_copyFrom_9 ?_
  refine lv_iconst (v := 0) hx hb dX4_copyFrom_12 (by decide) ?_
  refine lv_aload_n hx hb dX4_copyFrom_13 rfl (lv_at hl 0 rfl) ?_
  refine g_get (j := 1) (v := .ref (G.1 (k0 + 1))) X Z (oX4 hk0) (iB4 _) rfl (by decide) rfl (List.mem_cons_of_mem _ mB10) rfl dX4_copyFrom_14 ?_
  refine lv_iconst (v := 0) hx hb dX4_copyFrom_17 (by decide) ?_
  refine lv_aload_n hx hb dX4_copyFrom_18 rfl (lv_at hl 0 rfl) ?_
  refine g_get (j := 0) (v := .int (g1 k0 0)) X Z (oX4 hk0) (iB4 _) rfl (by decide) rfl (List.mem_cons_of_mem _ mB59) rfl dX4_copyFrom_19 ?_
  obtain ⟨b2, hm⟩ := sCpy_some hm
  obtain ⟨g3, eg3, hm⟩ := sLet_some hm
  refine g_acpy eg3 X Z (aI (k41 hk1)) (aI (k41 hk0)) hl.1 (List.mem_cons_of_mem _ mB60) (List.mem_cons_of_mem _ mB55) (List.mem_cons_of_mem _ mB56) (List.mem_cons_of_mem _ mB57) b2 (Nat.le_of_ble_eq_true rfl) (Nat.le_of_ble_eq_true rfl) dX4_copyFrom_22 (fun H locs Z => ?_)
  refine lv_aload_n hx hb dX4_copyFrom_25 rfl (lv_at hl 1 rfl) ?_
  refine g_get (j := 2) (v := .ref (G.1 (k1 + 2))) X Z (oX4 hk1) (iB4 _) rfl (by decide) rfl (List.mem_cons_of_mem _ mB11) rfl dX4_copyFrom_26 ?_
  refine lv_iconst (v := 0) hx hb dX4_copyFrom_29 (by decide) ?_
  refine lv_aload_n hx hb dX4_copyFrom_30 rfl (lv_at hl 0 rfl) ?_
  refine g_get (j := 2) (v := .ref (G.1 (k0 + 2))) X Z (oX4 hk0) (iB4 _) rfl (by decide) rfl (List.mem_cons_of_mem _ mB11) rfl dX4_copyFrom_31 ?_
  refine lv_iconst (v := 0) hx hb dX4_copyFrom_34 (by decide) ?_
  refine lv_aload_n hx hb dX4_copyFrom_35 rfl (lv_at hl 0 rfl) ?_
  refine g_get (j := 0) (v := .int (g3 k0 0)) X Z (oX4 hk0) (iB4 _) rfl (by decide) rfl (List.mem_cons_of_mem _ mB59) rfl dX4_copyFrom_36 ?_
  obtain ⟨b4, hm⟩ := sCpy_some hm
  obtain ⟨g5, eg5, hm⟩ := sLet_some hm
  refine g_acpy eg5 X Z (aI (k42 hk1)) (aI (k42 hk0)) hl.1 (List.mem_cons_of_mem _ mB60) (List.mem_cons_of_mem _ mB55) (List.mem_cons_of_mem _ mB56) (List.mem_cons_of_mem _ mB57) b4 (Nat.le_of_ble_eq_true rfl) (Nat.le_of_ble_eq_true rfl) dX4_copyFrom_39 (fun H locs Z => ?_)
  refine lv_aload_n hx hb dX4_copyFrom_42 rfl (lv_at hl 1 rfl) ?_
  refine g_get (j := 3) (v := .ref (G.1 (k1 + 3))) X Z (oX4 hk1) (iB4 _) rfl (by decide) rfl (List.mem_cons_of_mem _ mB12) rfl dX4_copyFrom_43 ?_
  refine lv_iconst (v := 0) hx hb dX4_copyFrom_46 (by decide) ?_
  refine lv_aload_n hx hb dX4_copyFrom_47 rfl (lv_at hl 0 rfl) ?_
  refine g_get (j := 3) (v := .ref (G.1 (k0 + 3))) X Z (oX4 hk0) (iB4 _) rfl (by decide) rfl (List.mem_cons_of_mem _ mB12) rfl dX4_copyFrom_48 ?_
  refine lv_iconst (v := 0) hx hb dX4_copyFrom_51 (by decide) ?_
  refine lv_aload_n hx hb dX4_copyFrom_52 rfl (lv_at hl 0 rfl) ?_
  refine g_get (j := 0) (v := .int (g5 k0 0)) X Z (oX4 hk0) (iB4 _) rfl (by decide) rfl (List.mem_cons_of_mem _ mB59) rfl dX4_copyFrom_53 ?_
  obtain ⟨b6, hm⟩ := sCpy_some hm
  obtain ⟨g7, eg7, hm⟩ := sLet_some hm
  refine g_acpy eg7 X Z (aI (k43 hk1)) (aI (k43 hk0)) hl.1 (List.mem_cons_of_mem _ mB60) (List.mem_cons_of_mem _ mB55) (List.mem_cons_of_mem _ mB56) (List.mem_cons_of_mem _ mB57) b6 (Nat.le_of_ble_eq_true rfl) (Nat.le_of_ble_eq_true rfl) dX4_copyFrom_56 (fun H locs Z => ?_)
  refine lv_aload_n hx hb dX4_copyFrom_59 rfl (lv_at hl 1 rfl) ?_
  refine g_get (j := 4) (v := .ref (G.1 (k1 + 4))) X Z (oX4 hk1) (iB4 _) rfl (by decide) rfl (List.mem_cons_of_mem _ mB13) rfl dX4_copyFrom_60 ?_
  refine lv_iconst (v := 0) hx hb dX4_copyFrom_63 (by decide) ?_
  refine lv_aload_n hx hb dX4_copyFrom_64 rfl (lv_at hl 0 rfl) ?_
  refine g_get (j := 4) (v := .ref (G.1 (k0 + 4))) X Z (oX4 hk0) (iB4 _) rfl (by decide) rfl (List.mem_cons_of_mem _ mB13) rfl dX4_copyFrom_65 ?_
  refine lv_iconst (v := 0) hx hb dX4_copyFrom_68 (by decide) ?_
  refine lv_aload_n hx hb dX4_copyFrom_69 rfl (lv_at hl 0 rfl) ?_
  refine g_get (j := 0) (v := .int (g7 k0 0)) X Z (oX4 hk0) (iB4 _) rfl (by decide) rfl (List.mem_cons_of_mem _ mB59) rfl dX4_copyFrom_70 ?_
  obtain ⟨b8, hm⟩ := sCpy_some hm
  obtain ⟨g9, eg9, hm⟩ := sLet_some hm
  refine g_acpy eg9 X Z (aI (k44 hk1)) (aI (k44 hk0)) hl.1 (List.mem_cons_of_mem _ mB60) (List.mem_cons_of_mem _ mB55) (List.mem_cons_of_mem _ mB56) (List.mem_cons_of_mem _ mB57) b8 (Nat.le_of_ble_eq_true rfl) (Nat.le_of_ble_eq_true rfl) dX4_copyFrom_73 (fun H locs Z => ?_)
  refine lv_aload_n hx hb dX4_copyFrom_76 rfl (lv_at hl 1 rfl) ?_
  refine g_get (j := 5) (v := .ref (G.1 (k1 + 5))) X Z (oX4 hk1) (iB4 _) rfl (by decide) rfl (List.mem_cons_of_mem _ mB14) rfl dX4_copyFrom_77 ?_
  refine lv_iconst (v := 0) hx hb dX4_copyFrom_80 (by decide) ?_
  refine lv_aload_n hx hb dX4_copyFrom_81 rfl (lv_at hl 0 rfl) ?_
  refine g_get (j := 5) (v := .ref (G.1 (k0 + 5))) X Z (oX4 hk0) (iB4 _) rfl (by decide) rfl (List.mem_cons_of_mem _ mB14) rfl dX4_copyFrom_82 ?_
  refine lv_iconst (v := 0) hx hb dX4_copyFrom_85 (by decide) ?_
  refine lv_aload_n hx hb dX4_copyFrom_86 rfl (lv_at hl 0 rfl) ?_
  refine g_get (j := 0) (v := .int (g9 k0 0)) X Z (oX4 hk0) (iB4 _) rfl (by decide) rfl (List.mem_cons_of_mem _ mB59) rfl dX4_copyFrom_87 ?_
  obtain ⟨b10, hm⟩ := sCpy_some hm
  obtain ⟨g11, eg11, hm⟩ := sLet_some hm
  refine g_acpy eg11 X Z (aI (k45 hk1)) (aI (k45 hk0)) hl.1 (List.mem_cons_of_mem _ mB60) (List.mem_cons_of_mem _ mB55) (List.mem_cons_of_mem _ mB56) (List.mem_cons_of_mem _ mB57) b10 (Nat.le_of_ble_eq_true rfl) (Nat.le_of_ble_eq_true rfl) dX4_copyFrom_90 (fun H locs Z => ?_)
  refine lv_aload_n hx hb dX4_copyFrom_93 rfl (lv_at hl 1 rfl) ?_
  refine g_get (j := 6) (v := .ref (G.1 (k1 + 6))) X Z (oX4 hk1) (iB4 _) rfl (by decide) rfl (List.mem_cons_of_mem _ mB15) rfl dX4_copyFrom_94 ?_
  refine lv_iconst (v := 0) hx hb dX4_copyFrom_97 (by decide) ?_
  refine lv_aload_n hx hb dX4_copyFrom_98 rfl (lv_at hl 0 rfl) ?_
  refine g_get (j := 6) (v := .ref (G.1 (k0 + 6))) X Z (oX4 hk0) (iB4 _) rfl (by decide) rfl (List.mem_cons_of_mem _ mB15) rfl dX4_copyFrom_99 ?_
  refine lv_iconst (v := 0) hx hb dX4_copyFrom_102 (by decide) ?_
  refine lv_aload_n hx hb dX4_copyFrom_103 rfl (lv_at hl 0 rfl) ?_
  refine g_get (j := 0) (v := .int (g11 k0 0)) X Z (oX4 hk0) (iB4 _) rfl (by decide) rfl (List.mem_cons_of_mem _ mB59) rfl dX4_copyFrom_104 ?_
  refine lv_bipush (v := 8) hx hb dX4_copyFrom_107 (by decide) ?_
  refine lv_imul hx hb dX4_copyFrom_109 ?_
  obtain ⟨b12, hm⟩ := sCpy_some hm
  obtain ⟨g13, eg13, hm⟩ := sLet_some hm
  refine g_acpy eg13 X Z (aI (k46 hk1)) (aI (k46 hk0)) hl.1 (List.mem_cons_of_mem _ mB60) (List.mem_cons_of_mem _ mB55) (List.mem_cons_of_mem _ mB56) (List.mem_cons_of_mem _ mB57) b12 (Nat.le_of_ble_eq_true rfl) (Nat.le_of_ble_eq_true rfl) dX4_copyFrom_110 (fun H locs Z => ?_)
  refine lv_aload_n hx hb dX4_copyFrom_113 rfl (lv_at hl 1 rfl) ?_
  refine g_get (j := 7) (v := .ref (G.1 (k1 + 7))) X Z (oX4 hk1) (iB4 _) rfl (by decide) rfl (List.mem_cons_of_mem _ mB16) rfl dX4_copyFrom_114 ?_
  refine lv_iconst (v := 0) hx hb dX4_copyFrom_117 (by decide) ?_
  refine lv_aload_n hx hb dX4_copyFrom_118 rfl (lv_at hl 0 rfl) ?_
  refine g_get (j := 7) (v := .ref (G.1 (k0 + 7))) X Z (oX4 hk0) (iB4 _) rfl (by decide) rfl (List.mem_cons_of_mem _ mB16) rfl dX4_copyFrom_119 ?_
  refine lv_iconst (v := 0) hx hb dX4_copyFrom_122 (by decide) ?_
  refine lv_aload_n hx hb dX4_copyFrom_123 rfl (lv_at hl 0 rfl) ?_
  refine g_get (j := 0) (v := .int (g13 k0 0)) X Z (oX4 hk0) (iB4 _) rfl (by decide) rfl (List.mem_cons_of_mem _ mB59) rfl dX4_copyFrom_124 ?_
  refine lv_bipush (v := 8) hx hb dX4_copyFrom_127 (by decide) ?_
  refine lv_imul hx hb dX4_copyFrom_129 ?_
  obtain ⟨b14, hm⟩ := sCpy_some hm
  obtain ⟨g15, eg15, hm⟩ := sLet_some hm
  refine g_acpy eg15 X Z (aI (k47 hk1)) (aI (k47 hk0)) hl.1 (List.mem_cons_of_mem _ mB60) (List.mem_cons_of_mem _ mB55) (List.mem_cons_of_mem _ mB56) (List.mem_cons_of_mem _ mB57) b14 (Nat.le_of_ble_eq_true rfl) (Nat.le_of_ble_eq_true rfl) dX4_copyFrom_130 (fun H locs Z => ?_)
  obtain rfl := Option.some.inj hm
  exact kI _ _ _ _ dX4_copyFrom_133 Z
theorem cX4_copyFrom_c (l : Launch) {G : LY} {g : Mem} {k0 : Nat} {k1 : Nat} {r : Mem} (hk0 : KD k0 = 4) (hk1 : KD k1 = 4) (hm : sX4_copyFrom g k0 k1 = some r) : cV l yX4_copyFrom wmX4_copyFrom 1 48 wC G [.ref (G.1 k0), .ref (G.1 k1)] g r :=
  mk_cV sameC (by decide +kernel) rfl (Nat.le_of_ble_eq_true rfl) (fun p e s m args below meth c A Q ls X kI hl Z => bX4_copyFrom_0 X kI g k0 k1 _ _ ls hk0 hk1 Z hl hm)
abbrev wmX4_bufferValue : List Cond := Cond.code yX4_bufferValue cX4_bufferValue 4 none :: wA0
set_option maxHeartbeats 4000000 in
set_option maxRecDepth 100000 in
theorem bX4_bufferValue_0 (X : gC p s m args meth c cX4_bufferValue 4 wmX4_bufferValue yX4_bufferValue.cls none G A) {r : Mem} (kI : ∀ (pc : Nat) (ls : Array Slot) (H : Heap) (locs : List Loc), decode cX4_bufferValue pc = .ok (.return_, 1) → WS wC G r A s.heap H locs → W p l e { frames := 0, cells := 0, slots := 0, locals := 0 } s m args below meth c H locs 0 0 Q (F0 m pc ls [])) : ∀ (g : Mem) (k0 : Nat) (x1 : Int32) (x2 : Int32) (x3 : Int32) (H : Heap) (locs : List Loc) (ls : Array Slot), KD k0 = 4 → WS wC G g A s.heap H locs → lv_has ls 4 [(0, .ref (G.1 k0)), (1, .int x1), (2, .int x2), (3, .int x3)] → sX4_bufferValue g k0 x1 x2 x3 = some r → W p l e { frames := 0, cells := 0, slots := 0, locals := 0 } s m args below meth c H locs 0 0 Q (F0 m 0 ls []) := by
  have hx := X.1
  have hb := X.2.1
  intro g k0 x1 x2 x3 H locs ls hk0 Z hl hm
  unfold sX4_bufferValue at hm
  refine lv_aload_n hx hb dX4_bufferValue_0 rfl (lv_at hl 0 rfl) ?_
  refine g_get (j := 6) (v := .ref (G.1 (k0 + 6))) X Z (oX4 hk0) (iB4 _) rfl (by decide) rfl (List.mem_cons_of_mem _ mB15) rfl dX4_bufferValue_1 ?_
  refine lv_iload_n hx hb dX4_bufferValue_4 rfl (lv_at hl 1 rfl) ?_
  refine lv_bipush (v := 8) hx hb dX4_bufferValue_5 (by decide) ?_
  refine lv_imul hx hb dX4_bufferValue_7 ?_
  refine lv_iload_n hx hb dX4_bufferValue_8 rfl (lv_at hl 2 rfl) ?_
  refine lv_iadd hx hb dX4_bufferValue_9 ?_
  refine lv_iload_n hx hb dX4_bufferValue_10 rfl (lv_at hl 3 rfl) ?_
  obtain ⟨b1, hm⟩ := sIdx_some hm
  obtain ⟨g2, eg2, hm⟩ := sLet_some hm
  refine g_iast eg2 X Z (aI (k46 hk0)) b1 dX4_bufferValue_11 (fun H locs Z => ?_)
  obtain rfl := Option.some.inj hm
  exact kI _ _ _ _ dX4_bufferValue_12 Z
theorem cX4_bufferValue_c (l : Launch) {G : LY} {g : Mem} {k0 : Nat} {x1 : Int32} {x2 : Int32} {x3 : Int32} {r : Mem} (hk0 : KD k0 = 4) (hm : sX4_bufferValue g k0 x1 x2 x3 = some r) : cV l yX4_bufferValue wmX4_bufferValue 0 0 wC G [.ref (G.1 k0), .int x1, .int x2, .int x3] g r :=
  mk_cV sameC (by decide +kernel) rfl (Nat.le_of_ble_eq_true rfl) (fun p e s m args below meth c A Q ls X kI hl Z => bX4_bufferValue_0 X kI g k0 x1 x2 x3 _ _ ls hk0 Z hl hm)
abbrev wmX4_recordVersion : List Cond := Cond.code yX4_recordVersion cX4_recordVersion 4 none :: wA0
set_option maxHeartbeats 4000000 in
set_option maxRecDepth 100000 in
theorem bX4_recordVersion_0 (X : gC p s m args meth c cX4_recordVersion 4 wmX4_recordVersion yX4_recordVersion.cls none G A) {r : Mem} (kI : ∀ (pc : Nat) (ls : Array Slot) (H : Heap) (locs : List Loc), decode cX4_recordVersion pc = .ok (.return_, 1) → WS wC G r A s.heap H locs → W p l e { frames := 0, cells := 0, slots := 0, locals := 0 } s m args below meth c H locs 0 0 Q (F0 m pc ls [])) : ∀ (g : Mem) (k0 : Nat) (x1 : Int32) (x2 : Int32) (x3 : Int32) (H : Heap) (locs : List Loc) (ls : Array Slot), KD k0 = 4 → WS wC G g A s.heap H locs → lv_has ls 4 [(0, .ref (G.1 k0)), (1, .int x1), (2, .int x2), (3, .int x3)] → sX4_recordVersion g k0 x1 x2 x3 = some r → W p l e { frames := 0, cells := 0, slots := 0, locals := 0 } s m args below meth c H locs 0 0 Q (F0 m 0 ls []) := by
  have hx := X.1
  have hb := X.2.1
  intro g k0 x1 x2 x3 H locs ls hk0 Z hl hm
  unfold sX4_recordVersion at hm
  refine lv_aload_n hx hb dX4_recordVersion_0 rfl (lv_at hl 0 rfl) ?_
  refine g_get (j := 7) (v := .ref (G.1 (k0 + 7))) X Z (oX4 hk0) (iB4 _) rfl (by decide) rfl (List.mem_cons_of_mem _ mB16) rfl dX4_recordVersion_1 ?_
  refine lv_iload_n hx hb dX4_recordVersion_4 rfl (lv_at hl 1 rfl) ?_
  refine lv_bipush (v := 8) hx hb dX4_recordVersion_5 (by decide) ?_
  refine lv_imul hx hb dX4_recordVersion_7 ?_
  refine lv_iload_n hx hb dX4_recordVersion_8 rfl (lv_at hl 2 rfl) ?_
  refine lv_iadd hx hb dX4_recordVersion_9 ?_
  refine lv_iload_n hx hb dX4_recordVersion_10 rfl (lv_at hl 3 rfl) ?_
  obtain ⟨b1, hm⟩ := sIdx_some hm
  obtain ⟨g2, eg2, hm⟩ := sLet_some hm
  refine g_iast eg2 X Z (aI (k47 hk0)) b1 dX4_recordVersion_11 (fun H locs Z => ?_)
  obtain rfl := Option.some.inj hm
  exact kI _ _ _ _ dX4_recordVersion_12 Z
theorem cX4_recordVersion_c (l : Launch) {G : LY} {g : Mem} {k0 : Nat} {x1 : Int32} {x2 : Int32} {x3 : Int32} {r : Mem} (hk0 : KD k0 = 4) (hm : sX4_recordVersion g k0 x1 x2 x3 = some r) : cV l yX4_recordVersion wmX4_recordVersion 0 0 wC G [.ref (G.1 k0), .int x1, .int x2, .int x3] g r :=
  mk_cV sameC (by decide +kernel) rfl (Nat.le_of_ble_eq_true rfl) (fun p e s m args below meth c A Q ls X kI hl Z => bX4_recordVersion_0 X kI g k0 x1 x2 x3 _ _ ls hk0 Z hl hm)
abbrev wmX4_add : List Cond := Cond.code yX4_add cX4_add 4 (some .int) :: wA0
set_option maxHeartbeats 4000000 in
set_option maxRecDepth 100000 in
theorem bX4_add_52 (X : gC p s m args meth c cX4_add 4 wmX4_add yX4_add.cls (some .int) G A) {n : Nat} {r : Int32 × Mem} (kI : ∀ (pc : Nat) (ls : Array Slot) (H : Heap) (locs : List Loc), decode cX4_add pc = .ok (.ireturn, 1) → WS wC G r.2 A s.heap H locs → narrow .int (.int r.1) = .int r.1 → W p l e { frames := 1, cells := 0, slots := 0, locals := 23 } s m args below meth c H locs 0 0 Q (F0 m pc ls [.int r.1])) : ∀ (f : Nat), ∀ (g : Mem) (k0 : Nat) (x2 : Int32) (x3 : Int32) (H : Heap) (locs : List Loc) (ls : Array Slot), KD k0 = 4 → WS wC G g A s.heap H locs → lv_has ls 4 [(0, .ref (G.1 k0)), (2, .int x2), (3, .int x3)] → sX4_add_52 n f g k0 x2 x3 = some r → W p l e { frames := 1, cells := 0, slots := 0, locals := 23 } s m args below meth c H locs 0 0 Q (F0 m 52 ls []) := by
  have hx := X.1
  have hb := X.2.1
  intro f
  induction f with
  | zero =>
    intro g k0 x2 x3 H locs ls hk0 Z hl hm
    cases hm
  | succ f ih =>
    intro g k0 x2 x3 H locs ls hk0 Z hl hm
    unfold sX4_add_52 at hm
    refine lv_iload_n hx hb dX4_add_52 rfl (lv_at hl 2 rfl) ?_
    refine lv_bipush (v := 8) hx hb dX4_add_53 (by decide) ?_
    refine lv_icmp_ge (tgt := 78) hx hb dX4_add_55 (by decide) (fun c1 => ?_) (fun c1 => ?_)
    · replace hm := (if_pos c1).symm.trans hm
      refine lv_iload_n hx hb dX4_add_78 rfl (lv_at hl 1 rfl) ?_
      obtain rfl := Option.some.inj hm
      exact kI _ _ _ _ dX4_add_79 Z (vp_nar_int _)
    · replace hm := (if_neg c1).symm.trans hm
      refine lv_aload_n hx hb dX4_add_58 rfl (lv_at hl 0 rfl) ?_
      refine lv_iload_n hx hb dX4_add_59 rfl (lv_at hl 1 rfl) ?_
      refine lv_iload_n hx hb dX4_add_60 rfl (lv_at hl 2 rfl) ?_
      refine lv_iconst (v := (-1)) hx hb dX4_add_61 (by decide) ?_
      obtain ⟨g4, e2, hm⟩ := sBi_some hm
      refine g_callVV (n := 3) (As := [.int x2, .int x3, .int (-1)]) (rest := []) sameC X Z (cX4_bufferValue_c l hk0 e2) (oX4 hk0) rfl (gooV mB112 mB113 mB114 mB30 mB109) rfl (by decide +kernel) rfl ⟨Nat.le_of_ble_eq_true rfl, Nat.le_of_ble_eq_true rfl⟩ ⟨Nat.le_of_ble_eq_true rfl, Nat.le_of_ble_eq_true rfl⟩ hl.1 rfl (Nat.le_of_ble_eq_true rfl) dX4_add_62 (fun H locs Z => ?_)
      refine lv_aload_n hx hb dX4_add_65 rfl (lv_at hl 0 rfl) ?_
      refine lv_iload_n hx hb dX4_add_66 rfl (lv_at hl 1 rfl) ?_
      refine lv_iload_n hx hb dX4_add_67 rfl (lv_at hl 2 rfl) ?_
      refine lv_iconst (v := (-1)) hx hb dX4_add_68 (by decide) ?_
      obtain ⟨g7, e5, hm⟩ := sBi_some hm
      refine g_callVV (n := 3) (As := [.int x2, .int x3, .int (-1)]) (rest := []) sameC X Z (cX4_recordVersion_c l hk0 e5) (oX4 hk0) rfl (gooV mB115 mB116 mB117 mB30 mB110) rfl (by decide +kernel) rfl ⟨Nat.le_of_ble_eq_true rfl, Nat.le_of_ble_eq_true rfl⟩ ⟨Nat.le_of_ble_eq_true rfl, Nat.le_of_ble_eq_true rfl⟩ hl.1 rfl (Nat.le_of_ble_eq_true rfl) dX4_add_69 (fun H locs Z => ?_)
      refine lv_iinc (v := (x3 + (1 : Int32))) (lv' := [(3, .int (x3 + (1 : Int32))), (0, .ref (G.1 k0)), (2, .int x2)]) hx hb dX4_add_72 hl (k := 2) rfl rfl (by decide) rfl (fun ls hl => ?_)
      refine lv_goto (tgt := 52) hx hb dX4_add_75 (by decide) ?_
      exact ih g7 k0 x2 (x3 + (1 : Int32)) _ _ _ hk0 Z (lv_sub hl [1, 2, 0] rfl) hm
set_option maxHeartbeats 4000000 in
set_option maxRecDepth 100000 in
theorem bX4_add_0 (X : gC p s m args meth c cX4_add 4 wmX4_add yX4_add.cls (some .int) G A) {n : Nat} {r : Int32 × Mem} (kI : ∀ (pc : Nat) (ls : Array Slot) (H : Heap) (locs : List Loc), decode cX4_add pc = .ok (.ireturn, 1) → WS wC G r.2 A s.heap H locs → narrow .int (.int r.1) = .int r.1 → W p l e { frames := 1, cells := 0, slots := 0, locals := 23 } s m args below meth c H locs 0 0 Q (F0 m pc ls [.int r.1])) : ∀ (g : Mem) (k0 : Nat) (x1 : Int32) (H : Heap) (locs : List Loc) (ls : Array Slot), KD k0 = 4 → WS wC G g A s.heap H locs → lv_has ls 4 [(0, .ref (G.1 k0)), (1, .int x1)] → sX4_add n g k0 x1 = some r → W p l e { frames := 1, cells := 0, slots := 0, locals := 23 } s m args below meth c H locs 0 0 Q (F0 m 0 ls []) := by
  have hx := X.1
  have hb := X.2.1
  intro g k0 x1 H locs ls hk0 Z hl hm
  unfold sX4_add at hm
  refine lv_aload_n hx hb dX4_add_0 rfl (lv_at hl 0 rfl) ?_
  refine g_get (j := 0) (v := .int (g k0 0)) X Z (oX4 hk0) (iB4 _) rfl (by decide) rfl (List.mem_cons_of_mem _ mB59) rfl dX4_add_1 ?_
  refine lv_istore_n (lv' := [(2, .int (g k0 0)), (0, .ref (G.1 k0)), (1, .int x1)]) hx hb dX4_add_4 rfl hl (by decide) rfl (fun ls hl => ?_)
  refine lv_aload_n hx hb dX4_add_5 rfl (lv_at hl 1 rfl) ?_
  refine lv_dup hx hb dX4_add_6 rfl ?_
  refine g_get (j := 0) (v := .int (g k0 0)) X Z (oX4 hk0) (iB4 _) rfl (by decide) rfl (List.mem_cons_of_mem _ mB59) rfl dX4_add_7 ?_
  refine lv_iconst (v := 1) hx hb dX4_add_10 (by decide) ?_
  refine lv_iadd hx hb dX4_add_11 ?_
  obtain ⟨g1, eg1, hm⟩ := sLet_some hm
  refine g_put (j := 0) eg1 X Z (oX4 hk0) (iB4 _) rfl tyX4_ok nmX4 (by decide) rfl rfl (Nat.le_of_ble_eq_true rfl) (p4_0 G g ((g k0 0) + (1 : Int32))) rfl (List.mem_cons_of_mem _ mB59) dX4_add_12 (fun H locs Z => ?_)
  refine lv_aload_n hx hb dX4_add_15 rfl (lv_at hl 1 rfl) ?_
  refine g_get (j := 1) (v := .ref (G.1 (k0 + 1))) X Z (oX4 hk0) (iB4 _) rfl (by decide) rfl (List.mem_cons_of_mem _ mB10) rfl dX4_add_16 ?_
  refine lv_iload_n hx hb dX4_add_19 rfl (lv_at hl 0 rfl) ?_
  refine lv_iload_n hx hb dX4_add_20 rfl (lv_at hl 2 rfl) ?_
  obtain ⟨b2, hm⟩ := sIdx_some hm
  obtain ⟨g3, eg3, hm⟩ := sLet_some hm
  refine g_iast eg3 X Z (aI (k41 hk0)) b2 dX4_add_21 (fun H locs Z => ?_)
  refine lv_aload_n hx hb dX4_add_22 rfl (lv_at hl 1 rfl) ?_
  refine g_get (j := 2) (v := .ref (G.1 (k0 + 2))) X Z (oX4 hk0) (iB4 _) rfl (by decide) rfl (List.mem_cons_of_mem _ mB11) rfl dX4_add_23 ?_
  refine lv_iload_n hx hb dX4_add_26 rfl (lv_at hl 0 rfl) ?_
  refine lv_iconst (v := 0) hx hb dX4_add_27 (by decide) ?_
  obtain ⟨b4, hm⟩ := sIdx_some hm
  obtain ⟨g5, eg5, hm⟩ := sLet_some hm
  refine g_iast eg5 X Z (aI (k42 hk0)) b4 dX4_add_28 (fun H locs Z => ?_)
  refine lv_aload_n hx hb dX4_add_29 rfl (lv_at hl 1 rfl) ?_
  refine g_get (j := 3) (v := .ref (G.1 (k0 + 3))) X Z (oX4 hk0) (iB4 _) rfl (by decide) rfl (List.mem_cons_of_mem _ mB12) rfl dX4_add_30 ?_
  refine lv_iload_n hx hb dX4_add_33 rfl (lv_at hl 0 rfl) ?_
  refine lv_iconst (v := (-1)) hx hb dX4_add_34 (by decide) ?_
  obtain ⟨b6, hm⟩ := sIdx_some hm
  obtain ⟨g7, eg7, hm⟩ := sLet_some hm
  refine g_iast eg7 X Z (aI (k43 hk0)) b6 dX4_add_35 (fun H locs Z => ?_)
  refine lv_aload_n hx hb dX4_add_36 rfl (lv_at hl 1 rfl) ?_
  refine g_get (j := 4) (v := .ref (G.1 (k0 + 4))) X Z (oX4 hk0) (iB4 _) rfl (by decide) rfl (List.mem_cons_of_mem _ mB13) rfl dX4_add_37 ?_
  refine lv_iload_n hx hb dX4_add_40 rfl (lv_at hl 0 rfl) ?_
  refine lv_iconst (v := (-1)) hx hb dX4_add_41 (by decide) ?_
  obtain ⟨b8, hm⟩ := sIdx_some hm
  obtain ⟨g9, eg9, hm⟩ := sLet_some hm
  refine g_iast eg9 X Z (aI (k44 hk0)) b8 dX4_add_42 (fun H locs Z => ?_)
  refine lv_aload_n hx hb dX4_add_43 rfl (lv_at hl 1 rfl) ?_
  refine g_get (j := 5) (v := .ref (G.1 (k0 + 5))) X Z (oX4 hk0) (iB4 _) rfl (by decide) rfl (List.mem_cons_of_mem _ mB14) rfl dX4_add_44 ?_
  refine lv_iload_n hx hb dX4_add_47 rfl (lv_at hl 0 rfl) ?_
  refine lv_iconst (v := (-1)) hx hb dX4_add_48 (by decide) ?_
  obtain ⟨b10, hm⟩ := sIdx_some hm
  obtain ⟨g11, eg11, hm⟩ := sLet_some hm
  refine g_iast eg11 X Z (aI (k45 hk0)) b10 dX4_add_49 (fun H locs Z => ?_)
  refine lv_iconst (v := 0) hx hb dX4_add_50 (by decide) ?_
  refine lv_istore_n (lv' := [(3, .int 0), (2, .int (g k0 0)), (0, .ref (G.1 k0)), (1, .int x1)]) hx hb dX4_add_51 rfl hl (by decide) rfl (fun ls hl => ?_)
  exact bX4_add_52 X kI n g11 k0 (g k0 0) (0 : Int32) _ _ _ hk0 Z (lv_sub hl [2, 1, 0] rfl) hm
theorem cX4_add_c (l : Launch) {G : LY} {g : Mem} {n : Nat} {k0 : Nat} {x1 : Int32} {r : Int32 × Mem} (hk0 : KD k0 = 4) (hm : sX4_add n g k0 x1 = some r) : cI l yX4_add wmX4_add 1 23 .int wC G [.ref (G.1 k0), .int x1] g r.1 r.2 :=
  mk_cI sameC (by decide +kernel) rfl (Nat.le_of_ble_eq_true rfl) (fun p e s m args below meth c A Q ls X kI hl Z => bX4_add_0 X kI g k0 x1 _ _ ls hk0 Z hl hm)
abbrev wmX4_isOpen : List Cond := Cond.code yX4_isOpen cX4_isOpen 2 (some .boolean) :: wA0
set_option maxHeartbeats 4000000 in
set_option maxRecDepth 100000 in
theorem bX4_isOpen_0 (X : gC p s m args meth c cX4_isOpen 2 wmX4_isOpen yX4_isOpen.cls (some .boolean) G A) {g : Mem} {r : Int32} (kI : ∀ (pc : Nat) (ls : Array Slot) (H : Heap) (locs : List Loc), decode cX4_isOpen pc = .ok (.ireturn, 1) → WS wC G g A s.heap H locs → narrow .boolean (.int r) = .int r → W p l e { frames := 0, cells := 0, slots := 0, locals := 0 } s m args below meth c H locs 0 0 Q (F0 m pc ls [.int r])) : ∀ (k0 : Nat) (x1 : Int32) (H : Heap) (locs : List Loc) (ls : Array Slot), KD k0 = 4 → WS wC G g A s.heap H locs → lv_has ls 2 [(0, .ref (G.1 k0)), (1, .int x1)] → sX4_isOpen g k0 x1 = some r → W p l e { frames := 0, cells := 0, slots := 0, locals := 0 } s m args below meth c H locs 0 0 Q (F0 m 0 ls []) := by
  have hx := X.1
  have hb := X.2.1
  intro k0 x1 H locs ls hk0 Z hl hm
  unfold sX4_isOpen at hm
  refine lv_iload_n hx hb dX4_isOpen_0 rfl (lv_at hl 1 rfl) ?_
  refine lv_if_lt (tgt := 25) hx hb dX4_isOpen_1 (by decide) (fun c1 => ?_) (fun c1 => ?_)
  · replace hm := (if_pos c1).symm.trans hm
    refine lv_iconst (v := 0) hx hb dX4_isOpen_25 (by decide) ?_
    obtain rfl := Option.some.inj hm
    exact kI _ _ _ _ dX4_isOpen_26 Z nb0
  · replace hm := (if_neg c1).symm.trans hm
    refine lv_iload_n hx hb dX4_isOpen_4 rfl (lv_at hl 1 rfl) ?_
    refine lv_aload_n hx hb dX4_isOpen_5 rfl (lv_at hl 0 rfl) ?_
    refine g_get (j := 0) (v := .int (g k0 0)) X Z (oX4 hk0) (iB4 _) rfl (by decide) rfl (List.mem_cons_of_mem _ mB59) rfl dX4_isOpen_6 ?_
    refine lv_icmp_ge (tgt := 25) hx hb dX4_isOpen_9 (by decide) (fun c2 => ?_) (fun c2 => ?_)
    · replace hm := (if_pos c2).symm.trans hm
      refine lv_iconst (v := 0) hx hb dX4_isOpen_25 (by decide) ?_
      obtain rfl := Option.some.inj hm
      exact kI _ _ _ _ dX4_isOpen_26 Z nb0
    · replace hm := (if_neg c2).symm.trans hm
      refine lv_aload_n hx hb dX4_isOpen_12 rfl (lv_at hl 0 rfl) ?_
      refine g_get (j := 2) (v := .ref (G.1 (k0 + 2))) X Z (oX4 hk0) (iB4 _) rfl (by decide) rfl (List.mem_cons_of_mem _ mB11) rfl dX4_isOpen_13 ?_
      refine lv_iload_n hx hb dX4_isOpen_16 rfl (lv_at hl 1 rfl) ?_
      obtain ⟨b3, hm⟩ := sIdx_some hm
      refine g_iald X Z (aI (k42 hk0)) b3 dX4_isOpen_17 ?_
      refine lv_if_ne (tgt := 25) hx hb dX4_isOpen_18 (by decide) (fun c4 => ?_) (fun c4 => ?_)
      · replace hm := (if_neg c4).symm.trans hm
        refine lv_iconst (v := 0) hx hb dX4_isOpen_25 (by decide) ?_
        obtain rfl := Option.some.inj hm
        exact kI _ _ _ _ dX4_isOpen_26 Z nb0
      · replace hm := (if_pos c4).symm.trans hm
        refine lv_iconst (v := 1) hx hb dX4_isOpen_21 (by decide) ?_
        refine lv_goto (tgt := 26) hx hb dX4_isOpen_22 (by decide) ?_
        obtain rfl := Option.some.inj hm
        exact kI _ _ _ _ dX4_isOpen_26 Z nb1
theorem cX4_isOpen_c (l : Launch) {G : LY} {g : Mem} {k0 : Nat} {x1 : Int32} {r : Int32} (hk0 : KD k0 = 4) (hm : sX4_isOpen g k0 x1 = some r) : cI l yX4_isOpen wmX4_isOpen 0 0 .boolean wC G [.ref (G.1 k0), .int x1] g r g :=
  mk_cI sameC (by decide +kernel) rfl (Nat.le_of_ble_eq_true rfl) (fun p e s m args below meth c A Q ls X kI hl Z => bX4_isOpen_0 X kI k0 x1 _ _ ls hk0 Z hl hm)
abbrev wmX4_bufferOf : List Cond := Cond.code yX4_bufferOf cX4_bufferOf 3 (some .int) :: wA0
set_option maxHeartbeats 4000000 in
set_option maxRecDepth 100000 in
theorem bX4_bufferOf_0 (X : gC p s m args meth c cX4_bufferOf 3 wmX4_bufferOf yX4_bufferOf.cls (some .int) G A) {g : Mem} {r : Int32} (kI : ∀ (pc : Nat) (ls : Array Slot) (H : Heap) (locs : List Loc), decode cX4_bufferOf pc = .ok (.ireturn, 1) → WS wC G g A s.heap H locs → narrow .int (.int r) = .int r → W p l e { frames := 0, cells := 0, slots := 0, locals := 0 } s m args below meth c H locs 0 0 Q (F0 m pc ls [.int r])) : ∀ (k0 : Nat) (x1 : Int32) (x2 : Int32) (H : Heap) (locs : List Loc) (ls : Array Slot), KD k0 = 4 → WS wC G g A s.heap H locs → lv_has ls 3 [(0, .ref (G.1 k0)), (1, .int x1), (2, .int x2)] → sX4_bufferOf g k0 x1 x2 = some r → W p l e { frames := 0, cells := 0, slots := 0, locals := 0 } s m args below meth c H locs 0 0 Q (F0 m 0 ls []) := by
  have hx := X.1
  have hb := X.2.1
  intro k0 x1 x2 H locs ls hk0 Z hl hm
  unfold sX4_bufferOf at hm
  refine lv_aload_n hx hb dX4_bufferOf_0 rfl (lv_at hl 0 rfl) ?_
  refine g_get (j := 6) (v := .ref (G.1 (k0 + 6))) X Z (oX4 hk0) (iB4 _) rfl (by decide) rfl (List.mem_cons_of_mem _ mB15) rfl dX4_bufferOf_1 ?_
  refine lv_iload_n hx hb dX4_bufferOf_4 rfl (lv_at hl 1 rfl) ?_
  refine lv_bipush (v := 8) hx hb dX4_bufferOf_5 (by decide) ?_
  refine lv_imul hx hb dX4_bufferOf_7 ?_
  refine lv_iload_n hx hb dX4_bufferOf_8 rfl (lv_at hl 2 rfl) ?_
  refine lv_iadd hx hb dX4_bufferOf_9 ?_
  obtain ⟨b1, hm⟩ := sIdx_some hm
  refine g_iald X Z (aI (k46 hk0)) b1 dX4_bufferOf_10 ?_
  obtain rfl := Option.some.inj hm
  exact kI _ _ _ _ dX4_bufferOf_11 Z (vp_nar_int _)
theorem cX4_bufferOf_c (l : Launch) {G : LY} {g : Mem} {k0 : Nat} {x1 : Int32} {x2 : Int32} {r : Int32} (hk0 : KD k0 = 4) (hm : sX4_bufferOf g k0 x1 x2 = some r) : cI l yX4_bufferOf wmX4_bufferOf 0 0 .int wC G [.ref (G.1 k0), .int x1, .int x2] g r g :=
  mk_cI sameC (by decide +kernel) rfl (Nat.le_of_ble_eq_true rfl) (fun p e s m args below meth c A Q ls X kI hl Z => bX4_bufferOf_0 X kI k0 x1 x2 _ _ ls hk0 Z hl hm)
abbrev wmX4_hasWritten : List Cond := Cond.code yX4_hasWritten cX4_hasWritten 3 (some .boolean) :: wA0
set_option maxHeartbeats 4000000 in
set_option maxRecDepth 100000 in
theorem bX4_hasWritten_0 (X : gC p s m args meth c cX4_hasWritten 3 wmX4_hasWritten yX4_hasWritten.cls (some .boolean) G A) {g : Mem} {r : Int32} (kI : ∀ (pc : Nat) (ls : Array Slot) (H : Heap) (locs : List Loc), decode cX4_hasWritten pc = .ok (.ireturn, 1) → WS wC G g A s.heap H locs → narrow .boolean (.int r) = .int r → W p l e { frames := 0, cells := 0, slots := 0, locals := 0 } s m args below meth c H locs 0 0 Q (F0 m pc ls [.int r])) : ∀ (k0 : Nat) (x1 : Int32) (x2 : Int32) (H : Heap) (locs : List Loc) (ls : Array Slot), KD k0 = 4 → WS wC G g A s.heap H locs → lv_has ls 3 [(0, .ref (G.1 k0)), (1, .int x1), (2, .int x2)] → sX4_hasWritten g k0 x1 x2 = some r → W p l e { frames := 0, cells := 0, slots := 0, locals := 0 } s m args below meth c H locs 0 0 Q (F0 m 0 ls []) := by
  have hx := X.1
  have hb := X.2.1
  intro k0 x1 x2 H locs ls hk0 Z hl hm
  unfold sX4_hasWritten at hm
  refine lv_aload_n hx hb dX4_hasWritten_0 rfl (lv_at hl 0 rfl) ?_
  refine g_get (j := 6) (v := .ref (G.1 (k0 + 6))) X Z (oX4 hk0) (iB4 _) rfl (by decide) rfl (List.mem_cons_of_mem _ mB15) rfl dX4_hasWritten_1 ?_
  refine lv_iload_n hx hb dX4_hasWritten_4 rfl (lv_at hl 1 rfl) ?_
  refine lv_bipush (v := 8) hx hb dX4_hasWritten_5 (by decide) ?_
  refine lv_imul hx hb dX4_hasWritten_7 ?_
  refine lv_iload_n hx hb dX4_hasWritten_8 rfl (lv_at hl 2 rfl) ?_
  refine lv_iadd hx hb dX4_hasWritten_9 ?_
  obtain ⟨b1, hm⟩ := sIdx_some hm
  refine g_iald X Z (aI (k46 hk0)) b1 dX4_hasWritten_10 ?_
  refine lv_iconst (v := (-1)) hx hb dX4_hasWritten_11 (by decide) ?_
  refine lv_icmp_eq (tgt := 19) hx hb dX4_hasWritten_12 (by decide) (fun c2 => ?_) (fun c2 => ?_)
  · replace hm := (if_pos c2).symm.trans hm
    refine lv_iconst (v := 0) hx hb dX4_hasWritten_19 (by decide) ?_
    obtain rfl := Option.some.inj hm
    exact kI _ _ _ _ dX4_hasWritten_20 Z nb0
  · replace hm := (if_neg c2).symm.trans hm
    refine lv_iconst (v := 1) hx hb dX4_hasWritten_15 (by decide) ?_
    refine lv_goto (tgt := 20) hx hb dX4_hasWritten_16 (by decide) ?_
    obtain rfl := Option.some.inj hm
    exact kI _ _ _ _ dX4_hasWritten_20 Z nb1
theorem cX4_hasWritten_c (l : Launch) {G : LY} {g : Mem} {k0 : Nat} {x1 : Int32} {x2 : Int32} {r : Int32} (hk0 : KD k0 = 4) (hm : sX4_hasWritten g k0 x1 x2 = some r) : cI l yX4_hasWritten wmX4_hasWritten 0 0 .boolean wC G [.ref (G.1 k0), .int x1, .int x2] g r g :=
  mk_cI sameC (by decide +kernel) rfl (Nat.le_of_ble_eq_true rfl) (fun p e s m args below meth c A Q ls X kI hl Z => bX4_hasWritten_0 X kI k0 x1 x2 _ _ ls hk0 Z hl hm)
abbrev wmX4_recordedVersion : List Cond := Cond.code yX4_recordedVersion cX4_recordedVersion 3 (some .int) :: wA0
set_option maxHeartbeats 4000000 in
set_option maxRecDepth 100000 in
theorem bX4_recordedVersion_0 (X : gC p s m args meth c cX4_recordedVersion 3 wmX4_recordedVersion yX4_recordedVersion.cls (some .int) G A) {g : Mem} {r : Int32} (kI : ∀ (pc : Nat) (ls : Array Slot) (H : Heap) (locs : List Loc), decode cX4_recordedVersion pc = .ok (.ireturn, 1) → WS wC G g A s.heap H locs → narrow .int (.int r) = .int r → W p l e { frames := 0, cells := 0, slots := 0, locals := 0 } s m args below meth c H locs 0 0 Q (F0 m pc ls [.int r])) : ∀ (k0 : Nat) (x1 : Int32) (x2 : Int32) (H : Heap) (locs : List Loc) (ls : Array Slot), KD k0 = 4 → WS wC G g A s.heap H locs → lv_has ls 3 [(0, .ref (G.1 k0)), (1, .int x1), (2, .int x2)] → sX4_recordedVersion g k0 x1 x2 = some r → W p l e { frames := 0, cells := 0, slots := 0, locals := 0 } s m args below meth c H locs 0 0 Q (F0 m 0 ls []) := by
  have hx := X.1
  have hb := X.2.1
  intro k0 x1 x2 H locs ls hk0 Z hl hm
  unfold sX4_recordedVersion at hm
  refine lv_aload_n hx hb dX4_recordedVersion_0 rfl (lv_at hl 0 rfl) ?_
  refine g_get (j := 7) (v := .ref (G.1 (k0 + 7))) X Z (oX4 hk0) (iB4 _) rfl (by decide) rfl (List.mem_cons_of_mem _ mB16) rfl dX4_recordedVersion_1 ?_
  refine lv_iload_n hx hb dX4_recordedVersion_4 rfl (lv_at hl 1 rfl) ?_
  refine lv_bipush (v := 8) hx hb dX4_recordedVersion_5 (by decide) ?_
  refine lv_imul hx hb dX4_recordedVersion_7 ?_
  refine lv_iload_n hx hb dX4_recordedVersion_8 rfl (lv_at hl 2 rfl) ?_
  refine lv_iadd hx hb dX4_recordedVersion_9 ?_
  obtain ⟨b1, hm⟩ := sIdx_some hm
  refine g_iald X Z (aI (k47 hk0)) b1 dX4_recordedVersion_10 ?_
  obtain rfl := Option.some.inj hm
  exact kI _ _ _ _ dX4_recordedVersion_11 Z (vp_nar_int _)
theorem cX4_recordedVersion_c (l : Launch) {G : LY} {g : Mem} {k0 : Nat} {x1 : Int32} {x2 : Int32} {r : Int32} (hk0 : KD k0 = 4) (hm : sX4_recordedVersion g k0 x1 x2 = some r) : cI l yX4_recordedVersion wmX4_recordedVersion 0 0 .int wC G [.ref (G.1 k0), .int x1, .int x2] g r g :=
  mk_cI sameC (by decide +kernel) rfl (Nat.le_of_ble_eq_true rfl) (fun p e s m args below meth c A Q ls X kI hl Z => bX4_recordedVersion_0 X kI k0 x1 x2 _ _ ls hk0 Z hl hm)
abbrev wmX4_hasRead : List Cond := Cond.code yX4_hasRead cX4_hasRead 3 (some .boolean) :: wA0
set_option maxHeartbeats 4000000 in
set_option maxRecDepth 100000 in
theorem bX4_hasRead_0 (X : gC p s m args meth c cX4_hasRead 3 wmX4_hasRead yX4_hasRead.cls (some .boolean) G A) {g : Mem} {r : Int32} (kI : ∀ (pc : Nat) (ls : Array Slot) (H : Heap) (locs : List Loc), decode cX4_hasRead pc = .ok (.ireturn, 1) → WS wC G g A s.heap H locs → narrow .boolean (.int r) = .int r → W p l e { frames := 0, cells := 0, slots := 0, locals := 0 } s m args below meth c H locs 0 0 Q (F0 m pc ls [.int r])) : ∀ (k0 : Nat) (x1 : Int32) (x2 : Int32) (H : Heap) (locs : List Loc) (ls : Array Slot), KD k0 = 4 → WS wC G g A s.heap H locs → lv_has ls 3 [(0, .ref (G.1 k0)), (1, .int x1), (2, .int x2)] → sX4_hasRead g k0 x1 x2 = some r → W p l e { frames := 0, cells := 0, slots := 0, locals := 0 } s m args below meth c H locs 0 0 Q (F0 m 0 ls []) := by
  have hx := X.1
  have hb := X.2.1
  intro k0 x1 x2 H locs ls hk0 Z hl hm
  unfold sX4_hasRead at hm
  refine lv_aload_n hx hb dX4_hasRead_0 rfl (lv_at hl 0 rfl) ?_
  refine g_get (j := 7) (v := .ref (G.1 (k0 + 7))) X Z (oX4 hk0) (iB4 _) rfl (by decide) rfl (List.mem_cons_of_mem _ mB16) rfl dX4_hasRead_1 ?_
  refine lv_iload_n hx hb dX4_hasRead_4 rfl (lv_at hl 1 rfl) ?_
  refine lv_bipush (v := 8) hx hb dX4_hasRead_5 (by decide) ?_
  refine lv_imul hx hb dX4_hasRead_7 ?_
  refine lv_iload_n hx hb dX4_hasRead_8 rfl (lv_at hl 2 rfl) ?_
  refine lv_iadd hx hb dX4_hasRead_9 ?_
  obtain ⟨b1, hm⟩ := sIdx_some hm
  refine g_iald X Z (aI (k47 hk0)) b1 dX4_hasRead_10 ?_
  refine lv_iconst (v := (-1)) hx hb dX4_hasRead_11 (by decide) ?_
  refine lv_icmp_eq (tgt := 19) hx hb dX4_hasRead_12 (by decide) (fun c2 => ?_) (fun c2 => ?_)
  · replace hm := (if_pos c2).symm.trans hm
    refine lv_iconst (v := 0) hx hb dX4_hasRead_19 (by decide) ?_
    obtain rfl := Option.some.inj hm
    exact kI _ _ _ _ dX4_hasRead_20 Z nb0
  · replace hm := (if_neg c2).symm.trans hm
    refine lv_iconst (v := 1) hx hb dX4_hasRead_15 (by decide) ?_
    refine lv_goto (tgt := 20) hx hb dX4_hasRead_16 (by decide) ?_
    obtain rfl := Option.some.inj hm
    exact kI _ _ _ _ dX4_hasRead_20 Z nb1
theorem cX4_hasRead_c (l : Launch) {G : LY} {g : Mem} {k0 : Nat} {x1 : Int32} {x2 : Int32} {r : Int32} (hk0 : KD k0 = 4) (hm : sX4_hasRead g k0 x1 x2 = some r) : cI l yX4_hasRead wmX4_hasRead 0 0 .boolean wC G [.ref (G.1 k0), .int x1, .int x2] g r g :=
  mk_cI sameC (by decide +kernel) rfl (Nat.le_of_ble_eq_true rfl) (fun p e s m args below meth c A Q ls X kI hl Z => bX4_hasRead_0 X kI k0 x1 x2 _ _ ls hk0 Z hl hm)
abbrev wmX4_hasTouched : List Cond := Cond.code yX4_hasTouched cX4_hasTouched 3 (some .boolean) :: wA0
set_option maxHeartbeats 4000000 in
set_option maxRecDepth 100000 in
theorem bX4_hasTouched_0 (X : gC p s m args meth c cX4_hasTouched 3 wmX4_hasTouched yX4_hasTouched.cls (some .boolean) G A) {g : Mem} {r : Int32} (kI : ∀ (pc : Nat) (ls : Array Slot) (H : Heap) (locs : List Loc), decode cX4_hasTouched pc = .ok (.ireturn, 1) → WS wC G g A s.heap H locs → narrow .boolean (.int r) = .int r → W p l e { frames := 1, cells := 0, slots := 0, locals := 22 } s m args below meth c H locs 0 0 Q (F0 m pc ls [.int r])) : ∀ (k0 : Nat) (x1 : Int32) (x2 : Int32) (H : Heap) (locs : List Loc) (ls : Array Slot), KD k0 = 4 → WS wC G g A s.heap H locs → lv_has ls 3 [(0, .ref (G.1 k0)), (1, .int x1), (2, .int x2)] → sX4_hasTouched g k0 x1 x2 = some r → W p l e { frames := 1, cells := 0, slots := 0, locals := 22 } s m args below meth c H locs 0 0 Q (F0 m 0 ls []) := by
  have hx := X.1
  have hb := X.2.1
  intro k0 x1 x2 H locs ls hk0 Z hl hm
  unfold sX4_hasTouched at hm
  refine lv_aload_n hx hb dX4_hasTouched_0 rfl (lv_at hl 0 rfl) ?_
  refine lv_iload_n hx hb dX4_hasTouched_1 rfl (lv_at hl 1 rfl) ?_
  refine lv_iload_n hx hb dX4_hasTouched_2 rfl (lv_at hl 2 rfl) ?_
  obtain ⟨r3, e1, hm⟩ := sBi_some hm
  refine g_callVI (n := 2) (As := [.int x1, .int x2]) (rest := []) sameC X Z (cX4_hasRead_c l hk0 e1) (oX4 hk0) rfl (gooV mB157 mB135 mB136 mB30 mB124) rfl (by decide +kernel) rfl ⟨Nat.le_of_ble_eq_true rfl, Nat.le_of_ble_eq_true rfl⟩ ⟨Nat.le_of_ble_eq_true rfl, Nat.le_of_ble_eq_true rfl⟩ hl.1 rfl (Nat.le_of_ble_eq_true rfl) dX4_hasTouched_3 (fun w2 H locs Z => ?_)
  refine lv_if_ne (tgt := 18) hx hb dX4_hasTouched_6 (by decide) (fun c4 => ?_) (fun c4 => ?_)
  · replace hm := (if_neg c4).symm.trans hm
    refine lv_iconst (v := 1) hx hb dX4_hasTouched_18 (by decide) ?_
    refine lv_goto (tgt := 23) hx hb dX4_hasTouched_19 (by decide) ?_
    obtain rfl := Option.some.inj hm
    exact kI _ _ _ _ dX4_hasTouched_23 Z nb1
  · replace hm := (if_pos c4).symm.trans hm
    refine lv_aload_n hx hb dX4_hasTouched_9 rfl (lv_at hl 0 rfl) ?_
    refine lv_iload_n hx hb dX4_hasTouched_10 rfl (lv_at hl 1 rfl) ?_
    refine lv_iload_n hx hb dX4_hasTouched_11 rfl (lv_at hl 2 rfl) ?_
    obtain ⟨r7, e5, hm⟩ := sBi_some hm
    refine g_callVI (n := 2) (As := [.int x1, .int x2]) (rest := []) sameC X Z (cX4_hasWritten_c l hk0 e5) (oX4 hk0) rfl (gooV mB149 mB129 mB130 mB30 mB122) rfl (by decide +kernel) rfl ⟨Nat.le_of_ble_eq_true rfl, Nat.le_of_ble_eq_true rfl⟩ ⟨Nat.le_of_ble_eq_true rfl, Nat.le_of_ble_eq_true rfl⟩ hl.1 rfl (Nat.le_of_ble_eq_true rfl) dX4_hasTouched_12 (fun w6 H locs Z => ?_)
    refine lv_if_eq (tgt := 22) hx hb dX4_hasTouched_15 (by decide) (fun c8 => ?_) (fun c8 => ?_)
    · replace hm := (if_pos c8).symm.trans hm
      refine lv_iconst (v := 0) hx hb dX4_hasTouched_22 (by decide) ?_
      obtain rfl := Option.some.inj hm
      exact kI _ _ _ _ dX4_hasTouched_23 Z nb0
    · replace hm := (if_neg c8).symm.trans hm
      refine lv_iconst (v := 1) hx hb dX4_hasTouched_18 (by decide) ?_
      refine lv_goto (tgt := 23) hx hb dX4_hasTouched_19 (by decide) ?_
      obtain rfl := Option.some.inj hm
      exact kI _ _ _ _ dX4_hasTouched_23 Z nb1
theorem cX4_hasTouched_c (l : Launch) {G : LY} {g : Mem} {k0 : Nat} {x1 : Int32} {x2 : Int32} {r : Int32} (hk0 : KD k0 = 4) (hm : sX4_hasTouched g k0 x1 x2 = some r) : cI l yX4_hasTouched wmX4_hasTouched 1 22 .boolean wC G [.ref (G.1 k0), .int x1, .int x2] g r g :=
  mk_cI sameC (by decide +kernel) rfl (Nat.le_of_ble_eq_true rfl) (fun p e s m args below meth c A Q ls X kI hl Z => bX4_hasTouched_0 X kI k0 x1 x2 _ _ ls hk0 Z hl hm)
abbrev wmX4_writtenKeys : List Cond := Cond.code yX4_writtenKeys cX4_writtenKeys 4 (some .int) :: wA0
set_option maxHeartbeats 4000000 in
set_option maxRecDepth 100000 in
theorem bX4_writtenKeys_4 (X : gC p s m args meth c cX4_writtenKeys 4 wmX4_writtenKeys yX4_writtenKeys.cls (some .int) G A) {n : Nat} {g : Mem} {r : Int32} (kI : ∀ (pc : Nat) (ls : Array Slot) (H : Heap) (locs : List Loc), decode cX4_writtenKeys pc = .ok (.ireturn, 1) → WS wC G g A s.heap H locs → narrow .int (.int r) = .int r → W p l e { frames := 1, cells := 0, slots := 0, locals := 22 } s m args below meth c H locs 0 0 Q (F0 m pc ls [.int r])) : ∀ (f : Nat), ∀ (k0 : Nat) (x1 : Int32) (x2 : Int32) (x3 : Int32) (H : Heap) (locs : List Loc) (ls : Array Slot), KD k0 = 4 → WS wC G g A s.heap H locs → lv_has ls 4 [(0, .ref (G.1 k0)), (1, .int x1), (2, .int x2), (3, .int x3)] → sX4_writtenKeys_4 n g f k0 x1 x2 x3 = some r → W p l e { frames := 1, cells := 0, slots := 0, locals := 22 } s m args below meth c H locs 0 0 Q (F0 m 4 ls []) := by
  have hx := X.1
  have hb := X.2.1
  intro f
  induction f with
  | zero =>
    intro k0 x1 x2 x3 H locs ls hk0 Z hl hm
    cases hm
  | succ f ih =>
    intro k0 x1 x2 x3 H locs ls hk0 Z hl hm
    unfold sX4_writtenKeys_4 at hm
    refine lv_iload_n hx hb dX4_writtenKeys_4 rfl (lv_at hl 3 rfl) ?_
    refine lv_bipush (v := 8) hx hb dX4_writtenKeys_5 (by decide) ?_
    refine lv_icmp_ge (tgt := 28) hx hb dX4_writtenKeys_7 (by decide) (fun c1 => ?_) (fun c1 => ?_)
    · replace hm := (if_pos c1).symm.trans hm
      refine lv_iload_n hx hb dX4_writtenKeys_28 rfl (lv_at hl 2 rfl) ?_
      obtain rfl := Option.some.inj hm
      exact kI _ _ _ _ dX4_writtenKeys_29 Z (vp_nar_int _)
    · replace hm := (if_neg c1).symm.trans hm
      refine lv_aload_n hx hb dX4_writtenKeys_10 rfl (lv_at hl 0 rfl) ?_
      refine lv_iload_n hx hb dX4_writtenKeys_11 rfl (lv_at hl 1 rfl) ?_
      refine lv_iload_n hx hb dX4_writtenKeys_12 rfl (lv_at hl 3 rfl) ?_
      obtain ⟨r4, e2, hm⟩ := sBi_some hm
      refine g_callVI (n := 2) (As := [.int x1, .int x3]) (rest := []) sameC X Z (cX4_hasWritten_c l hk0 e2) (oX4 hk0) rfl (gooV mB149 mB129 mB130 mB30 mB122) rfl (by decide +kernel) rfl ⟨Nat.le_of_ble_eq_true rfl, Nat.le_of_ble_eq_true rfl⟩ ⟨Nat.le_of_ble_eq_true rfl, Nat.le_of_ble_eq_true rfl⟩ hl.1 rfl (Nat.le_of_ble_eq_true rfl) dX4_writtenKeys_13 (fun w3 H locs Z => ?_)
      refine lv_if_eq (tgt := 22) hx hb dX4_writtenKeys_16 (by decide) (fun c5 => ?_) (fun c5 => ?_)
      · replace hm := (if_pos c5).symm.trans hm
        refine lv_iinc (v := (x3 + (1 : Int32))) (lv' := [(3, .int (x3 + (1 : Int32))), (0, .ref (G.1 k0)), (1, .int x1), (2, .int x2)]) hx hb dX4_writtenKeys_22 hl (k := 3) rfl rfl (by decide) rfl (fun ls hl => ?_)
        refine lv_goto (tgt := 4) hx hb dX4_writtenKeys_25 (by decide) ?_
        exact ih k0 x1 x2 (x3 + (1 : Int32)) _ _ _ hk0 Z (lv_sub hl [1, 2, 3, 0] rfl) hm
      · replace hm := (if_neg c5).symm.trans hm
        refine lv_iinc (v := (x2 + (1 : Int32))) (lv' := [(2, .int (x2 + (1 : Int32))), (0, .ref (G.1 k0)), (1, .int x1), (3, .int x3)]) hx hb dX4_writtenKeys_19 hl (k := 2) rfl rfl (by decide) rfl (fun ls hl => ?_)
        refine lv_iinc (v := (x3 + (1 : Int32))) (lv' := [(3, .int (x3 + (1 : Int32))), (2, .int (x2 + (1 : Int32))), (0, .ref (G.1 k0)), (1, .int x1)]) hx hb dX4_writtenKeys_22 hl (k := 3) rfl rfl (by decide) rfl (fun ls hl => ?_)
        refine lv_goto (tgt := 4) hx hb dX4_writtenKeys_25 (by decide) ?_
        exact ih k0 x1 (x2 + (1 : Int32)) (x3 + (1 : Int32)) _ _ _ hk0 Z (lv_sub hl [2, 3, 1, 0] rfl) hm
set_option maxHeartbeats 4000000 in
set_option maxRecDepth 100000 in
theorem bX4_writtenKeys_0 (X : gC p s m args meth c cX4_writtenKeys 4 wmX4_writtenKeys yX4_writtenKeys.cls (some .int) G A) {n : Nat} {g : Mem} {r : Int32} (kI : ∀ (pc : Nat) (ls : Array Slot) (H : Heap) (locs : List Loc), decode cX4_writtenKeys pc = .ok (.ireturn, 1) → WS wC G g A s.heap H locs → narrow .int (.int r) = .int r → W p l e { frames := 1, cells := 0, slots := 0, locals := 22 } s m args below meth c H locs 0 0 Q (F0 m pc ls [.int r])) : ∀ (k0 : Nat) (x1 : Int32) (H : Heap) (locs : List Loc) (ls : Array Slot), KD k0 = 4 → WS wC G g A s.heap H locs → lv_has ls 4 [(0, .ref (G.1 k0)), (1, .int x1)] → sX4_writtenKeys n g k0 x1 = some r → W p l e { frames := 1, cells := 0, slots := 0, locals := 22 } s m args below meth c H locs 0 0 Q (F0 m 0 ls []) := by
  have hx := X.1
  have hb := X.2.1
  intro k0 x1 H locs ls hk0 Z hl hm
  unfold sX4_writtenKeys at hm
  refine lv_iconst (v := 0) hx hb dX4_writtenKeys_0 (by decide) ?_
  refine lv_istore_n (lv' := [(2, .int 0), (0, .ref (G.1 k0)), (1, .int x1)]) hx hb dX4_writtenKeys_1 rfl hl (by decide) rfl (fun ls hl => ?_)
  refine lv_iconst (v := 0) hx hb dX4_writtenKeys_2 (by decide) ?_
  refine lv_istore_n (lv' := [(3, .int 0), (2, .int 0), (0, .ref (G.1 k0)), (1, .int x1)]) hx hb dX4_writtenKeys_3 rfl hl (by decide) rfl (fun ls hl => ?_)
  exact bX4_writtenKeys_4 X kI n k0 x1 (0 : Int32) (0 : Int32) _ _ _ hk0 Z (lv_sub hl [2, 3, 1, 0] rfl) hm
theorem cX4_writtenKeys_c (l : Launch) {G : LY} {g : Mem} {n : Nat} {k0 : Nat} {x1 : Int32} {r : Int32} (hk0 : KD k0 = 4) (hm : sX4_writtenKeys n g k0 x1 = some r) : cI l yX4_writtenKeys wmX4_writtenKeys 1 22 .int wC G [.ref (G.1 k0), .int x1] g r g :=
  mk_cI sameC (by decide +kernel) rfl (Nat.le_of_ble_eq_true rfl) (fun p e s m args below meth c A Q ls X kI hl Z => bX4_writtenKeys_0 X kI k0 x1 _ _ ls hk0 Z hl hm)
abbrev wmX4_locks : List Cond := Cond.code yX4_locks cX4_locks 4 (some .boolean) :: wA0
set_option maxHeartbeats 4000000 in
set_option maxRecDepth 100000 in
theorem bX4_locks_26 (X : gC p s m args meth c cX4_locks 4 wmX4_locks yX4_locks.cls (some .boolean) G A) {n : Nat} {g : Mem} {r : Int32} (kI : ∀ (pc : Nat) (ls : Array Slot) (H : Heap) (locs : List Loc), decode cX4_locks pc = .ok (.ireturn, 1) → WS wC G g A s.heap H locs → narrow .boolean (.int r) = .int r → W p l e { frames := 2, cells := 0, slots := 0, locals := 44 } s m args below meth c H locs 0 0 Q (F0 m pc ls [.int r])) {rec2 : Nat → Int32 → Int32 → Int32 → Option (Int32)} (h2 : ∀ (k0 : Nat) (x1 : Int32) (x2 : Int32) (x3 : Int32) (H : Heap) (locs : List Loc) (ls : Array Slot), KD k0 = 4 → WS wC G g A s.heap H locs → lv_has ls 4 [(0, .ref (G.1 k0)), (1, .int x1), (2, .int x2), (3, .int x3)] → rec2 k0 x1 x2 x3 = some r → W p l e { frames := 2, cells := 0, slots := 0, locals := 44 } s m args below meth c H locs 0 0 Q (F0 m 2 ls [])) : ∀ (k0 : Nat) (x1 : Int32) (x2 : Int32) (x3 : Int32) (H : Heap) (locs : List Loc) (ls : Array Slot), KD k0 = 4 → WS wC G g A s.heap H locs → lv_has ls 4 [(0, .ref (G.1 k0)), (1, .int x1), (2, .int x2), (3, .int x3)] → sX4_locks_26 n g rec2 k0 x1 x2 x3 = some r → W p l e { frames := 2, cells := 0, slots := 0, locals := 44 } s m args below meth c H locs 0 0 Q (F0 m 26 ls []) := by
  have hx := X.1
  have hb := X.2.1
  intro k0 x1 x2 x3 H locs ls hk0 Z hl hm
  unfold sX4_locks_26 at hm
  refine lv_aload_n hx hb dX4_locks_26 rfl (lv_at hl 0 rfl) ?_
  refine lv_iload_n hx hb dX4_locks_27 rfl (lv_at hl 1 rfl) ?_
  refine lv_iload_n hx hb dX4_locks_28 rfl (lv_at hl 3 rfl) ?_
  obtain ⟨r3, e1, hm⟩ := sBi_some hm
  refine g_callVI (n := 2) (As := [.int x1, .int x3]) (rest := []) sameC X Z (cX4_hasRead_c l hk0 e1) (oX4 hk0) rfl (gooV mB157 mB135 mB136 mB30 mB124) rfl (by decide +kernel) rfl ⟨Nat.le_of_ble_eq_true rfl, Nat.le_of_ble_eq_true rfl⟩ ⟨Nat.le_of_ble_eq_true rfl, Nat.le_of_ble_eq_true rfl⟩ hl.1 rfl (Nat.le_of_ble_eq_true rfl) dX4_locks_29 (fun w2 H locs Z => ?_)
  refine lv_if_eq (tgt := 46) hx hb dX4_locks_32 (by decide) (fun c4 => ?_) (fun c4 => ?_)
  · replace hm := (if_pos c4).symm.trans hm
    refine lv_iinc (v := (x3 + (1 : Int32))) (lv' := [(3, .int (x3 + (1 : Int32))), (0, .ref (G.1 k0)), (1, .int x1), (2, .int x2)]) hx hb dX4_locks_46 hl (k := 3) rfl rfl (by decide) rfl (fun ls hl => ?_)
    refine lv_goto (tgt := 2) hx hb dX4_locks_49 (by decide) ?_
    exact h2 k0 x1 x2 (x3 + (1 : Int32)) _ _ _ hk0 Z (lv_sub hl [1, 2, 3, 0] rfl) hm
  · replace hm := (if_neg c4).symm.trans hm
    refine lv_aload_n hx hb dX4_locks_35 rfl (lv_at hl 0 rfl) ?_
    refine lv_iload_n hx hb dX4_locks_36 rfl (lv_at hl 2 rfl) ?_
    refine lv_iload_n hx hb dX4_locks_37 rfl (lv_at hl 3 rfl) ?_
    obtain ⟨r7, e5, hm⟩ := sBi_some hm
    refine g_callVI (n := 2) (As := [.int x2, .int x3]) (rest := []) sameC X Z (cX4_hasWritten_c l hk0 e5) (oX4 hk0) rfl (gooV mB149 mB129 mB130 mB30 mB122) rfl (by decide +kernel) rfl ⟨Nat.le_of_ble_eq_true rfl, Nat.le_of_ble_eq_true rfl⟩ ⟨Nat.le_of_ble_eq_true rfl, Nat.le_of_ble_eq_true rfl⟩ hl.1 rfl (Nat.le_of_ble_eq_true rfl) dX4_locks_38 (fun w6 H locs Z => ?_)
    refine lv_if_eq (tgt := 46) hx hb dX4_locks_41 (by decide) (fun c8 => ?_) (fun c8 => ?_)
    · replace hm := (if_pos c8).symm.trans hm
      refine lv_iinc (v := (x3 + (1 : Int32))) (lv' := [(3, .int (x3 + (1 : Int32))), (0, .ref (G.1 k0)), (1, .int x1), (2, .int x2)]) hx hb dX4_locks_46 hl (k := 3) rfl rfl (by decide) rfl (fun ls hl => ?_)
      refine lv_goto (tgt := 2) hx hb dX4_locks_49 (by decide) ?_
      exact h2 k0 x1 x2 (x3 + (1 : Int32)) _ _ _ hk0 Z (lv_sub hl [1, 2, 3, 0] rfl) hm
    · replace hm := (if_neg c8).symm.trans hm
      refine lv_iconst (v := 1) hx hb dX4_locks_44 (by decide) ?_
      obtain rfl := Option.some.inj hm
      exact kI _ _ _ _ dX4_locks_45 Z nb1
set_option maxHeartbeats 4000000 in
set_option maxRecDepth 100000 in
theorem bX4_locks_2 (X : gC p s m args meth c cX4_locks 4 wmX4_locks yX4_locks.cls (some .boolean) G A) {n : Nat} {g : Mem} {r : Int32} (kI : ∀ (pc : Nat) (ls : Array Slot) (H : Heap) (locs : List Loc), decode cX4_locks pc = .ok (.ireturn, 1) → WS wC G g A s.heap H locs → narrow .boolean (.int r) = .int r → W p l e { frames := 2, cells := 0, slots := 0, locals := 44 } s m args below meth c H locs 0 0 Q (F0 m pc ls [.int r])) : ∀ (f : Nat), ∀ (k0 : Nat) (x1 : Int32) (x2 : Int32) (x3 : Int32) (H : Heap) (locs : List Loc) (ls : Array Slot), KD k0 = 4 → WS wC G g A s.heap H locs → lv_has ls 4 [(0, .ref (G.1 k0)), (1, .int x1), (2, .int x2), (3, .int x3)] → sX4_locks_2 n g f k0 x1 x2 x3 = some r → W p l e { frames := 2, cells := 0, slots := 0, locals := 44 } s m args below meth c H locs 0 0 Q (F0 m 2 ls []) := by
  have hx := X.1
  have hb := X.2.1
  intro f
  induction f with
  | zero =>
    intro k0 x1 x2 x3 H locs ls hk0 Z hl hm
    cases hm
  | succ f ih =>
    intro k0 x1 x2 x3 H locs ls hk0 Z hl hm
    unfold sX4_locks_2 at hm
    refine lv_iload_n hx hb dX4_locks_2 rfl (lv_at hl 3 rfl) ?_
    refine lv_bipush (v := 8) hx hb dX4_locks_3 (by decide) ?_
    refine lv_icmp_ge (tgt := 52) hx hb dX4_locks_5 (by decide) (fun c1 => ?_) (fun c1 => ?_)
    · replace hm := (if_pos c1).symm.trans hm
      refine lv_iconst (v := 0) hx hb dX4_locks_52 (by decide) ?_
      obtain rfl := Option.some.inj hm
      exact kI _ _ _ _ dX4_locks_53 Z nb0
    · replace hm := (if_neg c1).symm.trans hm
      refine lv_aload_n hx hb dX4_locks_8 rfl (lv_at hl 0 rfl) ?_
      refine lv_iload_n hx hb dX4_locks_9 rfl (lv_at hl 1 rfl) ?_
      refine lv_iload_n hx hb dX4_locks_10 rfl (lv_at hl 3 rfl) ?_
      obtain ⟨r4, e2, hm⟩ := sBi_some hm
      refine g_callVI (n := 2) (As := [.int x1, .int x3]) (rest := []) sameC X Z (cX4_hasWritten_c l hk0 e2) (oX4 hk0) rfl (gooV mB149 mB129 mB130 mB30 mB122) rfl (by decide +kernel) rfl ⟨Nat.le_of_ble_eq_true rfl, Nat.le_of_ble_eq_true rfl⟩ ⟨Nat.le_of_ble_eq_true rfl, Nat.le_of_ble_eq_true rfl⟩ hl.1 rfl (Nat.le_of_ble_eq_true rfl) dX4_locks_11 (fun w3 H locs Z => ?_)
      refine lv_if_eq (tgt := 26) hx hb dX4_locks_14 (by decide) (fun c5 => ?_) (fun c5 => ?_)
      · replace hm := (if_pos c5).symm.trans hm
        exact bX4_locks_26 X kI ih k0 x1 x2 x3 _ _ _ hk0 Z (lv_sub hl [0, 1, 2, 3] rfl) hm
      · replace hm := (if_neg c5).symm.trans hm
        refine lv_aload_n hx hb dX4_locks_17 rfl (lv_at hl 0 rfl) ?_
        refine lv_iload_n hx hb dX4_locks_18 rfl (lv_at hl 2 rfl) ?_
        refine lv_iload_n hx hb dX4_locks_19 rfl (lv_at hl 3 rfl) ?_
        obtain ⟨r8, e6, hm⟩ := sBi_some hm
        refine g_callVI (n := 2) (As := [.int x2, .int x3]) (rest := []) sameC X Z (cX4_hasTouched_c l hk0 e6) (oX4 hk0) rfl (gooV mB159 mB160 mB161 mB30 mB156) rfl (by decide +kernel) rfl ⟨Nat.le_of_ble_eq_true rfl, Nat.le_of_ble_eq_true rfl⟩ ⟨Nat.le_of_ble_eq_true rfl, Nat.le_of_ble_eq_true rfl⟩ hl.1 rfl (Nat.le_of_ble_eq_true rfl) dX4_locks_20 (fun w7 H locs Z => ?_)
        refine lv_if_ne (tgt := 44) hx hb dX4_locks_23 (by decide) (fun c9 => ?_) (fun c9 => ?_)
        · replace hm := (if_neg c9).symm.trans hm
          refine lv_iconst (v := 1) hx hb dX4_locks_44 (by decide) ?_
          obtain rfl := Option.some.inj hm
          exact kI _ _ _ _ dX4_locks_45 Z nb1
        · replace hm := (if_pos c9).symm.trans hm
          exact bX4_locks_26 X kI ih k0 x1 x2 x3 _ _ _ hk0 Z (lv_sub hl [0, 1, 2, 3] rfl) hm
set_option maxHeartbeats 4000000 in
set_option maxRecDepth 100000 in
theorem bX4_locks_0 (X : gC p s m args meth c cX4_locks 4 wmX4_locks yX4_locks.cls (some .boolean) G A) {n : Nat} {g : Mem} {r : Int32} (kI : ∀ (pc : Nat) (ls : Array Slot) (H : Heap) (locs : List Loc), decode cX4_locks pc = .ok (.ireturn, 1) → WS wC G g A s.heap H locs → narrow .boolean (.int r) = .int r → W p l e { frames := 2, cells := 0, slots := 0, locals := 44 } s m args below meth c H locs 0 0 Q (F0 m pc ls [.int r])) : ∀ (k0 : Nat) (x1 : Int32) (x2 : Int32) (H : Heap) (locs : List Loc) (ls : Array Slot), KD k0 = 4 → WS wC G g A s.heap H locs → lv_has ls 4 [(0, .ref (G.1 k0)), (1, .int x1), (2, .int x2)] → sX4_locks n g k0 x1 x2 = some r → W p l e { frames := 2, cells := 0, slots := 0, locals := 44 } s m args below meth c H locs 0 0 Q (F0 m 0 ls []) := by
  have hx := X.1
  have hb := X.2.1
  intro k0 x1 x2 H locs ls hk0 Z hl hm
  unfold sX4_locks at hm
  refine lv_iconst (v := 0) hx hb dX4_locks_0 (by decide) ?_
  refine lv_istore_n (lv' := [(3, .int 0), (0, .ref (G.1 k0)), (1, .int x1), (2, .int x2)]) hx hb dX4_locks_1 rfl hl (by decide) rfl (fun ls hl => ?_)
  exact bX4_locks_2 X kI n k0 x1 x2 (0 : Int32) _ _ _ hk0 Z (lv_sub hl [1, 2, 3, 0] rfl) hm
theorem cX4_locks_c (l : Launch) {G : LY} {g : Mem} {n : Nat} {k0 : Nat} {x1 : Int32} {x2 : Int32} {r : Int32} (hk0 : KD k0 = 4) (hm : sX4_locks n g k0 x1 x2 = some r) : cI l yX4_locks wmX4_locks 2 44 .boolean wC G [.ref (G.1 k0), .int x1, .int x2] g r g :=
  mk_cI sameC (by decide +kernel) rfl (Nat.le_of_ble_eq_true rfl) (fun p e s m args below meth c A Q ls X kI hl Z => bX4_locks_0 X kI k0 x1 x2 _ _ ls hk0 Z hl hm)
abbrev wmX4_isLockedOut : List Cond := Cond.code yX4_isLockedOut cX4_isLockedOut 3 (some .boolean) :: wA0
set_option maxHeartbeats 4000000 in
set_option maxRecDepth 100000 in
theorem bX4_isLockedOut_2 (X : gC p s m args meth c cX4_isLockedOut 3 wmX4_isLockedOut yX4_isLockedOut.cls (some .boolean) G A) {n : Nat} {g : Mem} {r : Int32} (kI : ∀ (pc : Nat) (ls : Array Slot) (H : Heap) (locs : List Loc), decode cX4_isLockedOut pc = .ok (.ireturn, 1) → WS wC G g A s.heap H locs → narrow .boolean (.int r) = .int r → W p l e { frames := 3, cells := 0, slots := 0, locals := 67 } s m args below meth c H locs 0 0 Q (F0 m pc ls [.int r])) : ∀ (f : Nat), ∀ (k0 : Nat) (x1 : Int32) (x2 : Int32) (H : Heap) (locs : List Loc) (ls : Array Slot), KD k0 = 4 → WS wC G g A s.heap H locs → lv_has ls 3 [(0, .ref (G.1 k0)), (1, .int x1), (2, .int x2)] → sX4_isLockedOut_2 n g f k0 x1 x2 = some r → W p l e { frames := 3, cells := 0, slots := 0, locals := 67 } s m args below meth c H locs 0 0 Q (F0 m 2 ls []) := by
  have hx := X.1
  have hb := X.2.1
  intro f
  induction f with
  | zero =>
    intro k0 x1 x2 H locs ls hk0 Z hl hm
    cases hm
  | succ f ih =>
    intro k0 x1 x2 H locs ls hk0 Z hl hm
    unfold sX4_isLockedOut_2 at hm
    refine lv_iload_n hx hb dX4_isLockedOut_2 rfl (lv_at hl 2 rfl) ?_
    refine lv_aload_n hx hb dX4_isLockedOut_3 rfl (lv_at hl 0 rfl) ?_
    refine g_get (j := 0) (v := .int (g k0 0)) X Z (oX4 hk0) (iB4 _) rfl (by decide) rfl (List.mem_cons_of_mem _ mB59) rfl dX4_isLockedOut_4 ?_
    refine lv_icmp_ge (tgt := 37) hx hb dX4_isLockedOut_7 (by decide) (fun c1 => ?_) (fun c1 => ?_)
    · replace hm := (if_pos c1).symm.trans hm
      refine lv_iconst (v := 0) hx hb dX4_isLockedOut_37 (by decide) ?_
      obtain rfl := Option.some.inj hm
      exact kI _ _ _ _ dX4_isLockedOut_38 Z nb0
    · replace hm := (if_neg c1).symm.trans hm
      refine lv_aload_n hx hb dX4_isLockedOut_10 rfl (lv_at hl 0 rfl) ?_
      refine g_get (j := 2) (v := .ref (G.1 (k0 + 2))) X Z (oX4 hk0) (iB4 _) rfl (by decide) rfl (List.mem_cons_of_mem _ mB11) rfl dX4_isLockedOut_11 ?_
      refine lv_iload_n hx hb dX4_isLockedOut_14 rfl (lv_at hl 2 rfl) ?_
      obtain ⟨b2, hm⟩ := sIdx_some hm
      refine g_iald X Z (aI (k42 hk0)) b2 dX4_isLockedOut_15 ?_
      refine lv_iconst (v := 1) hx hb dX4_isLockedOut_16 (by decide) ?_
      refine lv_icmp_ne (tgt := 31) hx hb dX4_isLockedOut_17 (by decide) (fun c3 => ?_) (fun c3 => ?_)
      · replace hm := (if_neg c3).symm.trans hm
        refine lv_iinc (v := (x2 + (1 : Int32))) (lv' := [(2, .int (x2 + (1 : Int32))), (0, .ref (G.1 k0)), (1, .int x1)]) hx hb dX4_isLockedOut_31 hl (k := 2) rfl rfl (by decide) rfl (fun ls hl => ?_)
        refine lv_goto (tgt := 2) hx hb dX4_isLockedOut_34 (by decide) ?_
        exact ih k0 x1 (x2 + (1 : Int32)) _ _ _ hk0 Z (lv_sub hl [1, 2, 0] rfl) hm
      · replace hm := (if_pos c3).symm.trans hm
        refine lv_aload_n hx hb dX4_isLockedOut_20 rfl (lv_at hl 0 rfl) ?_
        refine lv_iload_n hx hb dX4_isLockedOut_21 rfl (lv_at hl 2 rfl) ?_
        refine lv_iload_n hx hb dX4_isLockedOut_22 rfl (lv_at hl 1 rfl) ?_
        obtain ⟨r6, e4, hm⟩ := sBi_some hm
        refine g_callVI (n := 2) (As := [.int x2, .int x1]) (rest := []) sameC X Z (cX4_locks_c l hk0 e4) (oX4 hk0) rfl (gooV mB163 mB164 mB165 mB30 mB158) rfl (by decide +kernel) rfl ⟨Nat.le_of_ble_eq_true rfl, Nat.le_of_ble_eq_true rfl⟩ ⟨Nat.le_of_ble_eq_true rfl, Nat.le_of_ble_eq_true rfl⟩ hl.1 rfl (Nat.le_of_ble_eq_true rfl) dX4_isLockedOut_23 (fun w5 H locs Z => ?_)
        refine lv_if_eq (tgt := 31) hx hb dX4_isLockedOut_26 (by decide) (fun c7 => ?_) (fun c7 => ?_)
        · replace hm := (if_pos c7).symm.trans hm
          refine lv_iinc (v := (x2 + (1 : Int32))) (lv' := [(2, .int (x2 + (1 : Int32))), (0, .ref (G.1 k0)), (1, .int x1)]) hx hb dX4_isLockedOut_31 hl (k := 2) rfl rfl (by decide) rfl (fun ls hl => ?_)
          refine lv_goto (tgt := 2) hx hb dX4_isLockedOut_34 (by decide) ?_
          exact ih k0 x1 (x2 + (1 : Int32)) _ _ _ hk0 Z (lv_sub hl [1, 2, 0] rfl) hm
        · replace hm := (if_neg c7).symm.trans hm
          refine lv_iconst (v := 1) hx hb dX4_isLockedOut_29 (by decide) ?_
          obtain rfl := Option.some.inj hm
          exact kI _ _ _ _ dX4_isLockedOut_30 Z nb1
set_option maxHeartbeats 4000000 in
set_option maxRecDepth 100000 in
theorem bX4_isLockedOut_0 (X : gC p s m args meth c cX4_isLockedOut 3 wmX4_isLockedOut yX4_isLockedOut.cls (some .boolean) G A) {n : Nat} {g : Mem} {r : Int32} (kI : ∀ (pc : Nat) (ls : Array Slot) (H : Heap) (locs : List Loc), decode cX4_isLockedOut pc = .ok (.ireturn, 1) → WS wC G g A s.heap H locs → narrow .boolean (.int r) = .int r → W p l e { frames := 3, cells := 0, slots := 0, locals := 67 } s m args below meth c H locs 0 0 Q (F0 m pc ls [.int r])) : ∀ (k0 : Nat) (x1 : Int32) (H : Heap) (locs : List Loc) (ls : Array Slot), KD k0 = 4 → WS wC G g A s.heap H locs → lv_has ls 3 [(0, .ref (G.1 k0)), (1, .int x1)] → sX4_isLockedOut n g k0 x1 = some r → W p l e { frames := 3, cells := 0, slots := 0, locals := 67 } s m args below meth c H locs 0 0 Q (F0 m 0 ls []) := by
  have hx := X.1
  have hb := X.2.1
  intro k0 x1 H locs ls hk0 Z hl hm
  unfold sX4_isLockedOut at hm
  refine lv_iconst (v := 0) hx hb dX4_isLockedOut_0 (by decide) ?_
  refine lv_istore_n (lv' := [(2, .int 0), (0, .ref (G.1 k0)), (1, .int x1)]) hx hb dX4_isLockedOut_1 rfl hl (by decide) rfl (fun ls hl => ?_)
  exact bX4_isLockedOut_2 X kI n k0 x1 (0 : Int32) _ _ _ hk0 Z (lv_sub hl [1, 2, 0] rfl) hm
theorem cX4_isLockedOut_c (l : Launch) {G : LY} {g : Mem} {n : Nat} {k0 : Nat} {x1 : Int32} {r : Int32} (hk0 : KD k0 = 4) (hm : sX4_isLockedOut n g k0 x1 = some r) : cI l yX4_isLockedOut wmX4_isLockedOut 3 67 .boolean wC G [.ref (G.1 k0), .int x1] g r g :=
  mk_cI sameC (by decide +kernel) rfl (Nat.le_of_ble_eq_true rfl) (fun p e s m args below meth c A Q ls X kI hl Z => bX4_isLockedOut_0 X kI k0 x1 _ _ ls hk0 Z hl hm)
abbrev wmX4_findWaitingWriter : List Cond := Cond.code yX4_findWaitingWriter cX4_findWaitingWriter 3 (some .int) :: wA0
set_option maxHeartbeats 4000000 in
set_option maxRecDepth 100000 in
theorem bX4_findWaitingWriter_2 (X : gC p s m args meth c cX4_findWaitingWriter 3 wmX4_findWaitingWriter yX4_findWaitingWriter.cls (some .int) G A) {n : Nat} {g : Mem} {r : Int32} (kI : ∀ (pc : Nat) (ls : Array Slot) (H : Heap) (locs : List Loc), decode cX4_findWaitingWriter pc = .ok (.ireturn, 1) → WS wC G g A s.heap H locs → narrow .int (.int r) = .int r → W p l e { frames := 1, cells := 0, slots := 0, locals := 22 } s m args below meth c H locs 0 0 Q (F0 m pc ls [.int r])) : ∀ (f : Nat), ∀ (k0 : Nat) (x1 : Int32) (x2 : Int32) (H : Heap) (locs : List Loc) (ls : Array Slot), KD k0 = 4 → WS wC G g A s.heap H locs → lv_has ls 3 [(0, .ref (G.1 k0)), (1, .int x1), (2, .int x2)] → sX4_findWaitingWriter_2 n g f k0 x1 x2 = some r → W p l e { frames := 1, cells := 0, slots := 0, locals := 22 } s m args below meth c H locs 0 0 Q (F0 m 2 ls []) := by
  have hx := X.1
  have hb := X.2.1
  intro f
  induction f with
  | zero =>
    intro k0 x1 x2 H locs ls hk0 Z hl hm
    cases hm
  | succ f ih =>
    intro k0 x1 x2 H locs ls hk0 Z hl hm
    unfold sX4_findWaitingWriter_2 at hm
    refine lv_iload_n hx hb dX4_findWaitingWriter_2 rfl (lv_at hl 2 rfl) ?_
    refine lv_aload_n hx hb dX4_findWaitingWriter_3 rfl (lv_at hl 0 rfl) ?_
    refine g_get (j := 0) (v := .int (g k0 0)) X Z (oX4 hk0) (iB4 _) rfl (by decide) rfl (List.mem_cons_of_mem _ mB59) rfl dX4_findWaitingWriter_4 ?_
    refine lv_icmp_ge (tgt := 37) hx hb dX4_findWaitingWriter_7 (by decide) (fun c1 => ?_) (fun c1 => ?_)
    · replace hm := (if_pos c1).symm.trans hm
      refine lv_iconst (v := (-1)) hx hb dX4_findWaitingWriter_37 (by decide) ?_
      obtain rfl := Option.some.inj hm
      exact kI _ _ _ _ dX4_findWaitingWriter_38 Z (vp_nar_int _)
    · replace hm := (if_neg c1).symm.trans hm
      refine lv_aload_n hx hb dX4_findWaitingWriter_10 rfl (lv_at hl 0 rfl) ?_
      refine g_get (j := 2) (v := .ref (G.1 (k0 + 2))) X Z (oX4 hk0) (iB4 _) rfl (by decide) rfl (List.mem_cons_of_mem _ mB11) rfl dX4_findWaitingWriter_11 ?_
      refine lv_iload_n hx hb dX4_findWaitingWriter_14 rfl (lv_at hl 2 rfl) ?_
      obtain ⟨b2, hm⟩ := sIdx_some hm
      refine g_iald X Z (aI (k42 hk0)) b2 dX4_findWaitingWriter_15 ?_
      refine lv_iconst (v := 1) hx hb dX4_findWaitingWriter_16 (by decide) ?_
      refine lv_icmp_ne (tgt := 31) hx hb dX4_findWaitingWriter_17 (by decide) (fun c3 => ?_) (fun c3 => ?_)
      · replace hm := (if_neg c3).symm.trans hm
        refine lv_iinc (v := (x2 + (1 : Int32))) (lv' := [(2, .int (x2 + (1 : Int32))), (0, .ref (G.1 k0)), (1, .int x1)]) hx hb dX4_findWaitingWriter_31 hl (k := 2) rfl rfl (by decide) rfl (fun ls hl => ?_)
        refine lv_goto (tgt := 2) hx hb dX4_findWaitingWriter_34 (by decide) ?_
        exact ih k0 x1 (x2 + (1 : Int32)) _ _ _ hk0 Z (lv_sub hl [1, 2, 0] rfl) hm
      · replace hm := (if_pos c3).symm.trans hm
        refine lv_aload_n hx hb dX4_findWaitingWriter_20 rfl (lv_at hl 0 rfl) ?_
        refine lv_iload_n hx hb dX4_findWaitingWriter_21 rfl (lv_at hl 2 rfl) ?_
        refine lv_iload_n hx hb dX4_findWaitingWriter_22 rfl (lv_at hl 1 rfl) ?_
        obtain ⟨r6, e4, hm⟩ := sBi_some hm
        refine g_callVI (n := 2) (As := [.int x2, .int x1]) (rest := []) sameC X Z (cX4_hasWritten_c l hk0 e4) (oX4 hk0) rfl (gooV mB149 mB129 mB130 mB30 mB122) rfl (by decide +kernel) rfl ⟨Nat.le_of_ble_eq_true rfl, Nat.le_of_ble_eq_true rfl⟩ ⟨Nat.le_of_ble_eq_true rfl, Nat.le_of_ble_eq_true rfl⟩ hl.1 rfl (Nat.le_of_ble_eq_true rfl) dX4_findWaitingWriter_23 (fun w5 H locs Z => ?_)
        refine lv_if_eq (tgt := 31) hx hb dX4_findWaitingWriter_26 (by decide) (fun c7 => ?_) (fun c7 => ?_)
        · replace hm := (if_pos c7).symm.trans hm
          refine lv_iinc (v := (x2 + (1 : Int32))) (lv' := [(2, .int (x2 + (1 : Int32))), (0, .ref (G.1 k0)), (1, .int x1)]) hx hb dX4_findWaitingWriter_31 hl (k := 2) rfl rfl (by decide) rfl (fun ls hl => ?_)
          refine lv_goto (tgt := 2) hx hb dX4_findWaitingWriter_34 (by decide) ?_
          exact ih k0 x1 (x2 + (1 : Int32)) _ _ _ hk0 Z (lv_sub hl [1, 2, 0] rfl) hm
        · replace hm := (if_neg c7).symm.trans hm
          refine lv_iload_n hx hb dX4_findWaitingWriter_29 rfl (lv_at hl 2 rfl) ?_
          obtain rfl := Option.some.inj hm
          exact kI _ _ _ _ dX4_findWaitingWriter_30 Z (vp_nar_int _)
set_option maxHeartbeats 4000000 in
set_option maxRecDepth 100000 in
theorem bX4_findWaitingWriter_0 (X : gC p s m args meth c cX4_findWaitingWriter 3 wmX4_findWaitingWriter yX4_findWaitingWriter.cls (some .int) G A) {n : Nat} {g : Mem} {r : Int32} (kI : ∀ (pc : Nat) (ls : Array Slot) (H : Heap) (locs : List Loc), decode cX4_findWaitingWriter pc = .ok (.ireturn, 1) → WS wC G g A s.heap H locs → narrow .int (.int r) = .int r → W p l e { frames := 1, cells := 0, slots := 0, locals := 22 } s m args below meth c H locs 0 0 Q (F0 m pc ls [.int r])) : ∀ (k0 : Nat) (x1 : Int32) (H : Heap) (locs : List Loc) (ls : Array Slot), KD k0 = 4 → WS wC G g A s.heap H locs → lv_has ls 3 [(0, .ref (G.1 k0)), (1, .int x1)] → sX4_findWaitingWriter n g k0 x1 = some r → W p l e { frames := 1, cells := 0, slots := 0, locals := 22 } s m args below meth c H locs 0 0 Q (F0 m 0 ls []) := by
  have hx := X.1
  have hb := X.2.1
  intro k0 x1 H locs ls hk0 Z hl hm
  unfold sX4_findWaitingWriter at hm
  refine lv_iconst (v := 0) hx hb dX4_findWaitingWriter_0 (by decide) ?_
  refine lv_istore_n (lv' := [(2, .int 0), (0, .ref (G.1 k0)), (1, .int x1)]) hx hb dX4_findWaitingWriter_1 rfl hl (by decide) rfl (fun ls hl => ?_)
  exact bX4_findWaitingWriter_2 X kI n k0 x1 (0 : Int32) _ _ _ hk0 Z (lv_sub hl [1, 2, 0] rfl) hm
theorem cX4_findWaitingWriter_c (l : Launch) {G : LY} {g : Mem} {n : Nat} {k0 : Nat} {x1 : Int32} {r : Int32} (hk0 : KD k0 = 4) (hm : sX4_findWaitingWriter n g k0 x1 = some r) : cI l yX4_findWaitingWriter wmX4_findWaitingWriter 1 22 .int wC G [.ref (G.1 k0), .int x1] g r g :=
  mk_cI sameC (by decide +kernel) rfl (Nat.le_of_ble_eq_true rfl) (fun p e s m args below meth c A Q ls X kI hl Z => bX4_findWaitingWriter_0 X kI k0 x1 _ _ ls hk0 Z hl hm)
abbrev wmX4_greatestReaderTimestamp : List Cond := Cond.code yX4_greatestReaderTimestamp cX4_greatestReaderTimestamp 4 (some .int) :: wA0
set_option maxHeartbeats 4000000 in
set_option maxRecDepth 100000 in
theorem bX4_greatestReaderTimestamp_4 (X : gC p s m args meth c cX4_greatestReaderTimestamp 4 wmX4_greatestReaderTimestamp yX4_greatestReaderTimestamp.cls (some .int) G A) {n : Nat} {g : Mem} {r : Int32} (kI : ∀ (pc : Nat) (ls : Array Slot) (H : Heap) (locs : List Loc), decode cX4_greatestReaderTimestamp pc = .ok (.ireturn, 1) → WS wC G g A s.heap H locs → narrow .int (.int r) = .int r → W p l e { frames := 1, cells := 0, slots := 0, locals := 22 } s m args below meth c H locs 0 0 Q (F0 m pc ls [.int r])) : ∀ (f : Nat), ∀ (k0 : Nat) (x1 : Int32) (x2 : Int32) (x3 : Int32) (H : Heap) (locs : List Loc) (ls : Array Slot), KD k0 = 4 → WS wC G g A s.heap H locs → lv_has ls 4 [(0, .ref (G.1 k0)), (1, .int x1), (2, .int x2), (3, .int x3)] → sX4_greatestReaderTimestamp_4 n g f k0 x1 x2 x3 = some r → W p l e { frames := 1, cells := 0, slots := 0, locals := 22 } s m args below meth c H locs 0 0 Q (F0 m 4 ls []) := by
  have hx := X.1
  have hb := X.2.1
  intro f
  induction f with
  | zero =>
    intro k0 x1 x2 x3 H locs ls hk0 Z hl hm
    cases hm
  | succ f ih =>
    intro k0 x1 x2 x3 H locs ls hk0 Z hl hm
    unfold sX4_greatestReaderTimestamp_4 at hm
    refine lv_iload_n hx hb dX4_greatestReaderTimestamp_4 rfl (lv_at hl 3 rfl) ?_
    refine lv_aload_n hx hb dX4_greatestReaderTimestamp_5 rfl (lv_at hl 0 rfl) ?_
    refine g_get (j := 0) (v := .int (g k0 0)) X Z (oX4 hk0) (iB4 _) rfl (by decide) rfl (List.mem_cons_of_mem _ mB59) rfl dX4_greatestReaderTimestamp_6 ?_
    refine lv_icmp_ge (tgt := 48) hx hb dX4_greatestReaderTimestamp_9 (by decide) (fun c1 => ?_) (fun c1 => ?_)
    · replace hm := (if_pos c1).symm.trans hm
      refine lv_iload_n hx hb dX4_greatestReaderTimestamp_48 rfl (lv_at hl 2 rfl) ?_
      obtain rfl := Option.some.inj hm
      exact kI _ _ _ _ dX4_greatestReaderTimestamp_49 Z (vp_nar_int _)
    · replace hm := (if_neg c1).symm.trans hm
      refine lv_aload_n hx hb dX4_greatestReaderTimestamp_12 rfl (lv_at hl 0 rfl) ?_
      refine g_get (j := 2) (v := .ref (G.1 (k0 + 2))) X Z (oX4 hk0) (iB4 _) rfl (by decide) rfl (List.mem_cons_of_mem _ mB11) rfl dX4_greatestReaderTimestamp_13 ?_
      refine lv_iload_n hx hb dX4_greatestReaderTimestamp_16 rfl (lv_at hl 3 rfl) ?_
      obtain ⟨b2, hm⟩ := sIdx_some hm
      refine g_iald X Z (aI (k42 hk0)) b2 dX4_greatestReaderTimestamp_17 ?_
      refine lv_iconst (v := 2) hx hb dX4_greatestReaderTimestamp_18 (by decide) ?_
      refine lv_icmp_ne (tgt := 42) hx hb dX4_greatestReaderTimestamp_19 (by decide) (fun c3 => ?_) (fun c3 => ?_)
      · replace hm := (if_neg c3).symm.trans hm
        refine lv_iinc (v := (x3 + (1 : Int32))) (lv' := [(3, .int (x3 + (1 : Int32))), (0, .ref (G.1 k0)), (1, .int x1), (2, .int x2)]) hx hb dX4_greatestReaderTimestamp_42 hl (k := 3) rfl rfl (by decide) rfl (fun ls hl => ?_)
        refine lv_goto (tgt := 4) hx hb dX4_greatestReaderTimestamp_45 (by decide) ?_
        exact ih k0 x1 x2 (x3 + (1 : Int32)) _ _ _ hk0 Z (lv_sub hl [1, 2, 3, 0] rfl) hm
      · replace hm := (if_pos c3).symm.trans hm
        refine lv_aload_n hx hb dX4_greatestReaderTimestamp_22 rfl (lv_at hl 0 rfl) ?_
        refine lv_iload_n hx hb dX4_greatestReaderTimestamp_23 rfl (lv_at hl 3 rfl) ?_
        refine lv_iload_n hx hb dX4_greatestReaderTimestamp_24 rfl (lv_at hl 1 rfl) ?_
        obtain ⟨r6, e4, hm⟩ := sBi_some hm
        refine g_callVI (n := 2) (As := [.int x3, .int x1]) (rest := []) sameC X Z (cX4_hasRead_c l hk0 e4) (oX4 hk0) rfl (gooV mB157 mB135 mB136 mB30 mB124) rfl (by decide +kernel) rfl ⟨Nat.le_of_ble_eq_true rfl, Nat.le_of_ble_eq_true rfl⟩ ⟨Nat.le_of_ble_eq_true rfl, Nat.le_of_ble_eq_true rfl⟩ hl.1 rfl (Nat.le_of_ble_eq_true rfl) dX4_greatestReaderTimestamp_25 (fun w5 H locs Z => ?_)
        refine lv_if_eq (tgt := 42) hx hb dX4_greatestReaderTimestamp_28 (by decide) (fun c7 => ?_) (fun c7 => ?_)
        · replace hm := (if_pos c7).symm.trans hm
          refine lv_iinc (v := (x3 + (1 : Int32))) (lv' := [(3, .int (x3 + (1 : Int32))), (0, .ref (G.1 k0)), (1, .int x1), (2, .int x2)]) hx hb dX4_greatestReaderTimestamp_42 hl (k := 3) rfl rfl (by decide) rfl (fun ls hl => ?_)
          refine lv_goto (tgt := 4) hx hb dX4_greatestReaderTimestamp_45 (by decide) ?_
          exact ih k0 x1 x2 (x3 + (1 : Int32)) _ _ _ hk0 Z (lv_sub hl [1, 2, 3, 0] rfl) hm
        · replace hm := (if_neg c7).symm.trans hm
          refine lv_iload_n hx hb dX4_greatestReaderTimestamp_31 rfl (lv_at hl 2 rfl) ?_
          refine lv_aload_n hx hb dX4_greatestReaderTimestamp_32 rfl (lv_at hl 0 rfl) ?_
          refine g_get (j := 3) (v := .ref (G.1 (k0 + 3))) X Z (oX4 hk0) (iB4 _) rfl (by decide) rfl (List.mem_cons_of_mem _ mB12) rfl dX4_greatestReaderTimestamp_33 ?_
          refine lv_iload_n hx hb dX4_greatestReaderTimestamp_36 rfl (lv_at hl 3 rfl) ?_
          obtain ⟨b8, hm⟩ := sIdx_some hm
          refine g_iald X Z (aI (k43 hk0)) b8 dX4_greatestReaderTimestamp_37 ?_
          refine g_max X hl.1 (List.mem_cons_of_mem _ mB174) (List.mem_cons_of_mem _ mB168) (List.mem_cons_of_mem _ mB78) (List.mem_cons_of_mem _ mB169) ⟨Nat.le_of_ble_eq_true rfl, Nat.le_of_ble_eq_true rfl, Nat.le_of_ble_eq_true rfl, Nat.le_of_ble_eq_true rfl⟩ dX4_greatestReaderTimestamp_38 ?_
          refine lv_istore_n (lv' := [(2, .int (sMax x2 (g (k0 + 3) x3.toNatClampNeg))), (0, .ref (G.1 k0)), (1, .int x1), (3, .int x3)]) hx hb dX4_greatestReaderTimestamp_41 rfl hl (by decide) rfl (fun ls hl => ?_)
          refine lv_iinc (v := (x3 + (1 : Int32))) (lv' := [(3, .int (x3 + (1 : Int32))), (2, .int (sMax x2 (g (k0 + 3) x3.toNatClampNeg))), (0, .ref (G.1 k0)), (1, .int x1)]) hx hb dX4_greatestReaderTimestamp_42 hl (k := 3) rfl rfl (by decide) rfl (fun ls hl => ?_)
          refine lv_goto (tgt := 4) hx hb dX4_greatestReaderTimestamp_45 (by decide) ?_
          exact ih k0 x1 (sMax x2 (g (k0 + 3) x3.toNatClampNeg)) (x3 + (1 : Int32)) _ _ _ hk0 Z (lv_sub hl [2, 3, 1, 0] rfl) hm
set_option maxHeartbeats 4000000 in
set_option maxRecDepth 100000 in
theorem bX4_greatestReaderTimestamp_0 (X : gC p s m args meth c cX4_greatestReaderTimestamp 4 wmX4_greatestReaderTimestamp yX4_greatestReaderTimestamp.cls (some .int) G A) {n : Nat} {g : Mem} {r : Int32} (kI : ∀ (pc : Nat) (ls : Array Slot) (H : Heap) (locs : List Loc), decode cX4_greatestReaderTimestamp pc = .ok (.ireturn, 1) → WS wC G g A s.heap H locs → narrow .int (.int r) = .int r → W p l e { frames := 1, cells := 0, slots := 0, locals := 22 } s m args below meth c H locs 0 0 Q (F0 m pc ls [.int r])) : ∀ (k0 : Nat) (x1 : Int32) (H : Heap) (locs : List Loc) (ls : Array Slot), KD k0 = 4 → WS wC G g A s.heap H locs → lv_has ls 4 [(0, .ref (G.1 k0)), (1, .int x1)] → sX4_greatestReaderTimestamp n g k0 x1 = some r → W p l e { frames := 1, cells := 0, slots := 0, locals := 22 } s m args below meth c H locs 0 0 Q (F0 m 0 ls []) := by
  have hx := X.1
  have hb := X.2.1
  intro k0 x1 H locs ls hk0 Z hl hm
  unfold sX4_greatestReaderTimestamp at hm
  refine lv_iconst (v := 0) hx hb dX4_greatestReaderTimestamp_0 (by decide) ?_
  refine lv_istore_n (lv' := [(2, .int 0), (0, .ref (G.1 k0)), (1, .int x1)]) hx hb dX4_greatestReaderTimestamp_1 rfl hl (by decide) rfl (fun ls hl => ?_)
  refine lv_iconst (v := 0) hx hb dX4_greatestReaderTimestamp_2 (by decide) ?_
  refine lv_istore_n (lv' := [(3, .int 0), (2, .int 0), (0, .ref (G.1 k0)), (1, .int x1)]) hx hb dX4_greatestReaderTimestamp_3 rfl hl (by decide) rfl (fun ls hl => ?_)
  exact bX4_greatestReaderTimestamp_4 X kI n k0 x1 (0 : Int32) (0 : Int32) _ _ _ hk0 Z (lv_sub hl [2, 3, 1, 0] rfl) hm
theorem cX4_greatestReaderTimestamp_c (l : Launch) {G : LY} {g : Mem} {n : Nat} {k0 : Nat} {x1 : Int32} {r : Int32} (hk0 : KD k0 = 4) (hm : sX4_greatestReaderTimestamp n g k0 x1 = some r) : cI l yX4_greatestReaderTimestamp wmX4_greatestReaderTimestamp 1 22 .int wC G [.ref (G.1 k0), .int x1] g r g :=
  mk_cI sameC (by decide +kernel) rfl (Nat.le_of_ble_eq_true rfl) (fun p e s m args below meth c A Q ls X kI hl Z => bX4_greatestReaderTimestamp_0 X kI k0 x1 _ _ ls hk0 Z hl hm)
abbrev wmX4_replay : List Cond := Cond.code yX4_replay cX4_replay 6 (some .int) :: wA0
set_option maxHeartbeats 4000000 in
set_option maxRecDepth 100000 in
theorem bX4_replay_8 (X : gC p s m args meth c cX4_replay 6 wmX4_replay yX4_replay.cls (some .int) G A) {n : Nat} {g : Mem} {r : Int32} (kI : ∀ (pc : Nat) (ls : Array Slot) (H : Heap) (locs : List Loc), decode cX4_replay pc = .ok (.ireturn, 1) → WS wC G g A s.heap H locs → narrow .int (.int r) = .int r → W p l e { frames := 1, cells := 0, slots := 0, locals := 22 } s m args below meth c H locs 0 0 Q (F0 m pc ls [.int r])) : ∀ (f : Nat), ∀ (k0 : Nat) (x1 : Int32) (x2 : Int32) (x3 : Int32) (x4 : Int32) (x5 : Int32) (H : Heap) (locs : List Loc) (ls : Array Slot), KD k0 = 4 → WS wC G g A s.heap H locs → lv_has ls 6 [(0, .ref (G.1 k0)), (1, .int x1), (2, .int x2), (3, .int x3), (4, .int x4), (5, .int x5)] → sX4_replay_8 n g f k0 x1 x2 x3 x4 x5 = some r → W p l e { frames := 1, cells := 0, slots := 0, locals := 22 } s m args below meth c H locs 0 0 Q (F0 m 8 ls []) := by
  have hx := X.1
  have hb := X.2.1
  intro f
  induction f with
  | zero =>
    intro k0 x1 x2 x3 x4 x5 H locs ls hk0 Z hl hm
    cases hm
  | succ f ih =>
    intro k0 x1 x2 x3 x4 x5 H locs ls hk0 Z hl hm
    unfold sX4_replay_8 at hm
    refine lv_iload hx hb dX4_replay_8 (lv_at hl 5 rfl) ?_
    refine lv_aload_n hx hb dX4_replay_10 rfl (lv_at hl 0 rfl) ?_
    refine g_get (j := 0) (v := .int (g k0 0)) X Z (oX4 hk0) (iB4 _) rfl (by decide) rfl (List.mem_cons_of_mem _ mB59) rfl dX4_replay_11 ?_
    refine lv_icmp_ge (tgt := 84) hx hb dX4_replay_14 (by decide) (fun c1 => ?_) (fun c1 => ?_)
    · replace hm := (if_pos c1).symm.trans hm
      refine lv_iload_n hx hb dX4_replay_84 rfl (lv_at hl 3 rfl) ?_
      obtain rfl := Option.some.inj hm
      exact kI _ _ _ _ dX4_replay_85 Z (vp_nar_int _)
    · replace hm := (if_neg c1).symm.trans hm
      refine lv_aload_n hx hb dX4_replay_17 rfl (lv_at hl 0 rfl) ?_
      refine g_get (j := 2) (v := .ref (G.1 (k0 + 2))) X Z (oX4 hk0) (iB4 _) rfl (by decide) rfl (List.mem_cons_of_mem _ mB11) rfl dX4_replay_18 ?_
      refine lv_iload hx hb dX4_replay_21 (lv_at hl 5 rfl) ?_
      obtain ⟨b2, hm⟩ := sIdx_some hm
      refine g_iald X Z (aI (k42 hk0)) b2 dX4_replay_23 ?_
      refine lv_iconst (v := 2) hx hb dX4_replay_24 (by decide) ?_
      refine lv_icmp_ne (tgt := 78) hx hb dX4_replay_25 (by decide) (fun c3 => ?_) (fun c3 => ?_)
      · replace hm := (if_neg c3).symm.trans hm
        refine lv_iinc (v := (x5 + (1 : Int32))) (lv' := [(5, .int (x5 + (1 : Int32))), (0, .ref (G.1 k0)), (1, .int x1), (2, .int x2), (3, .int x3), (4, .int x4)]) hx hb dX4_replay_78 hl (k := 5) rfl rfl (by decide) rfl (fun ls hl => ?_)
        refine lv_goto (tgt := 8) hx hb dX4_replay_81 (by decide) ?_
        exact ih k0 x1 x2 x3 x4 (x5 + (1 : Int32)) _ _ _ hk0 Z (lv_sub hl [1, 2, 3, 4, 5, 0] rfl) hm
      · replace hm := (if_pos c3).symm.trans hm
        refine lv_aload_n hx hb dX4_replay_28 rfl (lv_at hl 0 rfl) ?_
        refine lv_iload hx hb dX4_replay_29 (lv_at hl 5 rfl) ?_
        refine lv_iload_n hx hb dX4_replay_31 rfl (lv_at hl 1 rfl) ?_
        obtain ⟨r6, e4, hm⟩ := sBi_some hm
        refine g_callVI (n := 2) (As := [.int x5, .int x1]) (rest := []) sameC X Z (cX4_hasWritten_c l hk0 e4) (oX4 hk0) rfl (gooV mB149 mB129 mB130 mB30 mB122) rfl (by decide +kernel) rfl ⟨Nat.le_of_ble_eq_true rfl, Nat.le_of_ble_eq_true rfl⟩ ⟨Nat.le_of_ble_eq_true rfl, Nat.le_of_ble_eq_true rfl⟩ hl.1 rfl (Nat.le_of_ble_eq_true rfl) dX4_replay_32 (fun w5 H locs Z => ?_)
        refine lv_if_eq (tgt := 78) hx hb dX4_replay_35 (by decide) (fun c7 => ?_) (fun c7 => ?_)
        · replace hm := (if_pos c7).symm.trans hm
          refine lv_iinc (v := (x5 + (1 : Int32))) (lv' := [(5, .int (x5 + (1 : Int32))), (0, .ref (G.1 k0)), (1, .int x1), (2, .int x2), (3, .int x3), (4, .int x4)]) hx hb dX4_replay_78 hl (k := 5) rfl rfl (by decide) rfl (fun ls hl => ?_)
          refine lv_goto (tgt := 8) hx hb dX4_replay_81 (by decide) ?_
          exact ih k0 x1 x2 x3 x4 (x5 + (1 : Int32)) _ _ _ hk0 Z (lv_sub hl [1, 2, 3, 4, 5, 0] rfl) hm
        · replace hm := (if_neg c7).symm.trans hm
          refine lv_aload_n hx hb dX4_replay_38 rfl (lv_at hl 0 rfl) ?_
          refine g_get (j := 3) (v := .ref (G.1 (k0 + 3))) X Z (oX4 hk0) (iB4 _) rfl (by decide) rfl (List.mem_cons_of_mem _ mB12) rfl dX4_replay_39 ?_
          refine lv_iload hx hb dX4_replay_42 (lv_at hl 5 rfl) ?_
          obtain ⟨b8, hm⟩ := sIdx_some hm
          refine g_iald X Z (aI (k43 hk0)) b8 dX4_replay_44 ?_
          refine lv_iload_n hx hb dX4_replay_45 rfl (lv_at hl 2 rfl) ?_
          refine lv_icmp_gt (tgt := 78) hx hb dX4_replay_46 (by decide) (fun c9 => ?_) (fun c9 => ?_)
          · replace hm := (if_pos c9).symm.trans hm
            refine lv_iinc (v := (x5 + (1 : Int32))) (lv' := [(5, .int (x5 + (1 : Int32))), (0, .ref (G.1 k0)), (1, .int x1), (2, .int x2), (3, .int x3), (4, .int x4)]) hx hb dX4_replay_78 hl (k := 5) rfl rfl (by decide) rfl (fun ls hl => ?_)
            refine lv_goto (tgt := 8) hx hb dX4_replay_81 (by decide) ?_
            exact ih k0 x1 x2 x3 x4 (x5 + (1 : Int32)) _ _ _ hk0 Z (lv_sub hl [1, 2, 3, 4, 5, 0] rfl) hm
          · replace hm := (if_neg c9).symm.trans hm
            refine lv_aload_n hx hb dX4_replay_49 rfl (lv_at hl 0 rfl) ?_
            refine g_get (j := 3) (v := .ref (G.1 (k0 + 3))) X Z (oX4 hk0) (iB4 _) rfl (by decide) rfl (List.mem_cons_of_mem _ mB12) rfl dX4_replay_50 ?_
            refine lv_iload hx hb dX4_replay_53 (lv_at hl 5 rfl) ?_
            obtain ⟨b10, hm⟩ := sIdx_some hm
            refine g_iald X Z (aI (k43 hk0)) b10 dX4_replay_55 ?_
            refine lv_iload hx hb dX4_replay_56 (lv_at hl 4 rfl) ?_
            refine lv_icmp_lt (tgt := 78) hx hb dX4_replay_58 (by decide) (fun c11 => ?_) (fun c11 => ?_)
            · replace hm := (if_pos c11).symm.trans hm
              refine lv_iinc (v := (x5 + (1 : Int32))) (lv' := [(5, .int (x5 + (1 : Int32))), (0, .ref (G.1 k0)), (1, .int x1), (2, .int x2), (3, .int x3), (4, .int x4)]) hx hb dX4_replay_78 hl (k := 5) rfl rfl (by decide) rfl (fun ls hl => ?_)
              refine lv_goto (tgt := 8) hx hb dX4_replay_81 (by decide) ?_
              exact ih k0 x1 x2 x3 x4 (x5 + (1 : Int32)) _ _ _ hk0 Z (lv_sub hl [1, 2, 3, 4, 5, 0] rfl) hm
            · replace hm := (if_neg c11).symm.trans hm
              refine lv_aload_n hx hb dX4_replay_61 rfl (lv_at hl 0 rfl) ?_
              refine g_get (j := 3) (v := .ref (G.1 (k0 + 3))) X Z (oX4 hk0) (iB4 _) rfl (by decide) rfl (List.mem_cons_of_mem _ mB12) rfl dX4_replay_62 ?_
              refine lv_iload hx hb dX4_replay_65 (lv_at hl 5 rfl) ?_
              obtain ⟨b12, hm⟩ := sIdx_some hm
              refine g_iald X Z (aI (k43 hk0)) b12 dX4_replay_67 ?_
              refine lv_istore (lv' := [(4, .int (g (k0 + 3) x5.toNatClampNeg)), (0, .ref (G.1 k0)), (1, .int x1), (2, .int x2), (3, .int x3), (5, .int x5)]) hx hb dX4_replay_68 hl (by decide) rfl (fun ls hl => ?_)
              refine lv_aload_n hx hb dX4_replay_70 rfl (lv_at hl 1 rfl) ?_
              refine lv_iload hx hb dX4_replay_71 (lv_at hl 5 rfl) ?_
              refine lv_iload_n hx hb dX4_replay_73 rfl (lv_at hl 2 rfl) ?_
              obtain ⟨r15, e13, hm⟩ := sBi_some hm
              refine g_callVI (n := 2) (As := [.int x5, .int x1]) (rest := []) sameC X Z (cX4_bufferOf_c l hk0 e13) (oX4 hk0) rfl (gooV mB246 mB132 mB133 mB30 mB123) rfl (by decide +kernel) rfl ⟨Nat.le_of_ble_eq_true rfl, Nat.le_of_ble_eq_true rfl⟩ ⟨Nat.le_of_ble_eq_true rfl, Nat.le_of_ble_eq_true rfl⟩ hl.1 rfl (Nat.le_of_ble_eq_true rfl) dX4_replay_74 (fun w14 H locs Z => ?_)
              refine lv_istore_n (lv' := [(3, .int r15), (4, .int (g (k0 + 3) x5.toNatClampNeg)), (0, .ref (G.1 k0)), (1, .int x1), (2, .int x2), (5, .int x5)]) hx hb dX4_replay_77 rfl hl (by decide) rfl (fun ls hl => ?_)
              refine lv_iinc (v := (x5 + (1 : Int32))) (lv' := [(5, .int (x5 + (1 : Int32))), (3, .int r15), (4, .int (g (k0 + 3) x5.toNatClampNeg)), (0, .ref (G.1 k0)), (1, .int x1), (2, .int x2)]) hx hb dX4_replay_78 hl (k := 5) rfl rfl (by decide) rfl (fun ls hl => ?_)
              refine lv_goto (tgt := 8) hx hb dX4_replay_81 (by decide) ?_
              exact ih k0 x1 x2 r15 (g (k0 + 3) x5.toNatClampNeg) (x5 + (1 : Int32)) _ _ _ hk0 Z (lv_sub hl [3, 4, 5, 1, 2, 0] rfl) hm
set_option maxHeartbeats 4000000 in
set_option maxRecDepth 100000 in
theorem bX4_replay_0 (X : gC p s m args meth c cX4_replay 6 wmX4_replay yX4_replay.cls (some .int) G A) {n : Nat} {g : Mem} {r : Int32} (kI : ∀ (pc : Nat) (ls : Array Slot) (H : Heap) (locs : List Loc), decode cX4_replay pc = .ok (.ireturn, 1) → WS wC G g A s.heap H locs → narrow .int (.int r) = .int r → W p l e { frames := 1, cells := 0, slots := 0, locals := 22 } s m args below meth c H locs 0 0 Q (F0 m pc ls [.int r])) : ∀ (k0 : Nat) (x1 : Int32) (x2 : Int32) (H : Heap) (locs : List Loc) (ls : Array Slot), KD k0 = 4 → WS wC G g A s.heap H locs → lv_has ls 6 [(0, .ref (G.1 k0)), (1, .int x1), (2, .int x2)] → sX4_replay n g k0 x1 x2 = some r → W p l e { frames := 1, cells := 0, slots := 0, locals := 22 } s m args below meth c H locs 0 0 Q (F0 m 0 ls []) := by
  have hx := X.1
  have hb := X.2.1
  intro k0 x1 x2 H locs ls hk0 Z hl hm
  unfold sX4_replay at hm
  refine lv_iconst (v := 0) hx hb dX4_replay_0 (by decide) ?_
  refine lv_istore_n (lv' := [(3, .int 0), (0, .ref (G.1 k0)), (1, .int x1), (2, .int x2)]) hx hb dX4_replay_1 rfl hl (by decide) rfl (fun ls hl => ?_)
  refine lv_iconst (v := 0) hx hb dX4_replay_2 (by decide) ?_
  refine lv_istore (lv' := [(4, .int 0), (3, .int 0), (0, .ref (G.1 k0)), (1, .int x1), (2, .int x2)]) hx hb dX4_replay_3 hl (by decide) rfl (fun ls hl => ?_)
  refine lv_iconst (v := 0) hx hb dX4_replay_5 (by decide) ?_
  refine lv_istore (lv' := [(5, .int 0), (4, .int 0), (3, .int 0), (0, .ref (G.1 k0)), (1, .int x1), (2, .int x2)]) hx hb dX4_replay_6 hl (by decide) rfl (fun ls hl => ?_)
  exact bX4_replay_8 X kI n k0 x1 x2 (0 : Int32) (0 : Int32) (0 : Int32) _ _ _ hk0 Z (lv_sub hl [3, 4, 5, 2, 1, 0] rfl) hm
theorem cX4_replay_c (l : Launch) {G : LY} {g : Mem} {n : Nat} {k0 : Nat} {x1 : Int32} {x2 : Int32} {r : Int32} (hk0 : KD k0 = 4) (hm : sX4_replay n g k0 x1 x2 = some r) : cI l yX4_replay wmX4_replay 1 22 .int wC G [.ref (G.1 k0), .int x1, .int x2] g r g :=
  mk_cI sameC (by decide +kernel) rfl (Nat.le_of_ble_eq_true rfl) (fun p e s m args below meth c A Q ls X kI hl Z => bX4_replay_0 X kI k0 x1 x2 _ _ ls hk0 Z hl hm)
abbrev wmX4_countWithStatus : List Cond := Cond.code yX4_countWithStatus cX4_countWithStatus 4 (some .int) :: wA0
set_option maxHeartbeats 4000000 in
set_option maxRecDepth 100000 in
theorem bX4_countWithStatus_4 (X : gC p s m args meth c cX4_countWithStatus 4 wmX4_countWithStatus yX4_countWithStatus.cls (some .int) G A) {n : Nat} {g : Mem} {r : Int32} (kI : ∀ (pc : Nat) (ls : Array Slot) (H : Heap) (locs : List Loc), decode cX4_countWithStatus pc = .ok (.ireturn, 1) → WS wC G g A s.heap H locs → narrow .int (.int r) = .int r → W p l e { frames := 0, cells := 0, slots := 0, locals := 0 } s m args below meth c H locs 0 0 Q (F0 m pc ls [.int r])) : ∀ (f : Nat), ∀ (k0 : Nat) (x1 : Int32) (x2 : Int32) (x3 : Int32) (H : Heap) (locs : List Loc) (ls : Array Slot), KD k0 = 4 → WS wC G g A s.heap H locs → lv_has ls 4 [(0, .ref (G.1 k0)), (1, .int x1), (2, .int x2), (3, .int x3)] → sX4_countWithStatus_4 n g f k0 x1 x2 x3 = some r → W p l e { frames := 0, cells := 0, slots := 0, locals := 0 } s m args below meth c H locs 0 0 Q (F0 m 4 ls []) := by
  have hx := X.1
  have hb := X.2.1
  intro f
  induction f with
  | zero =>
    intro k0 x1 x2 x3 H locs ls hk0 Z hl hm
    cases hm
  | succ f ih =>
    intro k0 x1 x2 x3 H locs ls hk0 Z hl hm
    unfold sX4_countWithStatus_4 at hm
    refine lv_iload_n hx hb dX4_countWithStatus_4 rfl (lv_at hl 3 rfl) ?_
    refine lv_aload_n hx hb dX4_countWithStatus_5 rfl (lv_at hl 0 rfl) ?_
    refine g_get (j := 0) (v := .int (g k0 0)) X Z (oX4 hk0) (iB4 _) rfl (by decide) rfl (List.mem_cons_of_mem _ mB59) rfl dX4_countWithStatus_6 ?_
    refine lv_icmp_ge (tgt := 31) hx hb dX4_countWithStatus_9 (by decide) (fun c1 => ?_) (fun c1 => ?_)
    · replace hm := (if_pos c1).symm.trans hm
      refine lv_iload_n hx hb dX4_countWithStatus_31 rfl (lv_at hl 2 rfl) ?_
      obtain rfl := Option.some.inj hm
      exact kI _ _ _ _ dX4_countWithStatus_32 Z (vp_nar_int _)
    · replace hm := (if_neg c1).symm.trans hm
      refine lv_aload_n hx hb dX4_countWithStatus_12 rfl (lv_at hl 0 rfl) ?_
      refine g_get (j := 2) (v := .ref (G.1 (k0 + 2))) X Z (oX4 hk0) (iB4 _) rfl (by decide) rfl (List.mem_cons_of_mem _ mB11) rfl dX4_countWithStatus_13 ?_
      refine lv_iload_n hx hb dX4_countWithStatus_16 rfl (lv_at hl 3 rfl) ?_
      obtain ⟨b2, hm⟩ := sIdx_some hm
      refine g_iald X Z (aI (k42 hk0)) b2 dX4_countWithStatus_17 ?_
      refine lv_iload_n hx hb dX4_countWithStatus_18 rfl (lv_at hl 1 rfl) ?_
      refine lv_icmp_ne (tgt := 25) hx hb dX4_countWithStatus_19 (by decide) (fun c3 => ?_) (fun c3 => ?_)
      · replace hm := (if_neg c3).symm.trans hm
        refine lv_iinc (v := (x3 + (1 : Int32))) (lv' := [(3, .int (x3 + (1 : Int32))), (0, .ref (G.1 k0)), (1, .int x1), (2, .int x2)]) hx hb dX4_countWithStatus_25 hl (k := 3) rfl rfl (by decide) rfl (fun ls hl => ?_)
        refine lv_goto (tgt := 4) hx hb dX4_countWithStatus_28 (by decide) ?_
        exact ih k0 x1 x2 (x3 + (1 : Int32)) _ _ _ hk0 Z (lv_sub hl [1, 2, 3, 0] rfl) hm
      · replace hm := (if_pos c3).symm.trans hm
        refine lv_iinc (v := (x2 + (1 : Int32))) (lv' := [(2, .int (x2 + (1 : Int32))), (0, .ref (G.1 k0)), (1, .int x1), (3, .int x3)]) hx hb dX4_countWithStatus_22 hl (k := 2) rfl rfl (by decide) rfl (fun ls hl => ?_)
        refine lv_iinc (v := (x3 + (1 : Int32))) (lv' := [(3, .int (x3 + (1 : Int32))), (2, .int (x2 + (1 : Int32))), (0, .ref (G.1 k0)), (1, .int x1)]) hx hb dX4_countWithStatus_25 hl (k := 3) rfl rfl (by decide) rfl (fun ls hl => ?_)
        refine lv_goto (tgt := 4) hx hb dX4_countWithStatus_28 (by decide) ?_
        exact ih k0 x1 (x2 + (1 : Int32)) (x3 + (1 : Int32)) _ _ _ hk0 Z (lv_sub hl [2, 3, 1, 0] rfl) hm
set_option maxHeartbeats 4000000 in
set_option maxRecDepth 100000 in
theorem bX4_countWithStatus_0 (X : gC p s m args meth c cX4_countWithStatus 4 wmX4_countWithStatus yX4_countWithStatus.cls (some .int) G A) {n : Nat} {g : Mem} {r : Int32} (kI : ∀ (pc : Nat) (ls : Array Slot) (H : Heap) (locs : List Loc), decode cX4_countWithStatus pc = .ok (.ireturn, 1) → WS wC G g A s.heap H locs → narrow .int (.int r) = .int r → W p l e { frames := 0, cells := 0, slots := 0, locals := 0 } s m args below meth c H locs 0 0 Q (F0 m pc ls [.int r])) : ∀ (k0 : Nat) (x1 : Int32) (H : Heap) (locs : List Loc) (ls : Array Slot), KD k0 = 4 → WS wC G g A s.heap H locs → lv_has ls 4 [(0, .ref (G.1 k0)), (1, .int x1)] → sX4_countWithStatus n g k0 x1 = some r → W p l e { frames := 0, cells := 0, slots := 0, locals := 0 } s m args below meth c H locs 0 0 Q (F0 m 0 ls []) := by
  have hx := X.1
  have hb := X.2.1
  intro k0 x1 H locs ls hk0 Z hl hm
  unfold sX4_countWithStatus at hm
  refine lv_iconst (v := 0) hx hb dX4_countWithStatus_0 (by decide) ?_
  refine lv_istore_n (lv' := [(2, .int 0), (0, .ref (G.1 k0)), (1, .int x1)]) hx hb dX4_countWithStatus_1 rfl hl (by decide) rfl (fun ls hl => ?_)
  refine lv_iconst (v := 0) hx hb dX4_countWithStatus_2 (by decide) ?_
  refine lv_istore_n (lv' := [(3, .int 0), (2, .int 0), (0, .ref (G.1 k0)), (1, .int x1)]) hx hb dX4_countWithStatus_3 rfl hl (by decide) rfl (fun ls hl => ?_)
  exact bX4_countWithStatus_4 X kI n k0 x1 (0 : Int32) (0 : Int32) _ _ _ hk0 Z (lv_sub hl [2, 3, 1, 0] rfl) hm
theorem cX4_countWithStatus_c (l : Launch) {G : LY} {g : Mem} {n : Nat} {k0 : Nat} {x1 : Int32} {r : Int32} (hk0 : KD k0 = 4) (hm : sX4_countWithStatus n g k0 x1 = some r) : cI l yX4_countWithStatus wmX4_countWithStatus 0 0 .int wC G [.ref (G.1 k0), .int x1] g r g :=
  mk_cI sameC (by decide +kernel) rfl (Nat.le_of_ble_eq_true rfl) (fun p e s m args below meth c A Q ls X kI hl Z => bX4_countWithStatus_0 X kI k0 x1 _ _ ls hk0 Z hl hm)
abbrev wmX4_sumOfWaits : List Cond := Cond.code yX4_sumOfWaits cX4_sumOfWaits 3 (some .int) :: wA0
set_option maxHeartbeats 4000000 in
set_option maxRecDepth 100000 in
theorem bX4_sumOfWaits_4 (X : gC p s m args meth c cX4_sumOfWaits 3 wmX4_sumOfWaits yX4_sumOfWaits.cls (some .int) G A) {n : Nat} {g : Mem} {r : Int32} (kI : ∀ (pc : Nat) (ls : Array Slot) (H : Heap) (locs : List Loc), decode cX4_sumOfWaits pc = .ok (.ireturn, 1) → WS wC G g A s.heap H locs → narrow .int (.int r) = .int r → W p l e { frames := 0, cells := 0, slots := 0, locals := 0 } s m args below meth c H locs 0 0 Q (F0 m pc ls [.int r])) : ∀ (f : Nat), ∀ (k0 : Nat) (x1 : Int32) (x2 : Int32) (H : Heap) (locs : List Loc) (ls : Array Slot), KD k0 = 4 → WS wC G g A s.heap H locs → lv_has ls 3 [(0, .ref (G.1 k0)), (1, .int x1), (2, .int x2)] → sX4_sumOfWaits_4 n g f k0 x1 x2 = some r → W p l e { frames := 0, cells := 0, slots := 0, locals := 0 } s m args below meth c H locs 0 0 Q (F0 m 4 ls []) := by
  have hx := X.1
  have hb := X.2.1
  intro f
  induction f with
  | zero =>
    intro k0 x1 x2 H locs ls hk0 Z hl hm
    cases hm
  | succ f ih =>
    intro k0 x1 x2 H locs ls hk0 Z hl hm
    unfold sX4_sumOfWaits_4 at hm
    refine lv_iload_n hx hb dX4_sumOfWaits_4 rfl (lv_at hl 2 rfl) ?_
    refine lv_aload_n hx hb dX4_sumOfWaits_5 rfl (lv_at hl 0 rfl) ?_
    refine g_get (j := 0) (v := .int (g k0 0)) X Z (oX4 hk0) (iB4 _) rfl (by decide) rfl (List.mem_cons_of_mem _ mB59) rfl dX4_sumOfWaits_6 ?_
    refine lv_icmp_ge (tgt := 44) hx hb dX4_sumOfWaits_9 (by decide) (fun c1 => ?_) (fun c1 => ?_)
    · replace hm := (if_pos c1).symm.trans hm
      refine lv_iload_n hx hb dX4_sumOfWaits_44 rfl (lv_at hl 1 rfl) ?_
      obtain rfl := Option.some.inj hm
      exact kI _ _ _ _ dX4_sumOfWaits_45 Z (vp_nar_int _)
    · replace hm := (if_neg c1).symm.trans hm
      refine lv_aload_n hx hb dX4_sumOfWaits_12 rfl (lv_at hl 0 rfl) ?_
      refine g_get (j := 2) (v := .ref (G.1 (k0 + 2))) X Z (oX4 hk0) (iB4 _) rfl (by decide) rfl (List.mem_cons_of_mem _ mB11) rfl dX4_sumOfWaits_13 ?_
      refine lv_iload_n hx hb dX4_sumOfWaits_16 rfl (lv_at hl 2 rfl) ?_
      obtain ⟨b2, hm⟩ := sIdx_some hm
      refine g_iald X Z (aI (k42 hk0)) b2 dX4_sumOfWaits_17 ?_
      refine lv_iconst (v := 2) hx hb dX4_sumOfWaits_18 (by decide) ?_
      refine lv_icmp_ne (tgt := 38) hx hb dX4_sumOfWaits_19 (by decide) (fun c3 => ?_) (fun c3 => ?_)
      · replace hm := (if_neg c3).symm.trans hm
        refine lv_iinc (v := (x2 + (1 : Int32))) (lv' := [(2, .int (x2 + (1 : Int32))), (0, .ref (G.1 k0)), (1, .int x1)]) hx hb dX4_sumOfWaits_38 hl (k := 2) rfl rfl (by decide) rfl (fun ls hl => ?_)
        refine lv_goto (tgt := 4) hx hb dX4_sumOfWaits_41 (by decide) ?_
        exact ih k0 x1 (x2 + (1 : Int32)) _ _ _ hk0 Z (lv_sub hl [1, 2, 0] rfl) hm
      · replace hm := (if_pos c3).symm.trans hm
        refine lv_iload_n hx hb dX4_sumOfWaits_22 rfl (lv_at hl 1 rfl) ?_
        refine lv_aload_n hx hb dX4_sumOfWaits_23 rfl (lv_at hl 0 rfl) ?_
        refine g_get (j := 5) (v := .ref (G.1 (k0 + 5))) X Z (oX4 hk0) (iB4 _) rfl (by decide) rfl (List.mem_cons_of_mem _ mB14) rfl dX4_sumOfWaits_24 ?_
        refine lv_iload_n hx hb dX4_sumOfWaits_27 rfl (lv_at hl 2 rfl) ?_
        obtain ⟨b4, hm⟩ := sIdx_some hm
        refine g_iald X Z (aI (k45 hk0)) b4 dX4_sumOfWaits_28 ?_
        refine lv_aload_n hx hb dX4_sumOfWaits_29 rfl (lv_at hl 0 rfl) ?_
        refine g_get (j := 4) (v := .ref (G.1 (k0 + 4))) X Z (oX4 hk0) (iB4 _) rfl (by decide) rfl (List.mem_cons_of_mem _ mB13) rfl dX4_sumOfWaits_30 ?_
        refine lv_iload_n hx hb dX4_sumOfWaits_33 rfl (lv_at hl 2 rfl) ?_
        obtain ⟨b5, hm⟩ := sIdx_some hm
        refine g_iald X Z (aI (k44 hk0)) b5 dX4_sumOfWaits_34 ?_
        refine lv_isub hx hb dX4_sumOfWaits_35 ?_
        refine lv_iadd hx hb dX4_sumOfWaits_36 ?_
        refine lv_istore_n (lv' := [(1, .int (x1 + ((g (k0 + 5) x2.toNatClampNeg) - (g (k0 + 4) x2.toNatClampNeg)))), (0, .ref (G.1 k0)), (2, .int x2)]) hx hb dX4_sumOfWaits_37 rfl hl (by decide) rfl (fun ls hl => ?_)
        refine lv_iinc (v := (x2 + (1 : Int32))) (lv' := [(2, .int (x2 + (1 : Int32))), (1, .int (x1 + ((g (k0 + 5) x2.toNatClampNeg) - (g (k0 + 4) x2.toNatClampNeg)))), (0, .ref (G.1 k0))]) hx hb dX4_sumOfWaits_38 hl (k := 2) rfl rfl (by decide) rfl (fun ls hl => ?_)
        refine lv_goto (tgt := 4) hx hb dX4_sumOfWaits_41 (by decide) ?_
        exact ih k0 (x1 + ((g (k0 + 5) x2.toNatClampNeg) - (g (k0 + 4) x2.toNatClampNeg))) (x2 + (1 : Int32)) _ _ _ hk0 Z (lv_sub hl [2, 1, 0] rfl) hm
set_option maxHeartbeats 4000000 in
set_option maxRecDepth 100000 in
theorem bX4_sumOfWaits_0 (X : gC p s m args meth c cX4_sumOfWaits 3 wmX4_sumOfWaits yX4_sumOfWaits.cls (some .int) G A) {n : Nat} {g : Mem} {r : Int32} (kI : ∀ (pc : Nat) (ls : Array Slot) (H : Heap) (locs : List Loc), decode cX4_sumOfWaits pc = .ok (.ireturn, 1) → WS wC G g A s.heap H locs → narrow .int (.int r) = .int r → W p l e { frames := 0, cells := 0, slots := 0, locals := 0 } s m args below meth c H locs 0 0 Q (F0 m pc ls [.int r])) : ∀ (k0 : Nat) (H : Heap) (locs : List Loc) (ls : Array Slot), KD k0 = 4 → WS wC G g A s.heap H locs → lv_has ls 3 [(0, .ref (G.1 k0))] → sX4_sumOfWaits n g k0 = some r → W p l e { frames := 0, cells := 0, slots := 0, locals := 0 } s m args below meth c H locs 0 0 Q (F0 m 0 ls []) := by
  have hx := X.1
  have hb := X.2.1
  intro k0 H locs ls hk0 Z hl hm
  unfold sX4_sumOfWaits at hm
  refine lv_iconst (v := 0) hx hb dX4_sumOfWaits_0 (by decide) ?_
  refine lv_istore_n (lv' := [(1, .int 0), (0, .ref (G.1 k0))]) hx hb dX4_sumOfWaits_1 rfl hl (by decide) rfl (fun ls hl => ?_)
  refine lv_iconst (v := 0) hx hb dX4_sumOfWaits_2 (by decide) ?_
  refine lv_istore_n (lv' := [(2, .int 0), (1, .int 0), (0, .ref (G.1 k0))]) hx hb dX4_sumOfWaits_3 rfl hl (by decide) rfl (fun ls hl => ?_)
  exact bX4_sumOfWaits_4 X kI n k0 (0 : Int32) (0 : Int32) _ _ _ hk0 Z (lv_sub hl [2, 1, 0] rfl) hm
theorem cX4_sumOfWaits_c (l : Launch) {G : LY} {g : Mem} {n : Nat} {k0 : Nat} {r : Int32} (hk0 : KD k0 = 4) (hm : sX4_sumOfWaits n g k0 = some r) : cI l yX4_sumOfWaits wmX4_sumOfWaits 0 0 .int wC G [.ref (G.1 k0)] g r g :=
  mk_cI sameC (by decide +kernel) rfl (Nat.le_of_ble_eq_true rfl) (fun p e s m args below meth c A Q ls X kI hl Z => bX4_sumOfWaits_0 X kI k0 _ _ ls hk0 Z hl hm)
abbrev wmX4_areInverted : List Cond := Cond.code yX4_areInverted cX4_areInverted 3 (some .boolean) :: wA0
set_option maxHeartbeats 4000000 in
set_option maxRecDepth 100000 in
theorem bX4_areInverted_30 (X : gC p s m args meth c cX4_areInverted 3 wmX4_areInverted yX4_areInverted.cls (some .boolean) G A) {g : Mem} {r : Int32} (kI : ∀ (pc : Nat) (ls : Array Slot) (H : Heap) (locs : List Loc), decode cX4_areInverted pc = .ok (.ireturn, 1) → WS wC G g A s.heap H locs → narrow .boolean (.int r) = .int r → W p l e { frames := 0, cells := 0, slots := 0, locals := 0 } s m args below meth c H locs 0 0 Q (F0 m pc ls [.int r])) : ∀ (k0 : Nat) (x1 : Int32) (x2 : Int32) (H : Heap) (locs : List Loc) (ls : Array Slot), KD k0 = 4 → WS wC G g A s.heap H locs → lv_has ls 3 [(0, .ref (G.1 k0)), (1, .int x1), (2, .int x2)] → sX4_areInverted_30 g k0 x1 x2 = some r → W p l e { frames := 0, cells := 0, slots := 0, locals := 0 } s m args below meth c H locs 0 0 Q (F0 m 30 ls []) := by
  have hx := X.1
  have hb := X.2.1
  intro k0 x1 x2 H locs ls hk0 Z hl hm
  unfold sX4_areInverted_30 at hm
  refine lv_aload_n hx hb dX4_areInverted_30 rfl (lv_at hl 0 rfl) ?_
  refine g_get (j := 5) (v := .ref (G.1 (k0 + 5))) X Z (oX4 hk0) (iB4 _) rfl (by decide) rfl (List.mem_cons_of_mem _ mB14) rfl dX4_areInverted_31 ?_
  refine lv_iload_n hx hb dX4_areInverted_34 rfl (lv_at hl 1 rfl) ?_
  obtain ⟨b1, hm⟩ := sIdx_some hm
  refine g_iald X Z (aI (k45 hk0)) b1 dX4_areInverted_35 ?_
  refine lv_aload_n hx hb dX4_areInverted_36 rfl (lv_at hl 0 rfl) ?_
  refine g_get (j := 4) (v := .ref (G.1 (k0 + 4))) X Z (oX4 hk0) (iB4 _) rfl (by decide) rfl (List.mem_cons_of_mem _ mB13) rfl dX4_areInverted_37 ?_
  refine lv_iload_n hx hb dX4_areInverted_40 rfl (lv_at hl 2 rfl) ?_
  obtain ⟨b2, hm⟩ := sIdx_some hm
  refine g_iald X Z (aI (k44 hk0)) b2 dX4_areInverted_41 ?_
  refine lv_icmp_gt (tgt := 64) hx hb dX4_areInverted_42 (by decide) (fun c3 => ?_) (fun c3 => ?_)
  · replace hm := (if_pos c3).symm.trans hm
    refine lv_iconst (v := 0) hx hb dX4_areInverted_64 (by decide) ?_
    obtain rfl := Option.some.inj hm
    exact kI _ _ _ _ dX4_areInverted_65 Z nb0
  · replace hm := (if_neg c3).symm.trans hm
    refine lv_aload_n hx hb dX4_areInverted_45 rfl (lv_at hl 0 rfl) ?_
    refine g_get (j := 3) (v := .ref (G.1 (k0 + 3))) X Z (oX4 hk0) (iB4 _) rfl (by decide) rfl (List.mem_cons_of_mem _ mB12) rfl dX4_areInverted_46 ?_
    refine lv_iload_n hx hb dX4_areInverted_49 rfl (lv_at hl 1 rfl) ?_
    obtain ⟨b4, hm⟩ := sIdx_some hm
    refine g_iald X Z (aI (k43 hk0)) b4 dX4_areInverted_50 ?_
    refine lv_aload_n hx hb dX4_areInverted_51 rfl (lv_at hl 0 rfl) ?_
    refine g_get (j := 3) (v := .ref (G.1 (k0 + 3))) X Z (oX4 hk0) (iB4 _) rfl (by decide) rfl (List.mem_cons_of_mem _ mB12) rfl dX4_areInverted_52 ?_
    refine lv_iload_n hx hb dX4_areInverted_55 rfl (lv_at hl 2 rfl) ?_
    obtain ⟨b5, hm⟩ := sIdx_some hm
    refine g_iald X Z (aI (k43 hk0)) b5 dX4_areInverted_56 ?_
    refine lv_icmp_lt (tgt := 64) hx hb dX4_areInverted_57 (by decide) (fun c6 => ?_) (fun c6 => ?_)
    · replace hm := (if_pos c6).symm.trans hm
      refine lv_iconst (v := 0) hx hb dX4_areInverted_64 (by decide) ?_
      obtain rfl := Option.some.inj hm
      exact kI _ _ _ _ dX4_areInverted_65 Z nb0
    · replace hm := (if_neg c6).symm.trans hm
      refine lv_iconst (v := 1) hx hb dX4_areInverted_60 (by decide) ?_
      refine lv_goto (tgt := 65) hx hb dX4_areInverted_61 (by decide) ?_
      obtain rfl := Option.some.inj hm
      exact kI _ _ _ _ dX4_areInverted_65 Z nb1
set_option maxHeartbeats 4000000 in
set_option maxRecDepth 100000 in
theorem bX4_areInverted_0 (X : gC p s m args meth c cX4_areInverted 3 wmX4_areInverted yX4_areInverted.cls (some .boolean) G A) {g : Mem} {r : Int32} (kI : ∀ (pc : Nat) (ls : Array Slot) (H : Heap) (locs : List Loc), decode cX4_areInverted pc = .ok (.ireturn, 1) → WS wC G g A s.heap H locs → narrow .boolean (.int r) = .int r → W p l e { frames := 0, cells := 0, slots := 0, locals := 0 } s m args below meth c H locs 0 0 Q (F0 m pc ls [.int r])) : ∀ (k0 : Nat) (x1 : Int32) (x2 : Int32) (H : Heap) (locs : List Loc) (ls : Array Slot), KD k0 = 4 → WS wC G g A s.heap H locs → lv_has ls 3 [(0, .ref (G.1 k0)), (1, .int x1), (2, .int x2)] → sX4_areInverted g k0 x1 x2 = some r → W p l e { frames := 0, cells := 0, slots := 0, locals := 0 } s m args below meth c H locs 0 0 Q (F0 m 0 ls []) := by
  have hx := X.1
  have hb := X.2.1
  intro k0 x1 x2 H locs ls hk0 Z hl hm
  unfold sX4_areInverted at hm
  refine lv_aload_n hx hb dX4_areInverted_0 rfl (lv_at hl 0 rfl) ?_
  refine g_get (j := 2) (v := .ref (G.1 (k0 + 2))) X Z (oX4 hk0) (iB4 _) rfl (by decide) rfl (List.mem_cons_of_mem _ mB11) rfl dX4_areInverted_1 ?_
  refine lv_iload_n hx hb dX4_areInverted_4 rfl (lv_at hl 1 rfl) ?_
  obtain ⟨b1, hm⟩ := sIdx_some hm
  refine g_iald X Z (aI (k42 hk0)) b1 dX4_areInverted_5 ?_
  refine lv_iconst (v := 2) hx hb dX4_areInverted_6 (by decide) ?_
  refine lv_icmp_ne (tgt := 64) hx hb dX4_areInverted_7 (by decide) (fun c2 => ?_) (fun c2 => ?_)
  · replace hm := (if_neg c2).symm.trans hm
    refine lv_iconst (v := 0) hx hb dX4_areInverted_64 (by decide) ?_
    obtain rfl := Option.some.inj hm
    exact kI _ _ _ _ dX4_areInverted_65 Z nb0
  · replace hm := (if_pos c2).symm.trans hm
    refine lv_aload_n hx hb dX4_areInverted_10 rfl (lv_at hl 0 rfl) ?_
    refine g_get (j := 2) (v := .ref (G.1 (k0 + 2))) X Z (oX4 hk0) (iB4 _) rfl (by decide) rfl (List.mem_cons_of_mem _ mB11) rfl dX4_areInverted_11 ?_
    refine lv_iload_n hx hb dX4_areInverted_14 rfl (lv_at hl 2 rfl) ?_
    obtain ⟨b3, hm⟩ := sIdx_some hm
    refine g_iald X Z (aI (k42 hk0)) b3 dX4_areInverted_15 ?_
    refine lv_iconst (v := 1) hx hb dX4_areInverted_16 (by decide) ?_
    refine lv_icmp_eq (tgt := 30) hx hb dX4_areInverted_17 (by decide) (fun c4 => ?_) (fun c4 => ?_)
    · replace hm := (if_pos c4).symm.trans hm
      exact bX4_areInverted_30 X kI k0 x1 x2 _ _ _ hk0 Z (lv_sub hl [0, 1, 2] rfl) hm
    · replace hm := (if_neg c4).symm.trans hm
      refine lv_aload_n hx hb dX4_areInverted_20 rfl (lv_at hl 0 rfl) ?_
      refine g_get (j := 2) (v := .ref (G.1 (k0 + 2))) X Z (oX4 hk0) (iB4 _) rfl (by decide) rfl (List.mem_cons_of_mem _ mB11) rfl dX4_areInverted_21 ?_
      refine lv_iload_n hx hb dX4_areInverted_24 rfl (lv_at hl 2 rfl) ?_
      obtain ⟨b5, hm⟩ := sIdx_some hm
      refine g_iald X Z (aI (k42 hk0)) b5 dX4_areInverted_25 ?_
      refine lv_iconst (v := 2) hx hb dX4_areInverted_26 (by decide) ?_
      refine lv_icmp_ne (tgt := 64) hx hb dX4_areInverted_27 (by decide) (fun c6 => ?_) (fun c6 => ?_)
      · replace hm := (if_neg c6).symm.trans hm
        refine lv_iconst (v := 0) hx hb dX4_areInverted_64 (by decide) ?_
        obtain rfl := Option.some.inj hm
        exact kI _ _ _ _ dX4_areInverted_65 Z nb0
      · replace hm := (if_pos c6).symm.trans hm
        exact bX4_areInverted_30 X kI k0 x1 x2 _ _ _ hk0 Z (lv_sub hl [0, 1, 2] rfl) hm
theorem cX4_areInverted_c (l : Launch) {G : LY} {g : Mem} {k0 : Nat} {x1 : Int32} {x2 : Int32} {r : Int32} (hk0 : KD k0 = 4) (hm : sX4_areInverted g k0 x1 x2 = some r) : cI l yX4_areInverted wmX4_areInverted 0 0 .boolean wC G [.ref (G.1 k0), .int x1, .int x2] g r g :=
  mk_cI sameC (by decide +kernel) rfl (Nat.le_of_ble_eq_true rfl) (fun p e s m args below meth c A Q ls X kI hl Z => bX4_areInverted_0 X kI k0 x1 x2 _ _ ls hk0 Z hl hm)
abbrev wmX4_countInversions : List Cond := Cond.code yX4_countInversions cX4_countInversions 4 (some .int) :: wA0
set_option maxHeartbeats 4000000 in
set_option maxRecDepth 100000 in
theorem bX4_countInversions_14 (X : gC p s m args meth c cX4_countInversions 4 wmX4_countInversions yX4_countInversions.cls (some .int) G A) {n : Nat} {g : Mem} {r : Int32} (kI : ∀ (pc : Nat) (ls : Array Slot) (H : Heap) (locs : List Loc), decode cX4_countInversions pc = .ok (.ireturn, 1) → WS wC G g A s.heap H locs → narrow .int (.int r) = .int r → W p l e { frames := 1, cells := 0, slots := 0, locals := 22 } s m args below meth c H locs 0 0 Q (F0 m pc ls [.int r])) {rec4 : Nat → Int32 → Int32 → Option (Int32)} (h4 : ∀ (k0 : Nat) (x1 : Int32) (x2 : Int32) (H : Heap) (locs : List Loc) (ls : Array Slot), KD k0 = 4 → WS wC G g A s.heap H locs → lv_has ls 4 [(0, .ref (G.1 k0)), (1, .int x1), (2, .int x2)] → rec4 k0 x1 x2 = some r → W p l e { frames := 1, cells := 0, slots := 0, locals := 22 } s m args below meth c H locs 0 0 Q (F0 m 4 ls [])) : ∀ (f : Nat), ∀ (k0 : Nat) (x1 : Int32) (x2 : Int32) (x3 : Int32) (H : Heap) (locs : List Loc) (ls : Array Slot), KD k0 = 4 → WS wC G g A s.heap H locs → lv_has ls 4 [(0, .ref (G.1 k0)), (1, .int x1), (2, .int x2), (3, .int x3)] → sX4_countInversions_14 n g rec4 f k0 x1 x2 x3 = some r → W p l e { frames := 1, cells := 0, slots := 0, locals := 22 } s m args below meth c H locs 0 0 Q (F0 m 14 ls []) := by
  have hx := X.1
  have hb := X.2.1
  intro f
  induction f with
  | zero =>
    intro k0 x1 x2 x3 H locs ls hk0 Z hl hm
    cases hm
  | succ f ih =>
    intro k0 x1 x2 x3 H locs ls hk0 Z hl hm
    unfold sX4_countInversions_14 at hm
    refine lv_iload_n hx hb dX4_countInversions_14 rfl (lv_at hl 3 rfl) ?_
    refine lv_aload_n hx hb dX4_countInversions_15 rfl (lv_at hl 0 rfl) ?_
    refine g_get (j := 0) (v := .int (g k0 0)) X Z (oX4 hk0) (iB4 _) rfl (by decide) rfl (List.mem_cons_of_mem _ mB59) rfl dX4_countInversions_16 ?_
    refine lv_icmp_ge (tgt := 40) hx hb dX4_countInversions_19 (by decide) (fun c1 => ?_) (fun c1 => ?_)
    · replace hm := (if_pos c1).symm.trans hm
      refine lv_iinc (v := (x2 + (1 : Int32))) (lv' := [(2, .int (x2 + (1 : Int32))), (0, .ref (G.1 k0)), (1, .int x1), (3, .int x3)]) hx hb dX4_countInversions_40 hl (k := 2) rfl rfl (by decide) rfl (fun ls hl => ?_)
      refine lv_goto (tgt := 4) hx hb dX4_countInversions_43 (by decide) ?_
      exact h4 k0 x1 (x2 + (1 : Int32)) _ _ _ hk0 Z (lv_sub hl [1, 2, 0] rfl) hm
    · replace hm := (if_neg c1).symm.trans hm
      refine lv_aload_n hx hb dX4_countInversions_22 rfl (lv_at hl 0 rfl) ?_
      refine lv_iload_n hx hb dX4_countInversions_23 rfl (lv_at hl 2 rfl) ?_
      refine lv_iload_n hx hb dX4_countInversions_24 rfl (lv_at hl 3 rfl) ?_
      obtain ⟨r4, e2, hm⟩ := sBi_some hm
      refine g_callVI (n := 2) (As := [.int x2, .int x3]) (rest := []) sameC X Z (cX4_areInverted_c l hk0 e2) (oX4 hk0) rfl (gooV mB251 mB252 mB253 mB30 mB249) rfl (by decide +kernel) rfl ⟨Nat.le_of_ble_eq_true rfl, Nat.le_of_ble_eq_true rfl⟩ ⟨Nat.le_of_ble_eq_true rfl, Nat.le_of_ble_eq_true rfl⟩ hl.1 rfl (Nat.le_of_ble_eq_true rfl) dX4_countInversions_25 (fun w3 H locs Z => ?_)
      refine lv_if_eq (tgt := 34) hx hb dX4_countInversions_28 (by decide) (fun c5 => ?_) (fun c5 => ?_)
      · replace hm := (if_pos c5).symm.trans hm
        refine lv_iinc (v := (x3 + (1 : Int32))) (lv' := [(3, .int (x3 + (1 : Int32))), (0, .ref (G.1 k0)), (1, .int x1), (2, .int x2)]) hx hb dX4_countInversions_34 hl (k := 3) rfl rfl (by decide) rfl (fun ls hl => ?_)
        refine lv_goto (tgt := 14) hx hb dX4_countInversions_37 (by decide) ?_
        exact ih k0 x1 x2 (x3 + (1 : Int32)) _ _ _ hk0 Z (lv_sub hl [1, 2, 3, 0] rfl) hm
      · replace hm := (if_neg c5).symm.trans hm
        refine lv_iinc (v := (x1 + (1 : Int32))) (lv' := [(1, .int (x1 + (1 : Int32))), (0, .ref (G.1 k0)), (2, .int x2), (3, .int x3)]) hx hb dX4_countInversions_31 hl (k := 1) rfl rfl (by decide) rfl (fun ls hl => ?_)
        refine lv_iinc (v := (x3 + (1 : Int32))) (lv' := [(3, .int (x3 + (1 : Int32))), (1, .int (x1 + (1 : Int32))), (0, .ref (G.1 k0)), (2, .int x2)]) hx hb dX4_countInversions_34 hl (k := 3) rfl rfl (by decide) rfl (fun ls hl => ?_)
        refine lv_goto (tgt := 14) hx hb dX4_countInversions_37 (by decide) ?_
        exact ih k0 (x1 + (1 : Int32)) x2 (x3 + (1 : Int32)) _ _ _ hk0 Z (lv_sub hl [2, 1, 3, 0] rfl) hm
set_option maxHeartbeats 4000000 in
set_option maxRecDepth 100000 in
theorem bX4_countInversions_4 (X : gC p s m args meth c cX4_countInversions 4 wmX4_countInversions yX4_countInversions.cls (some .int) G A) {n : Nat} {g : Mem} {r : Int32} (kI : ∀ (pc : Nat) (ls : Array Slot) (H : Heap) (locs : List Loc), decode cX4_countInversions pc = .ok (.ireturn, 1) → WS wC G g A s.heap H locs → narrow .int (.int r) = .int r → W p l e { frames := 1, cells := 0, slots := 0, locals := 22 } s m args below meth c H locs 0 0 Q (F0 m pc ls [.int r])) : ∀ (f : Nat), ∀ (k0 : Nat) (x1 : Int32) (x2 : Int32) (H : Heap) (locs : List Loc) (ls : Array Slot), KD k0 = 4 → WS wC G g A s.heap H locs → lv_has ls 4 [(0, .ref (G.1 k0)), (1, .int x1), (2, .int x2)] → sX4_countInversions_4 n g f k0 x1 x2 = some r → W p l e { frames := 1, cells := 0, slots := 0, locals := 22 } s m args below meth c H locs 0 0 Q (F0 m 4 ls []) := by
  have hx := X.1
  have hb := X.2.1
  intro f
  induction f with
  | zero =>
    intro k0 x1 x2 H locs ls hk0 Z hl hm
    cases hm
  | succ f ih =>
    intro k0 x1 x2 H locs ls hk0 Z hl hm
    unfold sX4_countInversions_4 at hm
    refine lv_iload_n hx hb dX4_countInversions_4 rfl (lv_at hl 2 rfl) ?_
    refine lv_aload_n hx hb dX4_countInversions_5 rfl (lv_at hl 0 rfl) ?_
    refine g_get (j := 0) (v := .int (g k0 0)) X Z (oX4 hk0) (iB4 _) rfl (by decide) rfl (List.mem_cons_of_mem _ mB59) rfl dX4_countInversions_6 ?_
    refine lv_icmp_ge (tgt := 46) hx hb dX4_countInversions_9 (by decide) (fun c1 => ?_) (fun c1 => ?_)
    · replace hm := (if_pos c1).symm.trans hm
      refine lv_iload_n hx hb dX4_countInversions_46 rfl (lv_at hl 1 rfl) ?_
      obtain rfl := Option.some.inj hm
      exact kI _ _ _ _ dX4_countInversions_47 Z (vp_nar_int _)
    · replace hm := (if_neg c1).symm.trans hm
      refine lv_iconst (v := 0) hx hb dX4_countInversions_12 (by decide) ?_
      refine lv_istore_n (lv' := [(3, .int 0), (0, .ref (G.1 k0)), (1, .int x1), (2, .int x2)]) hx hb dX4_countInversions_13 rfl hl (by decide) rfl (fun ls hl => ?_)
      exact bX4_countInversions_14 X kI ih n k0 x1 x2 (0 : Int32) _ _ _ hk0 Z (lv_sub hl [1, 2, 3, 0] rfl) hm
set_option maxHeartbeats 4000000 in
set_option maxRecDepth 100000 in
theorem bX4_countInversions_0 (X : gC p s m args meth c cX4_countInversions 4 wmX4_countInversions yX4_countInversions.cls (some .int) G A) {n : Nat} {g : Mem} {r : Int32} (kI : ∀ (pc : Nat) (ls : Array Slot) (H : Heap) (locs : List Loc), decode cX4_countInversions pc = .ok (.ireturn, 1) → WS wC G g A s.heap H locs → narrow .int (.int r) = .int r → W p l e { frames := 1, cells := 0, slots := 0, locals := 22 } s m args below meth c H locs 0 0 Q (F0 m pc ls [.int r])) : ∀ (k0 : Nat) (H : Heap) (locs : List Loc) (ls : Array Slot), KD k0 = 4 → WS wC G g A s.heap H locs → lv_has ls 4 [(0, .ref (G.1 k0))] → sX4_countInversions n g k0 = some r → W p l e { frames := 1, cells := 0, slots := 0, locals := 22 } s m args below meth c H locs 0 0 Q (F0 m 0 ls []) := by
  have hx := X.1
  have hb := X.2.1
  intro k0 H locs ls hk0 Z hl hm
  unfold sX4_countInversions at hm
  refine lv_iconst (v := 0) hx hb dX4_countInversions_0 (by decide) ?_
  refine lv_istore_n (lv' := [(1, .int 0), (0, .ref (G.1 k0))]) hx hb dX4_countInversions_1 rfl hl (by decide) rfl (fun ls hl => ?_)
  refine lv_iconst (v := 0) hx hb dX4_countInversions_2 (by decide) ?_
  refine lv_istore_n (lv' := [(2, .int 0), (1, .int 0), (0, .ref (G.1 k0))]) hx hb dX4_countInversions_3 rfl hl (by decide) rfl (fun ls hl => ?_)
  exact bX4_countInversions_4 X kI n k0 (0 : Int32) (0 : Int32) _ _ _ hk0 Z (lv_sub hl [2, 1, 0] rfl) hm
theorem cX4_countInversions_c (l : Launch) {G : LY} {g : Mem} {n : Nat} {k0 : Nat} {r : Int32} (hk0 : KD k0 = 4) (hm : sX4_countInversions n g k0 = some r) : cI l yX4_countInversions wmX4_countInversions 1 22 .int wC G [.ref (G.1 k0)] g r g :=
  mk_cI sameC (by decide +kernel) rfl (Nat.le_of_ble_eq_true rfl) (fun p e s m args below meth c A Q ls X kI hl Z => bX4_countInversions_0 X kI k0 _ _ ls hk0 Z hl hm)
end GW
