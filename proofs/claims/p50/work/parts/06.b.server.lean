section GW
variable {Qc : Array Value → State → Outcome → State → Prop} {XC : String → State → State → Prop} {p : Program} {l : Launch} {e : Env} {s : State} {m : MethodId} {args : Array Value} {below : List Frame} {meth : Method} {c : Code} {Q : State → Prop} {G : LY} {A : Nat → Prop}
abbrev wmX1_copyFrom : List Cond := Cond.code yX1_copyFrom cX1_copyFrom 2 none :: wA0
set_option maxHeartbeats 4000000 in
set_option maxRecDepth 100000 in
theorem bX1_copyFrom_0 (X : gC p s m args meth c cX1_copyFrom 2 wmX1_copyFrom yX1_copyFrom.cls none G A) {r : Mem} (kI : ∀ (pc : Nat) (ls : Array Slot) (H : Heap) (locs : List Loc), decode cX1_copyFrom pc = .ok (.return_, 1) → WS wC G r A s.heap H locs → W p l e { frames := 0, cells := 0, slots := 0, locals := 0 } s m args below meth c H locs 0 0 Q (F0 m pc ls [])) : ∀ (g : Mem) (k0 : Nat) (k1 : Nat) (H : Heap) (locs : List Loc) (ls : Array Slot), KD k0 = 1 → KD k1 = 1 → WS wC G g A s.heap H locs → lv_has ls 2 [(0, .ref (G.1 k0)), (1, .ref (G.1 k1))] → sX1_copyFrom g k0 k1 = some r → W p l e { frames := 0, cells := 0, slots := 0, locals := 0 } s m args below meth c H locs 0 0 Q (F0 m 0 ls []) := by
  have hx := X.1
  have hb := X.2.1
  intro g k0 k1 H locs ls hk0 hk1 Z hl hm
  unfold sX1_copyFrom at hm
  refine lv_aload_n hx hb dX1_copyFrom_0 rfl (lv_at hl 0 rfl) ?_
  refine lv_aload_n hx hb dX1_copyFrom_1 rfl (lv_at hl 1 rfl) ?_
  refine g_get (j := 0) (v := .int (g k1 0)) X Z (oX1 hk1) (iB1 _) rfl (by decide) rfl (List.mem_cons_of_mem _ mB48) rfl dX1_copyFrom_2 ?_
  obtain ⟨g1, eg1, hm⟩ := sLet_some hm
  refine g_put (j := 0) eg1 X Z (oX1 hk0) (iB1 _) rfl tyX1_ok nmX1 (by decide) rfl rfl (Nat.le_of_ble_eq_true rfl) (p1_0 G g (g k1 0)) rfl (List.mem_cons_of_mem _ mB48) dX1_copyFrom_5 (fun H locs Z => ?_)
  refine lv_aload_n hx hb dX1_copyFrom_8 rfl (lv_at hl 0 rfl) ?_
  refine lv_aload_n hx hb dX1_copyFrom_9 rfl (lv_at hl 1 rfl) ?_
  refine g_get (j := 1) (v := .int (g1 k1 1)) X Z (oX1 hk1) (iB1 _) rfl (by decide) rfl (List.mem_cons_of_mem _ mB49) rfl dX1_copyFrom_10 ?_
  obtain ⟨g2, eg2, hm⟩ := sLet_some hm
  refine g_put (j := 1) eg2 X Z (oX1 hk0) (iB1 _) rfl tyX1_ok nmX1 (by decide) rfl rfl (Nat.le_of_ble_eq_true rfl) (p1_1 G g1 (g1 k1 1)) rfl (List.mem_cons_of_mem _ mB49) dX1_copyFrom_13 (fun H locs Z => ?_)
  refine lv_aload_n hx hb dX1_copyFrom_16 rfl (lv_at hl 0 rfl) ?_
  refine lv_aload_n hx hb dX1_copyFrom_17 rfl (lv_at hl 1 rfl) ?_
  refine g_get (j := 2) (v := .int (g2 k1 2)) X Z (oX1 hk1) (iB1 _) rfl (by decide) rfl (List.mem_cons_of_mem _ mB50) rfl dX1_copyFrom_18 ?_
  obtain ⟨g3, eg3, hm⟩ := sLet_some hm
  refine g_put (j := 2) eg3 X Z (oX1 hk0) (iB1 _) rfl tyX1_ok nmX1 (by decide) rfl rfl (Nat.le_of_ble_eq_true rfl) (p1_2 G g2 (g2 k1 2)) rfl (List.mem_cons_of_mem _ mB50) dX1_copyFrom_21 (fun H locs Z => ?_)
  refine lv_aload_n hx hb dX1_copyFrom_24 rfl (lv_at hl 0 rfl) ?_
  refine lv_aload_n hx hb dX1_copyFrom_25 rfl (lv_at hl 1 rfl) ?_
  refine g_get (j := 3) (v := .int (g3 k1 3)) X Z (oX1 hk1) (iB1 _) rfl (by decide) rfl (List.mem_cons_of_mem _ mB19) rfl dX1_copyFrom_26 ?_
  obtain ⟨g4, eg4, hm⟩ := sLet_some hm
  refine g_put (j := 3) eg4 X Z (oX1 hk0) (iB1 _) rfl tyX1_ok nmX1 (by decide) rfl rfl (Nat.le_of_ble_eq_true rfl) (p1_3 G g3 (g3 k1 3)) rfl (List.mem_cons_of_mem _ mB19) dX1_copyFrom_29 (fun H locs Z => ?_)
  refine lv_aload_n hx hb dX1_copyFrom_32 rfl (lv_at hl 0 rfl) ?_
  refine lv_aload_n hx hb dX1_copyFrom_33 rfl (lv_at hl 1 rfl) ?_
  refine g_get (j := 4) (v := .int (g4 k1 4)) X Z (oX1 hk1) (iB1 _) rfl (by decide) rfl (List.mem_cons_of_mem _ mB20) rfl dX1_copyFrom_34 ?_
  obtain ⟨g5, eg5, hm⟩ := sLet_some hm
  refine g_put (j := 4) eg5 X Z (oX1 hk0) (iB1 _) rfl tyX1_ok nmX1 (by decide) rfl rfl (Nat.le_of_ble_eq_true rfl) (p1_4 G g4 (g4 k1 4)) rfl (List.mem_cons_of_mem _ mB20) dX1_copyFrom_37 (fun H locs Z => ?_)
  refine lv_aload_n hx hb dX1_copyFrom_40 rfl (lv_at hl 0 rfl) ?_
  refine lv_aload_n hx hb dX1_copyFrom_41 rfl (lv_at hl 1 rfl) ?_
  refine g_get (j := 5) (v := .int (g5 k1 5)) X Z (oX1 hk1) (iB1 _) rfl (by decide) rfl (List.mem_cons_of_mem _ mB51) rfl dX1_copyFrom_42 ?_
  obtain ⟨g6, eg6, hm⟩ := sLet_some hm
  refine g_put (j := 5) eg6 X Z (oX1 hk0) (iB1 _) rfl tyX1_ok nmX1 (by decide) rfl rfl (Nat.le_of_ble_eq_true rfl) (p1_5 G g5 (g5 k1 5)) rfl (List.mem_cons_of_mem _ mB51) dX1_copyFrom_45 (fun H locs Z => ?_)
  refine lv_aload_n hx hb dX1_copyFrom_48 rfl (lv_at hl 0 rfl) ?_
  refine lv_aload_n hx hb dX1_copyFrom_49 rfl (lv_at hl 1 rfl) ?_
  refine g_get (j := 6) (v := .int (g6 k1 6)) X Z (oX1 hk1) (iB1 _) rfl (by decide) rfl (List.mem_cons_of_mem _ mB52) rfl dX1_copyFrom_50 ?_
  obtain ⟨g7, eg7, hm⟩ := sLet_some hm
  refine g_put (j := 6) eg7 X Z (oX1 hk0) (iB1 _) rfl tyX1_ok nmX1 (by decide) rfl rfl (Nat.le_of_ble_eq_true rfl) (p1_6 G g6 (g6 k1 6)) rfl (List.mem_cons_of_mem _ mB52) dX1_copyFrom_53 (fun H locs Z => ?_)
  obtain rfl := Option.some.inj hm
  exact kI _ _ _ _ dX1_copyFrom_56 Z
theorem cX1_copyFrom_c (l : Launch) {G : LY} {g : Mem} {k0 : Nat} {k1 : Nat} {r : Mem} (hk0 : KD k0 = 1) (hk1 : KD k1 = 1) (hm : sX1_copyFrom g k0 k1 = some r) : cV l yX1_copyFrom wmX1_copyFrom 0 0 wC G [.ref (G.1 k0), .ref (G.1 k1)] g r :=
  mk_cV sameC (by decide +kernel) rfl (Nat.le_of_ble_eq_true rfl) (fun p e s m args below meth c A Q ls X kI hl Z => bX1_copyFrom_0 X kI g k0 k1 _ _ ls hk0 hk1 Z hl hm)
abbrev wmX1_setOffset : List Cond := Cond.code yX1_setOffset cX1_setOffset 3 none :: wA0
set_option maxHeartbeats 4000000 in
set_option maxRecDepth 100000 in
theorem bX1_setOffset_0 (X : gC p s m args meth c cX1_setOffset 3 wmX1_setOffset yX1_setOffset.cls none G A) {r : Mem} (kI : ∀ (pc : Nat) (ls : Array Slot) (H : Heap) (locs : List Loc), decode cX1_setOffset pc = .ok (.return_, 1) → WS wC G r A s.heap H locs → W p l e { frames := 0, cells := 0, slots := 0, locals := 0 } s m args below meth c H locs 0 0 Q (F0 m pc ls [])) : ∀ (g : Mem) (k0 : Nat) (x1 : Int32) (x2 : Int32) (H : Heap) (locs : List Loc) (ls : Array Slot), KD k0 = 1 → WS wC G g A s.heap H locs → lv_has ls 3 [(0, .ref (G.1 k0)), (1, .int x1), (2, .int x2)] → sX1_setOffset g k0 x1 x2 = some r → W p l e { frames := 0, cells := 0, slots := 0, locals := 0 } s m args below meth c H locs 0 0 Q (F0 m 0 ls []) := by
  have hx := X.1
  have hb := X.2.1
  intro g k0 x1 x2 H locs ls hk0 Z hl hm
  unfold sX1_setOffset at hm
  refine lv_aload_n hx hb dX1_setOffset_0 rfl (lv_at hl 0 rfl) ?_
  refine lv_iload_n hx hb dX1_setOffset_1 rfl (lv_at hl 1 rfl) ?_
  obtain ⟨g1, eg1, hm⟩ := sLet_some hm
  refine g_put (j := 0) eg1 X Z (oX1 hk0) (iB1 _) rfl tyX1_ok nmX1 (by decide) rfl rfl (Nat.le_of_ble_eq_true rfl) (p1_0 G g x1) rfl (List.mem_cons_of_mem _ mB48) dX1_setOffset_2 (fun H locs Z => ?_)
  refine lv_aload_n hx hb dX1_setOffset_5 rfl (lv_at hl 0 rfl) ?_
  refine lv_iload_n hx hb dX1_setOffset_6 rfl (lv_at hl 2 rfl) ?_
  obtain ⟨g2, eg2, hm⟩ := sLet_some hm
  refine g_put (j := 1) eg2 X Z (oX1 hk0) (iB1 _) rfl tyX1_ok nmX1 (by decide) rfl rfl (Nat.le_of_ble_eq_true rfl) (p1_1 G g1 x2) rfl (List.mem_cons_of_mem _ mB49) dX1_setOffset_7 (fun H locs Z => ?_)
  refine lv_aload_n hx hb dX1_setOffset_10 rfl (lv_at hl 0 rfl) ?_
  refine lv_iload_n hx hb dX1_setOffset_11 rfl (lv_at hl 2 rfl) ?_
  obtain ⟨g3, eg3, hm⟩ := sLet_some hm
  refine g_put (j := 5) eg3 X Z (oX1 hk0) (iB1 _) rfl tyX1_ok nmX1 (by decide) rfl rfl (Nat.le_of_ble_eq_true rfl) (p1_5 G g2 x2) rfl (List.mem_cons_of_mem _ mB51) dX1_setOffset_12 (fun H locs Z => ?_)
  obtain rfl := Option.some.inj hm
  exact kI _ _ _ _ dX1_setOffset_15 Z
theorem cX1_setOffset_c (l : Launch) {G : LY} {g : Mem} {k0 : Nat} {x1 : Int32} {x2 : Int32} {r : Mem} (hk0 : KD k0 = 1) (hm : sX1_setOffset g k0 x1 x2 = some r) : cV l yX1_setOffset wmX1_setOffset 0 0 wC G [.ref (G.1 k0), .int x1, .int x2] g r :=
  mk_cV sameC (by decide +kernel) rfl (Nat.le_of_ble_eq_true rfl) (fun p e s m args below meth c A Q ls X kI hl Z => bX1_setOffset_0 X kI g k0 x1 x2 _ _ ls hk0 Z hl hm)
abbrev wmX1_offsetAt : List Cond := Cond.code yX1_offsetAt cX1_offsetAt 2 (some .int) :: wA0
set_option maxHeartbeats 4000000 in
set_option maxRecDepth 100000 in
theorem bX1_offsetAt_0 (X : gC p s m args meth c cX1_offsetAt 2 wmX1_offsetAt yX1_offsetAt.cls (some .int) G A) {g : Mem} {r : Int32} (kI : ∀ (pc : Nat) (ls : Array Slot) (H : Heap) (locs : List Loc), decode cX1_offsetAt pc = .ok (.ireturn, 1) → WS wC G g A s.heap H locs → narrow .int (.int r) = .int r → W p l e { frames := 1, cells := 0, slots := 0, locals := 22 } s m args below meth c H locs 0 0 Q (F0 m pc ls [.int r])) : ∀ (k0 : Nat) (x1 : Int32) (H : Heap) (locs : List Loc) (ls : Array Slot), KD k0 = 1 → WS wC G g A s.heap H locs → lv_has ls 2 [(0, .ref (G.1 k0)), (1, .int x1)] → sX1_offsetAt g k0 x1 = some r → W p l e { frames := 1, cells := 0, slots := 0, locals := 22 } s m args below meth c H locs 0 0 Q (F0 m 0 ls []) := by
  have hx := X.1
  have hb := X.2.1
  intro k0 x1 H locs ls hk0 Z hl hm
  unfold sX1_offsetAt at hm
  refine lv_aload_n hx hb dX1_offsetAt_0 rfl (lv_at hl 0 rfl) ?_
  refine g_get (j := 0) (v := .int (g k0 0)) X Z (oX1 hk0) (iB1 _) rfl (by decide) rfl (List.mem_cons_of_mem _ mB48) rfl dX1_offsetAt_1 ?_
  refine lv_aload_n hx hb dX1_offsetAt_4 rfl (lv_at hl 0 rfl) ?_
  refine g_get (j := 2) (v := .int (g k0 2)) X Z (oX1 hk0) (iB1 _) rfl (by decide) rfl (List.mem_cons_of_mem _ mB50) rfl dX1_offsetAt_5 ?_
  refine lv_iload_n hx hb dX1_offsetAt_8 rfl (lv_at hl 1 rfl) ?_
  refine lv_aload_n hx hb dX1_offsetAt_9 rfl (lv_at hl 0 rfl) ?_
  refine g_get (j := 1) (v := .int (g k0 1)) X Z (oX1 hk0) (iB1 _) rfl (by decide) rfl (List.mem_cons_of_mem _ mB49) rfl dX1_offsetAt_10 ?_
  refine lv_isub hx hb dX1_offsetAt_13 ?_
  refine lv_imul hx hb dX1_offsetAt_14 ?_
  refine lv_sipush (v := 1000) hx hb dX1_offsetAt_15 (by decide) ?_
  obtain ⟨r3, e1, hm⟩ := sBi_some hm
  refine g_callSI (n := 2) (As := [.int ((g k0 2) * (x1 - (g k0 1))), .int 1000]) (rest := [.int (g k0 0)]) sameC X Z (cJ9_floorDiv_7cf53_c l e1) (gooS mB87 mB88 mB89 mB85) rfl (by decide +kernel) rfl ⟨Nat.le_of_ble_eq_true rfl, Nat.le_of_ble_eq_true rfl⟩ ⟨Nat.le_of_ble_eq_true rfl, Nat.le_of_ble_eq_true rfl⟩ hl.1 rfl (Nat.le_of_ble_eq_true rfl) dX1_offsetAt_18 (fun w2 H locs Z => ?_)
  refine lv_iadd hx hb dX1_offsetAt_21 ?_
  obtain rfl := Option.some.inj hm
  exact kI _ _ _ _ dX1_offsetAt_22 Z (vp_nar_int _)
theorem cX1_offsetAt_c (l : Launch) {G : LY} {g : Mem} {k0 : Nat} {x1 : Int32} {r : Int32} (hk0 : KD k0 = 1) (hm : sX1_offsetAt g k0 x1 = some r) : cI l yX1_offsetAt wmX1_offsetAt 1 22 .int wC G [.ref (G.1 k0), .int x1] g r g :=
  mk_cI sameC (by decide +kernel) rfl (Nat.le_of_ble_eq_true rfl) (fun p e s m args below meth c A Q ls X kI hl Z => bX1_offsetAt_0 X kI k0 x1 _ _ ls hk0 Z hl hm)
abbrev wmX1_changeDrift : List Cond := Cond.code yX1_changeDrift cX1_changeDrift 4 (some .int) :: wA0
set_option maxHeartbeats 4000000 in
set_option maxRecDepth 100000 in
theorem bX1_changeDrift_0 (X : gC p s m args meth c cX1_changeDrift 4 wmX1_changeDrift yX1_changeDrift.cls (some .int) G A) {r : Int32 × Mem} (kI : ∀ (pc : Nat) (ls : Array Slot) (H : Heap) (locs : List Loc), decode cX1_changeDrift pc = .ok (.ireturn, 1) → WS wC G r.2 A s.heap H locs → narrow .int (.int r.1) = .int r.1 → W p l e { frames := 2, cells := 0, slots := 0, locals := 43 } s m args below meth c H locs 0 0 Q (F0 m pc ls [.int r.1])) : ∀ (g : Mem) (k0 : Nat) (x1 : Int32) (x2 : Int32) (H : Heap) (locs : List Loc) (ls : Array Slot), KD k0 = 1 → WS wC G g A s.heap H locs → lv_has ls 4 [(0, .ref (G.1 k0)), (1, .int x1), (2, .int x2)] → sX1_changeDrift g k0 x1 x2 = some r → W p l e { frames := 2, cells := 0, slots := 0, locals := 43 } s m args below meth c H locs 0 0 Q (F0 m 0 ls []) := by
  have hx := X.1
  have hb := X.2.1
  intro g k0 x1 x2 H locs ls hk0 Z hl hm
  unfold sX1_changeDrift at hm
  refine lv_aload_n hx hb dX1_changeDrift_0 rfl (lv_at hl 0 rfl) ?_
  refine g_get (j := 2) (v := .int (g k0 2)) X Z (oX1 hk0) (iB1 _) rfl (by decide) rfl (List.mem_cons_of_mem _ mB50) rfl dX1_changeDrift_1 ?_
  refine lv_istore_n (lv' := [(3, .int (g k0 2)), (0, .ref (G.1 k0)), (1, .int x1), (2, .int x2)]) hx hb dX1_changeDrift_4 rfl hl (by decide) rfl (fun ls hl => ?_)
  refine lv_aload_n hx hb dX1_changeDrift_5 rfl (lv_at hl 1 rfl) ?_
  refine lv_aload_n hx hb dX1_changeDrift_6 rfl (lv_at hl 1 rfl) ?_
  refine lv_iload_n hx hb dX1_changeDrift_7 rfl (lv_at hl 3 rfl) ?_
  obtain ⟨r3, e1, hm⟩ := sBi_some hm
  refine g_callVI (n := 1) (As := [.int x2]) (rest := [.ref (G.1 k0)]) sameC X Z (cX1_offsetAt_c l hk0 e1) (oX1 hk0) rfl (gooV mB91 mB92 mB93 mB33 mB86) rfl (by decide +kernel) rfl ⟨Nat.le_of_ble_eq_true rfl, Nat.le_of_ble_eq_true rfl⟩ ⟨Nat.le_of_ble_eq_true rfl, Nat.le_of_ble_eq_true rfl⟩ hl.1 rfl (Nat.le_of_ble_eq_true rfl) dX1_changeDrift_8 (fun w2 H locs Z => ?_)
  obtain ⟨g4, eg4, hm⟩ := sLet_some hm
  refine g_put (j := 0) eg4 X Z (oX1 hk0) (iB1 _) rfl tyX1_ok nmX1 (by decide) rfl rfl (Nat.le_of_ble_eq_true rfl) (p1_0 G g r3) rfl (List.mem_cons_of_mem _ mB48) dX1_changeDrift_11 (fun H locs Z => ?_)
  refine lv_aload_n hx hb dX1_changeDrift_14 rfl (lv_at hl 1 rfl) ?_
  refine lv_iload_n hx hb dX1_changeDrift_15 rfl (lv_at hl 3 rfl) ?_
  obtain ⟨g5, eg5, hm⟩ := sLet_some hm
  refine g_put (j := 1) eg5 X Z (oX1 hk0) (iB1 _) rfl tyX1_ok nmX1 (by decide) rfl rfl (Nat.le_of_ble_eq_true rfl) (p1_1 G g4 x2) rfl (List.mem_cons_of_mem _ mB49) dX1_changeDrift_16 (fun H locs Z => ?_)
  refine lv_aload_n hx hb dX1_changeDrift_19 rfl (lv_at hl 1 rfl) ?_
  refine lv_iload_n hx hb dX1_changeDrift_20 rfl (lv_at hl 2 rfl) ?_
  obtain ⟨g6, eg6, hm⟩ := sLet_some hm
  refine g_put (j := 2) eg6 X Z (oX1 hk0) (iB1 _) rfl tyX1_ok nmX1 (by decide) rfl rfl (Nat.le_of_ble_eq_true rfl) (p1_2 G g5 x1) rfl (List.mem_cons_of_mem _ mB50) dX1_changeDrift_21 (fun H locs Z => ?_)
  refine lv_iload_n hx hb dX1_changeDrift_24 rfl (lv_at hl 0 rfl) ?_
  obtain rfl := Option.some.inj hm
  exact kI _ _ _ _ dX1_changeDrift_25 Z (vp_nar_int _)
theorem cX1_changeDrift_c (l : Launch) {G : LY} {g : Mem} {k0 : Nat} {x1 : Int32} {x2 : Int32} {r : Int32 × Mem} (hk0 : KD k0 = 1) (hm : sX1_changeDrift g k0 x1 x2 = some r) : cI l yX1_changeDrift wmX1_changeDrift 2 43 .int wC G [.ref (G.1 k0), .int x1, .int x2] g r.1 r.2 :=
  mk_cI sameC (by decide +kernel) rfl (Nat.le_of_ble_eq_true rfl) (fun p e s m args below meth c A Q ls X kI hl Z => bX1_changeDrift_0 X kI g k0 x1 x2 _ _ ls hk0 Z hl hm)
abbrev wmX1_changeUncertainty : List Cond := Cond.code yX1_changeUncertainty cX1_changeUncertainty 3 none :: wA0
set_option maxHeartbeats 4000000 in
set_option maxRecDepth 100000 in
theorem bX1_changeUncertainty_0 (X : gC p s m args meth c cX1_changeUncertainty 3 wmX1_changeUncertainty yX1_changeUncertainty.cls none G A) {r : Mem} (kI : ∀ (pc : Nat) (ls : Array Slot) (H : Heap) (locs : List Loc), decode cX1_changeUncertainty pc = .ok (.return_, 1) → WS wC G r A s.heap H locs → W p l e { frames := 0, cells := 0, slots := 0, locals := 0 } s m args below meth c H locs 0 0 Q (F0 m pc ls [])) : ∀ (g : Mem) (k0 : Nat) (x1 : Int32) (x2 : Int32) (H : Heap) (locs : List Loc) (ls : Array Slot), KD k0 = 1 → WS wC G g A s.heap H locs → lv_has ls 3 [(0, .ref (G.1 k0)), (1, .int x1), (2, .int x2)] → sX1_changeUncertainty g k0 x1 x2 = some r → W p l e { frames := 0, cells := 0, slots := 0, locals := 0 } s m args below meth c H locs 0 0 Q (F0 m 0 ls []) := by
  have hx := X.1
  have hb := X.2.1
  intro g k0 x1 x2 H locs ls hk0 Z hl hm
  unfold sX1_changeUncertainty at hm
  refine lv_aload_n hx hb dX1_changeUncertainty_0 rfl (lv_at hl 0 rfl) ?_
  refine lv_iload_n hx hb dX1_changeUncertainty_1 rfl (lv_at hl 1 rfl) ?_
  obtain ⟨g1, eg1, hm⟩ := sLet_some hm
  refine g_put (j := 3) eg1 X Z (oX1 hk0) (iB1 _) rfl tyX1_ok nmX1 (by decide) rfl rfl (Nat.le_of_ble_eq_true rfl) (p1_3 G g x1) rfl (List.mem_cons_of_mem _ mB19) dX1_changeUncertainty_2 (fun H locs Z => ?_)
  refine lv_aload_n hx hb dX1_changeUncertainty_5 rfl (lv_at hl 0 rfl) ?_
  refine lv_iload_n hx hb dX1_changeUncertainty_6 rfl (lv_at hl 2 rfl) ?_
  obtain ⟨g2, eg2, hm⟩ := sLet_some hm
  refine g_put (j := 4) eg2 X Z (oX1 hk0) (iB1 _) rfl tyX1_ok nmX1 (by decide) rfl rfl (Nat.le_of_ble_eq_true rfl) (p1_4 G g1 x2) rfl (List.mem_cons_of_mem _ mB20) dX1_changeUncertainty_7 (fun H locs Z => ?_)
  obtain rfl := Option.some.inj hm
  exact kI _ _ _ _ dX1_changeUncertainty_10 Z
theorem cX1_changeUncertainty_c (l : Launch) {G : LY} {g : Mem} {k0 : Nat} {x1 : Int32} {x2 : Int32} {r : Mem} (hk0 : KD k0 = 1) (hm : sX1_changeUncertainty g k0 x1 x2 = some r) : cV l yX1_changeUncertainty wmX1_changeUncertainty 0 0 wC G [.ref (G.1 k0), .int x1, .int x2] g r :=
  mk_cV sameC (by decide +kernel) rfl (Nat.le_of_ble_eq_true rfl) (fun p e s m args below meth c A Q ls X kI hl Z => bX1_changeUncertainty_0 X kI g k0 x1 x2 _ _ ls hk0 Z hl hm)
abbrev wmX1_uncertaintyAt : List Cond := Cond.code yX1_uncertaintyAt cX1_uncertaintyAt 2 (some .int) :: wA0
set_option maxHeartbeats 4000000 in
set_option maxRecDepth 100000 in
theorem bX1_uncertaintyAt_0 (X : gC p s m args meth c cX1_uncertaintyAt 2 wmX1_uncertaintyAt yX1_uncertaintyAt.cls (some .int) G A) {g : Mem} {r : Int32} (kI : ∀ (pc : Nat) (ls : Array Slot) (H : Heap) (locs : List Loc), decode cX1_uncertaintyAt pc = .ok (.ireturn, 1) → WS wC G g A s.heap H locs → narrow .int (.int r) = .int r → W p l e { frames := 1, cells := 0, slots := 0, locals := 22 } s m args below meth c H locs 0 0 Q (F0 m pc ls [.int r])) : ∀ (k0 : Nat) (x1 : Int32) (H : Heap) (locs : List Loc) (ls : Array Slot), KD k0 = 1 → WS wC G g A s.heap H locs → lv_has ls 2 [(0, .ref (G.1 k0)), (1, .int x1)] → sX1_uncertaintyAt g k0 x1 = some r → W p l e { frames := 1, cells := 0, slots := 0, locals := 22 } s m args below meth c H locs 0 0 Q (F0 m 0 ls []) := by
  have hx := X.1
  have hb := X.2.1
  intro k0 x1 H locs ls hk0 Z hl hm
  unfold sX1_uncertaintyAt at hm
  refine lv_aload_n hx hb dX1_uncertaintyAt_0 rfl (lv_at hl 0 rfl) ?_
  refine g_get (j := 3) (v := .int (g k0 3)) X Z (oX1 hk0) (iB1 _) rfl (by decide) rfl (List.mem_cons_of_mem _ mB19) rfl dX1_uncertaintyAt_1 ?_
  refine lv_aload_n hx hb dX1_uncertaintyAt_4 rfl (lv_at hl 0 rfl) ?_
  refine g_get (j := 4) (v := .int (g k0 4)) X Z (oX1 hk0) (iB1 _) rfl (by decide) rfl (List.mem_cons_of_mem _ mB20) rfl dX1_uncertaintyAt_5 ?_
  refine lv_ineg hx hb dX1_uncertaintyAt_8 ?_
  refine lv_iload_n hx hb dX1_uncertaintyAt_9 rfl (lv_at hl 1 rfl) ?_
  refine lv_aload_n hx hb dX1_uncertaintyAt_10 rfl (lv_at hl 0 rfl) ?_
  refine g_get (j := 5) (v := .int (g k0 5)) X Z (oX1 hk0) (iB1 _) rfl (by decide) rfl (List.mem_cons_of_mem _ mB51) rfl dX1_uncertaintyAt_11 ?_
  refine lv_isub hx hb dX1_uncertaintyAt_14 ?_
  refine lv_imul hx hb dX1_uncertaintyAt_15 ?_
  refine lv_sipush (v := 1000) hx hb dX1_uncertaintyAt_16 (by decide) ?_
  obtain ⟨r3, e1, hm⟩ := sBi_some hm
  refine g_callSI (n := 2) (As := [.int ((-(g k0 4)) * (x1 - (g k0 5))), .int 1000]) (rest := [.int (g k0 3)]) sameC X Z (cJ9_floorDiv_7cf53_c l e1) (gooS mB87 mB88 mB89 mB85) rfl (by decide +kernel) rfl ⟨Nat.le_of_ble_eq_true rfl, Nat.le_of_ble_eq_true rfl⟩ ⟨Nat.le_of_ble_eq_true rfl, Nat.le_of_ble_eq_true rfl⟩ hl.1 rfl (Nat.le_of_ble_eq_true rfl) dX1_uncertaintyAt_19 (fun w2 H locs Z => ?_)
  refine lv_isub hx hb dX1_uncertaintyAt_22 ?_
  obtain rfl := Option.some.inj hm
  exact kI _ _ _ _ dX1_uncertaintyAt_23 Z (vp_nar_int _)
theorem cX1_uncertaintyAt_c (l : Launch) {G : LY} {g : Mem} {k0 : Nat} {x1 : Int32} {r : Int32} (hk0 : KD k0 = 1) (hm : sX1_uncertaintyAt g k0 x1 = some r) : cI l yX1_uncertaintyAt wmX1_uncertaintyAt 1 22 .int wC G [.ref (G.1 k0), .int x1] g r g :=
  mk_cI sameC (by decide +kernel) rfl (Nat.le_of_ble_eq_true rfl) (fun p e s m args below meth c A Q ls X kI hl Z => bX1_uncertaintyAt_0 X kI k0 x1 _ _ ls hk0 Z hl hm)
abbrev wmX1_earliestAt : List Cond := Cond.code yX1_earliestAt cX1_earliestAt 2 (some .int) :: wA0
set_option maxHeartbeats 4000000 in
set_option maxRecDepth 100000 in
theorem bX1_earliestAt_0 (X : gC p s m args meth c cX1_earliestAt 2 wmX1_earliestAt yX1_earliestAt.cls (some .int) G A) {g : Mem} {r : Int32} (kI : ∀ (pc : Nat) (ls : Array Slot) (H : Heap) (locs : List Loc), decode cX1_earliestAt pc = .ok (.ireturn, 1) → WS wC G g A s.heap H locs → narrow .int (.int r) = .int r → W p l e { frames := 2, cells := 0, slots := 0, locals := 43 } s m args below meth c H locs 0 0 Q (F0 m pc ls [.int r])) : ∀ (k0 : Nat) (x1 : Int32) (H : Heap) (locs : List Loc) (ls : Array Slot), KD k0 = 1 → WS wC G g A s.heap H locs → lv_has ls 2 [(0, .ref (G.1 k0)), (1, .int x1)] → sX1_earliestAt g k0 x1 = some r → W p l e { frames := 2, cells := 0, slots := 0, locals := 43 } s m args below meth c H locs 0 0 Q (F0 m 0 ls []) := by
  have hx := X.1
  have hb := X.2.1
  intro k0 x1 H locs ls hk0 Z hl hm
  unfold sX1_earliestAt at hm
  refine lv_iload_n hx hb dX1_earliestAt_0 rfl (lv_at hl 1 rfl) ?_
  refine lv_aload_n hx hb dX1_earliestAt_1 rfl (lv_at hl 0 rfl) ?_
  refine lv_iload_n hx hb dX1_earliestAt_2 rfl (lv_at hl 1 rfl) ?_
  obtain ⟨r3, e1, hm⟩ := sBi_some hm
  refine g_callVI (n := 1) (As := [.int x1]) (rest := [.int x1]) sameC X Z (cX1_offsetAt_c l hk0 e1) (oX1 hk0) rfl (gooV mB91 mB92 mB93 mB33 mB86) rfl (by decide +kernel) rfl ⟨Nat.le_of_ble_eq_true rfl, Nat.le_of_ble_eq_true rfl⟩ ⟨Nat.le_of_ble_eq_true rfl, Nat.le_of_ble_eq_true rfl⟩ hl.1 rfl (Nat.le_of_ble_eq_true rfl) dX1_earliestAt_3 (fun w2 H locs Z => ?_)
  refine lv_iadd hx hb dX1_earliestAt_6 ?_
  refine lv_aload_n hx hb dX1_earliestAt_7 rfl (lv_at hl 0 rfl) ?_
  refine lv_iload_n hx hb dX1_earliestAt_8 rfl (lv_at hl 1 rfl) ?_
  obtain ⟨r6, e4, hm⟩ := sBi_some hm
  refine g_callVI (n := 1) (As := [.int x1]) (rest := [.int (x1 + r3)]) sameC X Z (cX1_uncertaintyAt_c l hk0 e4) (oX1 hk0) rfl (gooV mB97 mB98 mB99 mB33 mB95) rfl (by decide +kernel) rfl ⟨Nat.le_of_ble_eq_true rfl, Nat.le_of_ble_eq_true rfl⟩ ⟨Nat.le_of_ble_eq_true rfl, Nat.le_of_ble_eq_true rfl⟩ hl.1 rfl (Nat.le_of_ble_eq_true rfl) dX1_earliestAt_9 (fun w5 H locs Z => ?_)
  refine lv_isub hx hb dX1_earliestAt_12 ?_
  obtain rfl := Option.some.inj hm
  exact kI _ _ _ _ dX1_earliestAt_13 Z (vp_nar_int _)
theorem cX1_earliestAt_c (l : Launch) {G : LY} {g : Mem} {k0 : Nat} {x1 : Int32} {r : Int32} (hk0 : KD k0 = 1) (hm : sX1_earliestAt g k0 x1 = some r) : cI l yX1_earliestAt wmX1_earliestAt 2 43 .int wC G [.ref (G.1 k0), .int x1] g r g :=
  mk_cI sameC (by decide +kernel) rfl (Nat.le_of_ble_eq_true rfl) (fun p e s m args below meth c A Q ls X kI hl Z => bX1_earliestAt_0 X kI k0 x1 _ _ ls hk0 Z hl hm)
abbrev wmX1_latestAt : List Cond := Cond.code yX1_latestAt cX1_latestAt 2 (some .int) :: wA0
set_option maxHeartbeats 4000000 in
set_option maxRecDepth 100000 in
theorem bX1_latestAt_0 (X : gC p s m args meth c cX1_latestAt 2 wmX1_latestAt yX1_latestAt.cls (some .int) G A) {g : Mem} {r : Int32} (kI : ∀ (pc : Nat) (ls : Array Slot) (H : Heap) (locs : List Loc), decode cX1_latestAt pc = .ok (.ireturn, 1) → WS wC G g A s.heap H locs → narrow .int (.int r) = .int r → W p l e { frames := 2, cells := 0, slots := 0, locals := 43 } s m args below meth c H locs 0 0 Q (F0 m pc ls [.int r])) : ∀ (k0 : Nat) (x1 : Int32) (H : Heap) (locs : List Loc) (ls : Array Slot), KD k0 = 1 → WS wC G g A s.heap H locs → lv_has ls 2 [(0, .ref (G.1 k0)), (1, .int x1)] → sX1_latestAt g k0 x1 = some r → W p l e { frames := 2, cells := 0, slots := 0, locals := 43 } s m args below meth c H locs 0 0 Q (F0 m 0 ls []) := by
  have hx := X.1
  have hb := X.2.1
  intro k0 x1 H locs ls hk0 Z hl hm
  unfold sX1_latestAt at hm
  refine lv_iload_n hx hb dX1_latestAt_0 rfl (lv_at hl 1 rfl) ?_
  refine lv_aload_n hx hb dX1_latestAt_1 rfl (lv_at hl 0 rfl) ?_
  refine lv_iload_n hx hb dX1_latestAt_2 rfl (lv_at hl 1 rfl) ?_
  obtain ⟨r3, e1, hm⟩ := sBi_some hm
  refine g_callVI (n := 1) (As := [.int x1]) (rest := [.int x1]) sameC X Z (cX1_offsetAt_c l hk0 e1) (oX1 hk0) rfl (gooV mB91 mB92 mB93 mB33 mB86) rfl (by decide +kernel) rfl ⟨Nat.le_of_ble_eq_true rfl, Nat.le_of_ble_eq_true rfl⟩ ⟨Nat.le_of_ble_eq_true rfl, Nat.le_of_ble_eq_true rfl⟩ hl.1 rfl (Nat.le_of_ble_eq_true rfl) dX1_latestAt_3 (fun w2 H locs Z => ?_)
  refine lv_iadd hx hb dX1_latestAt_6 ?_
  refine lv_aload_n hx hb dX1_latestAt_7 rfl (lv_at hl 0 rfl) ?_
  refine lv_iload_n hx hb dX1_latestAt_8 rfl (lv_at hl 1 rfl) ?_
  obtain ⟨r6, e4, hm⟩ := sBi_some hm
  refine g_callVI (n := 1) (As := [.int x1]) (rest := [.int (x1 + r3)]) sameC X Z (cX1_uncertaintyAt_c l hk0 e4) (oX1 hk0) rfl (gooV mB97 mB98 mB99 mB33 mB95) rfl (by decide +kernel) rfl ⟨Nat.le_of_ble_eq_true rfl, Nat.le_of_ble_eq_true rfl⟩ ⟨Nat.le_of_ble_eq_true rfl, Nat.le_of_ble_eq_true rfl⟩ hl.1 rfl (Nat.le_of_ble_eq_true rfl) dX1_latestAt_9 (fun w5 H locs Z => ?_)
  refine lv_iadd hx hb dX1_latestAt_12 ?_
  obtain rfl := Option.some.inj hm
  exact kI _ _ _ _ dX1_latestAt_13 Z (vp_nar_int _)
theorem cX1_latestAt_c (l : Launch) {G : LY} {g : Mem} {k0 : Nat} {x1 : Int32} {r : Int32} (hk0 : KD k0 = 1) (hm : sX1_latestAt g k0 x1 = some r) : cI l yX1_latestAt wmX1_latestAt 2 43 .int wC G [.ref (G.1 k0), .int x1] g r g :=
  mk_cI sameC (by decide +kernel) rfl (Nat.le_of_ble_eq_true rfl) (fun p e s m args below meth c A Q ls X kI hl Z => bX1_latestAt_0 X kI k0 x1 _ _ ls hk0 Z hl hm)
abbrev wmX1_isSoundAt : List Cond := Cond.code yX1_isSoundAt cX1_isSoundAt 4 (some .boolean) :: wA0
set_option maxHeartbeats 4000000 in
set_option maxRecDepth 100000 in
theorem bX1_isSoundAt_0 (X : gC p s m args meth c cX1_isSoundAt 4 wmX1_isSoundAt yX1_isSoundAt.cls (some .boolean) G A) {g : Mem} {r : Int32} (kI : ∀ (pc : Nat) (ls : Array Slot) (H : Heap) (locs : List Loc), decode cX1_isSoundAt pc = .ok (.ireturn, 1) → WS wC G g A s.heap H locs → narrow .boolean (.int r) = .int r → W p l e { frames := 2, cells := 0, slots := 0, locals := 43 } s m args below meth c H locs 0 0 Q (F0 m pc ls [.int r])) : ∀ (k0 : Nat) (x1 : Int32) (H : Heap) (locs : List Loc) (ls : Array Slot), KD k0 = 1 → WS wC G g A s.heap H locs → lv_has ls 4 [(0, .ref (G.1 k0)), (1, .int x1)] → sX1_isSoundAt g k0 x1 = some r → W p l e { frames := 2, cells := 0, slots := 0, locals := 43 } s m args below meth c H locs 0 0 Q (F0 m 0 ls []) := by
  have hx := X.1
  have hb := X.2.1
  intro k0 x1 H locs ls hk0 Z hl hm
  unfold sX1_isSoundAt at hm
  refine lv_aload_n hx hb dX1_isSoundAt_0 rfl (lv_at hl 0 rfl) ?_
  refine lv_iload_n hx hb dX1_isSoundAt_1 rfl (lv_at hl 1 rfl) ?_
  obtain ⟨r3, e1, hm⟩ := sBi_some hm
  refine g_callVI (n := 1) (As := [.int x1]) (rest := []) sameC X Z (cX1_offsetAt_c l hk0 e1) (oX1 hk0) rfl (gooV mB91 mB92 mB93 mB33 mB86) rfl (by decide +kernel) rfl ⟨Nat.le_of_ble_eq_true rfl, Nat.le_of_ble_eq_true rfl⟩ ⟨Nat.le_of_ble_eq_true rfl, Nat.le_of_ble_eq_true rfl⟩ hl.1 rfl (Nat.le_of_ble_eq_true rfl) dX1_isSoundAt_2 (fun w2 H locs Z => ?_)
  refine lv_istore_n (lv' := [(2, .int r3), (0, .ref (G.1 k0)), (1, .int x1)]) hx hb dX1_isSoundAt_5 rfl hl (by decide) rfl (fun ls hl => ?_)
  refine lv_aload_n hx hb dX1_isSoundAt_6 rfl (lv_at hl 1 rfl) ?_
  refine lv_iload_n hx hb dX1_isSoundAt_7 rfl (lv_at hl 2 rfl) ?_
  obtain ⟨r6, e4, hm⟩ := sBi_some hm
  refine g_callVI (n := 1) (As := [.int x1]) (rest := []) sameC X Z (cX1_uncertaintyAt_c l hk0 e4) (oX1 hk0) rfl (gooV mB97 mB98 mB99 mB33 mB95) rfl (by decide +kernel) rfl ⟨Nat.le_of_ble_eq_true rfl, Nat.le_of_ble_eq_true rfl⟩ ⟨Nat.le_of_ble_eq_true rfl, Nat.le_of_ble_eq_true rfl⟩ hl.1 rfl (Nat.le_of_ble_eq_true rfl) dX1_isSoundAt_8 (fun w5 H locs Z => ?_)
  refine lv_istore_n (lv' := [(3, .int r6), (2, .int r3), (0, .ref (G.1 k0)), (1, .int x1)]) hx hb dX1_isSoundAt_11 rfl hl (by decide) rfl (fun ls hl => ?_)
  refine lv_iload_n hx hb dX1_isSoundAt_12 rfl (lv_at hl 1 rfl) ?_
  refine lv_iload_n hx hb dX1_isSoundAt_13 rfl (lv_at hl 0 rfl) ?_
  refine lv_isub hx hb dX1_isSoundAt_14 ?_
  refine lv_if_gt (tgt := 28) hx hb dX1_isSoundAt_15 (by decide) (fun c7 => ?_) (fun c7 => ?_)
  · replace hm := (if_pos c7).symm.trans hm
    refine lv_iconst (v := 0) hx hb dX1_isSoundAt_28 (by decide) ?_
    obtain rfl := Option.some.inj hm
    exact kI _ _ _ _ dX1_isSoundAt_29 Z nb0
  · replace hm := (if_neg c7).symm.trans hm
    refine lv_iload_n hx hb dX1_isSoundAt_18 rfl (lv_at hl 1 rfl) ?_
    refine lv_iload_n hx hb dX1_isSoundAt_19 rfl (lv_at hl 0 rfl) ?_
    refine lv_iadd hx hb dX1_isSoundAt_20 ?_
    refine lv_if_lt (tgt := 28) hx hb dX1_isSoundAt_21 (by decide) (fun c8 => ?_) (fun c8 => ?_)
    · replace hm := (if_pos c8).symm.trans hm
      refine lv_iconst (v := 0) hx hb dX1_isSoundAt_28 (by decide) ?_
      obtain rfl := Option.some.inj hm
      exact kI _ _ _ _ dX1_isSoundAt_29 Z nb0
    · replace hm := (if_neg c8).symm.trans hm
      refine lv_iconst (v := 1) hx hb dX1_isSoundAt_24 (by decide) ?_
      refine lv_goto (tgt := 29) hx hb dX1_isSoundAt_25 (by decide) ?_
      obtain rfl := Option.some.inj hm
      exact kI _ _ _ _ dX1_isSoundAt_29 Z nb1
theorem cX1_isSoundAt_c (l : Launch) {G : LY} {g : Mem} {k0 : Nat} {x1 : Int32} {r : Int32} (hk0 : KD k0 = 1) (hm : sX1_isSoundAt g k0 x1 = some r) : cI l yX1_isSoundAt wmX1_isSoundAt 2 43 .boolean wC G [.ref (G.1 k0), .int x1] g r g :=
  mk_cI sameC (by decide +kernel) rfl (Nat.le_of_ble_eq_true rfl) (fun p e s m args below meth c A Q ls X kI hl Z => bX1_isSoundAt_0 X kI k0 x1 _ _ ls hk0 Z hl hm)
abbrev wmX1_ticksUntilLatestPasses : List Cond := Cond.code yX1_ticksUntilLatestPasses cX1_ticksUntilLatestPasses 8 (some .int) :: wA0
set_option maxHeartbeats 4000000 in
set_option maxRecDepth 100000 in
theorem bX1_ticksUntilLatestPasses_3 (X : gC p s m args meth c cX1_ticksUntilLatestPasses 8 wmX1_ticksUntilLatestPasses yX1_ticksUntilLatestPasses.cls (some .int) G A) {n : Nat} {g : Mem} {r : Int32} (kI : ∀ (pc : Nat) (ls : Array Slot) (H : Heap) (locs : List Loc), decode cX1_ticksUntilLatestPasses pc = .ok (.ireturn, 1) → WS wC G g A s.heap H locs → narrow .int (.int r) = .int r → W p l e { frames := 3, cells := 0, slots := 0, locals := 64 } s m args below meth c H locs 0 0 Q (F0 m pc ls [.int r])) : ∀ (f : Nat), ∀ (k0 : Nat) (x1 : Int32) (x2 : Int32) (x3 : Int32) (x4 : Int64) (H : Heap) (locs : List Loc) (ls : Array Slot), KD k0 = 1 → WS wC G g A s.heap H locs → lv_has ls 8 [(0, .ref (G.1 k0)), (1, .int x1), (2, .int x2), (3, .int x3), (4, .long x4)] → sX1_ticksUntilLatestPasses_3 n g f k0 x1 x2 x3 x4 = some r → W p l e { frames := 3, cells := 0, slots := 0, locals := 64 } s m args below meth c H locs 0 0 Q (F0 m 3 ls []) := by
  have hx := X.1
  have hb := X.2.1
  intro f
  induction f with
  | zero =>
    intro k0 x1 x2 x3 x4 H locs ls hk0 Z hl hm
    cases hm
  | succ f ih =>
    intro k0 x1 x2 x3 x4 H locs ls hk0 Z hl hm
    unfold sX1_ticksUntilLatestPasses_3 at hm
    refine lv_lload hx hb dX1_ticksUntilLatestPasses_3 (lv_at hl 4 rfl) ?_
    refine lv_iload_n hx hb dX1_ticksUntilLatestPasses_5 rfl (lv_at hl 3 rfl) ?_
    refine lv_i2l hx hb dX1_ticksUntilLatestPasses_6 rfl ?_
    refine W.lcmp hx hb dX1_ticksUntilLatestPasses_7 ?_
    refine lv_if_gt (tgt := 53) hx hb dX1_ticksUntilLatestPasses_8 (by decide) (fun c1 => ?_) (fun c1 => ?_)
    · replace hm := (if_pos c1).symm.trans hm
      refine lv_iload_n hx hb dX1_ticksUntilLatestPasses_53 rfl (lv_at hl 3 rfl) ?_
      refine lv_iconst (v := 1) hx hb dX1_ticksUntilLatestPasses_54 (by decide) ?_
      refine lv_iadd hx hb dX1_ticksUntilLatestPasses_55 ?_
      obtain rfl := Option.some.inj hm
      exact kI _ _ _ _ dX1_ticksUntilLatestPasses_56 Z (vp_nar_int _)
    · replace hm := (if_neg c1).symm.trans hm
      refine lv_iload_n hx hb dX1_ticksUntilLatestPasses_11 rfl (lv_at hl 1 rfl) ?_
      refine lv_i2l hx hb dX1_ticksUntilLatestPasses_12 rfl ?_
      refine lv_aload_n hx hb dX1_ticksUntilLatestPasses_13 rfl (lv_at hl 0 rfl) ?_
      refine lv_iload_n hx hb dX1_ticksUntilLatestPasses_14 rfl (lv_at hl 2 rfl) ?_
      refine lv_lload hx hb dX1_ticksUntilLatestPasses_15 (lv_at hl 4 rfl) ?_
      refine lv_l2i hx hb dX1_ticksUntilLatestPasses_17 rfl ?_
      refine lv_iadd hx hb dX1_ticksUntilLatestPasses_18 ?_
      obtain ⟨r4, e2, hm⟩ := sBi_some hm
      refine g_callVI (n := 1) (As := [.int (x2 + x4.toInt32)]) (rest := [.long x1.toInt64]) sameC X Z (cX1_latestAt_c l hk0 e2) (oX1 hk0) rfl (gooV mB104 mB105 mB106 mB33 mB100) rfl (by decide +kernel) rfl ⟨Nat.le_of_ble_eq_true rfl, Nat.le_of_ble_eq_true rfl⟩ ⟨Nat.le_of_ble_eq_true rfl, Nat.le_of_ble_eq_true rfl⟩ hl.1 rfl (Nat.le_of_ble_eq_true rfl) dX1_ticksUntilLatestPasses_19 (fun w3 H locs Z => ?_)
      refine lv_i2l hx hb dX1_ticksUntilLatestPasses_22 rfl ?_
      refine lv_lsub hx hb dX1_ticksUntilLatestPasses_23 ?_
      refine lv_lstore (lv' := [(6, .long (x1.toInt64 - r4.toInt64)), (0, .ref (G.1 k0)), (1, .int x1), (2, .int x2), (3, .int x3), (4, .long x4)]) hx hb dX1_ticksUntilLatestPasses_24 hl (by decide) rfl (fun ls hl => ?_)
      refine lv_lload hx hb dX1_ticksUntilLatestPasses_26 (lv_at hl 0 rfl) ?_
      refine lv_lconst (v := 0) hx hb dX1_ticksUntilLatestPasses_28 (by decide) ?_
      refine W.lcmp hx hb dX1_ticksUntilLatestPasses_29 ?_
      refine lv_if_ge (tgt := 37) hx hb dX1_ticksUntilLatestPasses_30 (by decide) (fun c5 => ?_) (fun c5 => ?_)
      · replace hm := (if_pos c5).symm.trans hm
        refine lv_lload hx hb dX1_ticksUntilLatestPasses_37 (lv_at hl 5 rfl) ?_
        refine lv_lconst (v := 1) hx hb dX1_ticksUntilLatestPasses_39 (by decide) ?_
        refine lv_lload hx hb dX1_ticksUntilLatestPasses_40 (lv_at hl 0 rfl) ?_
        refine lv_ldc2 (v := 3) hx hb X.2.2.2.1 (X.2.2.2.2.1 _ (List.mem_cons_of_mem _ mB103)) dX1_ticksUntilLatestPasses_42 ?_
        refine lv_ldiv hx hb dX1_ticksUntilLatestPasses_45 (by decide) ?_
        refine lv_ladd hx hb dX1_ticksUntilLatestPasses_46 ?_
        refine lv_ladd hx hb dX1_ticksUntilLatestPasses_47 ?_
        refine lv_lstore (lv' := [(4, .long (x4 + ((1 : Int64) + ((x1.toInt64 - r4.toInt64) / (3 : Int64))))), (6, .long (x1.toInt64 - r4.toInt64)), (0, .ref (G.1 k0)), (1, .int x1), (2, .int x2), (3, .int x3)]) hx hb dX1_ticksUntilLatestPasses_48 hl (by decide) rfl (fun ls hl => ?_)
        refine lv_goto (tgt := 3) hx hb dX1_ticksUntilLatestPasses_50 (by decide) ?_
        exact ih k0 x1 x2 x3 (x4 + ((1 : Int64) + ((x1.toInt64 - r4.toInt64) / (3 : Int64)))) _ _ _ hk0 Z (lv_sub hl [2, 3, 4, 5, 0] rfl) hm
      · replace hm := (if_neg c5).symm.trans hm
        refine lv_lload hx hb dX1_ticksUntilLatestPasses_33 (lv_at hl 5 rfl) ?_
        refine lv_l2i hx hb dX1_ticksUntilLatestPasses_35 rfl ?_
        obtain rfl := Option.some.inj hm
        exact kI _ _ _ _ dX1_ticksUntilLatestPasses_36 Z (vp_nar_int _)
set_option maxHeartbeats 4000000 in
set_option maxRecDepth 100000 in
theorem bX1_ticksUntilLatestPasses_0 (X : gC p s m args meth c cX1_ticksUntilLatestPasses 8 wmX1_ticksUntilLatestPasses yX1_ticksUntilLatestPasses.cls (some .int) G A) {n : Nat} {g : Mem} {r : Int32} (kI : ∀ (pc : Nat) (ls : Array Slot) (H : Heap) (locs : List Loc), decode cX1_ticksUntilLatestPasses pc = .ok (.ireturn, 1) → WS wC G g A s.heap H locs → narrow .int (.int r) = .int r → W p l e { frames := 3, cells := 0, slots := 0, locals := 64 } s m args below meth c H locs 0 0 Q (F0 m pc ls [.int r])) : ∀ (k0 : Nat) (x1 : Int32) (x2 : Int32) (x3 : Int32) (H : Heap) (locs : List Loc) (ls : Array Slot), KD k0 = 1 → WS wC G g A s.heap H locs → lv_has ls 8 [(0, .ref (G.1 k0)), (1, .int x1), (2, .int x2), (3, .int x3)] → sX1_ticksUntilLatestPasses n g k0 x1 x2 x3 = some r → W p l e { frames := 3, cells := 0, slots := 0, locals := 64 } s m args below meth c H locs 0 0 Q (F0 m 0 ls []) := by
  have hx := X.1
  have hb := X.2.1
  intro k0 x1 x2 x3 H locs ls hk0 Z hl hm
  unfold sX1_ticksUntilLatestPasses at hm
  refine lv_lconst (v := 0) hx hb dX1_ticksUntilLatestPasses_0 (by decide) ?_
  refine lv_lstore (lv' := [(4, .long (0 : Int64)), (0, .ref (G.1 k0)), (1, .int x1), (2, .int x2), (3, .int x3)]) hx hb dX1_ticksUntilLatestPasses_1 hl (by decide) rfl (fun ls hl => ?_)
  exact bX1_ticksUntilLatestPasses_3 X kI n k0 x1 x2 x3 (0 : Int64) _ _ _ hk0 Z (lv_sub hl [1, 2, 3, 4, 0] rfl) hm
theorem cX1_ticksUntilLatestPasses_c (l : Launch) {G : LY} {g : Mem} {n : Nat} {k0 : Nat} {x1 : Int32} {x2 : Int32} {x3 : Int32} {r : Int32} (hk0 : KD k0 = 1) (hm : sX1_ticksUntilLatestPasses n g k0 x1 x2 x3 = some r) : cI l yX1_ticksUntilLatestPasses wmX1_ticksUntilLatestPasses 3 64 .int wC G [.ref (G.1 k0), .int x1, .int x2, .int x3] g r g :=
  mk_cI sameC (by decide +kernel) rfl (Nat.le_of_ble_eq_true rfl) (fun p e s m args below meth c A Q ls X kI hl Z => bX1_ticksUntilLatestPasses_0 X kI k0 x1 x2 x3 _ _ ls hk0 Z hl hm)
end GW
