section GW
variable {Qc : Array Value → State → Outcome → State → Prop} {XC : String → State → State → Prop} {p : Program} {l : Launch} {e : Env} {s : State} {m : MethodId} {args : Array Value} {below : List Frame} {meth : Method} {c : Code} {Q : State → Prop} {G : LY} {A : Nat → Prop}
abbrev wmX5_copyFrom : List Cond := Cond.code yX5_copyFrom cX5_copyFrom 3 none :: wA0
set_option maxHeartbeats 4000000 in
set_option maxRecDepth 100000 in
theorem bX5_copyFrom_2 (X : gC p s m args meth c cX5_copyFrom 3 wmX5_copyFrom yX5_copyFrom.cls none G A) {n : Nat} {r : Mem} (kI : ∀ (pc : Nat) (ls : Array Slot) (H : Heap) (locs : List Loc), decode cX5_copyFrom pc = .ok (.return_, 1) → WS wC G r A s.heap H locs → W p l e { frames := 1, cells := 0, slots := 0, locals := 48 } s m args below meth c H locs 0 0 Q (F0 m pc ls [])) : ∀ (f : Nat), ∀ (g : Mem) (k0 : Nat) (k1 : Nat) (x2 : Int32) (H : Heap) (locs : List Loc) (ls : Array Slot), KD k0 = 5 → KD k1 = 5 → WS wC G g A s.heap H locs → lv_has ls 3 [(0, .ref (G.1 k0)), (1, .ref (G.1 k1)), (2, .int x2)] → sX5_copyFrom_2 n f g k0 k1 x2 = some r → W p l e { frames := 1, cells := 0, slots := 0, locals := 48 } s m args below meth c H locs 0 0 Q (F0 m 2 ls []) := by
  have hx := X.1
  have hb := X.2.1
  intro f
  induction f with
  | zero =>
    intro g k0 k1 x2 H locs ls hk0 hk1 Z hl hm
    cases hm
  | succ f ih =>
    intro g k0 k1 x2 H locs ls hk0 hk1 Z hl hm
    unfold sX5_copyFrom_2 at hm
    refine lv_iload_n hx hb dX5_copyFrom_2 rfl (lv_at hl 2 rfl) ?_
    refine lv_bipush (v := 8) hx hb dX5_copyFrom_3 (by decide) ?_
    refine lv_icmp_ge (tgt := 76) hx hb dX5_copyFrom_5 (by decide) (fun c1 => ?_) (fun c1 => ?_)
    · replace hm := (if_pos c1).symm.trans hm
      obtain rfl := Option.some.inj hm
      exact kI _ _ _ _ dX5_copyFrom_76 Z
    · replace hm := (if_neg c1).symm.trans hm
      refine lv_aload_n hx hb dX5_copyFrom_8 rfl (lv_at hl 0 rfl) ?_
      refine g_get (j := 0) (v := .ref (G.1 (k0 + 1))) X Z (oX5 hk0) (iB5 _) rfl (by decide) rfl (List.mem_cons_of_mem _ mB5) rfl dX5_copyFrom_9 ?_
      refine lv_iload_n hx hb dX5_copyFrom_12 rfl (lv_at hl 2 rfl) ?_
      refine lv_aload_n hx hb dX5_copyFrom_13 rfl (lv_at hl 1 rfl) ?_
      refine g_get (j := 0) (v := .ref (G.1 (k1 + 1))) X Z (oX5 hk1) (iB5 _) rfl (by decide) rfl (List.mem_cons_of_mem _ mB5) rfl dX5_copyFrom_14 ?_
      refine lv_iload_n hx hb dX5_copyFrom_17 rfl (lv_at hl 2 rfl) ?_
      obtain ⟨b2, hm⟩ := sIdx_some hm
      refine g_iald X Z (aI (k50 hk1)) b2 dX5_copyFrom_18 ?_
      obtain ⟨b3, hm⟩ := sIdx_some hm
      obtain ⟨g4, eg4, hm⟩ := sLet_some hm
      refine g_iast eg4 X Z (aI (k50 hk0)) b3 dX5_copyFrom_19 (fun H locs Z => ?_)
      refine lv_aload_n hx hb dX5_copyFrom_20 rfl (lv_at hl 1 rfl) ?_
      refine g_get (j := 1) (v := .ref (G.1 (k1 + 2))) X Z (oX5 hk1) (iB5 _) rfl (by decide) rfl (List.mem_cons_of_mem _ mB6) rfl dX5_copyFrom_21 ?_
      refine lv_iload_n hx hb dX5_copyFrom_24 rfl (lv_at hl 2 rfl) ?_
      refine lv_bipush (v := 41) hx hb dX5_copyFrom_25 (by decide) ?_
      refine lv_imul hx hb dX5_copyFrom_27 ?_
      refine lv_aload_n hx hb dX5_copyFrom_28 rfl (lv_at hl 0 rfl) ?_
      refine g_get (j := 1) (v := .ref (G.1 (k0 + 2))) X Z (oX5 hk0) (iB5 _) rfl (by decide) rfl (List.mem_cons_of_mem _ mB6) rfl dX5_copyFrom_29 ?_
      refine lv_iload_n hx hb dX5_copyFrom_32 rfl (lv_at hl 2 rfl) ?_
      refine lv_bipush (v := 41) hx hb dX5_copyFrom_33 (by decide) ?_
      refine lv_imul hx hb dX5_copyFrom_35 ?_
      refine lv_aload_n hx hb dX5_copyFrom_36 rfl (lv_at hl 0 rfl) ?_
      refine g_get (j := 0) (v := .ref (G.1 (k0 + 1))) X Z (oX5 hk0) (iB5 _) rfl (by decide) rfl (List.mem_cons_of_mem _ mB5) rfl dX5_copyFrom_37 ?_
      refine lv_iload_n hx hb dX5_copyFrom_40 rfl (lv_at hl 2 rfl) ?_
      obtain ⟨b5, hm⟩ := sIdx_some hm
      refine g_iald X Z (aI (k50 hk0)) b5 dX5_copyFrom_41 ?_
      obtain ⟨b6, hm⟩ := sCpy_some hm
      obtain ⟨g7, eg7, hm⟩ := sLet_some hm
      refine g_acpy eg7 X Z (aI (k51 hk1)) (aI (k51 hk0)) hl.1 (List.mem_cons_of_mem _ mB54) (List.mem_cons_of_mem _ mB55) (List.mem_cons_of_mem _ mB56) (List.mem_cons_of_mem _ mB57) b6 (Nat.le_of_ble_eq_true rfl) (Nat.le_of_ble_eq_true rfl) dX5_copyFrom_42 (fun H locs Z => ?_)
      refine lv_aload_n hx hb dX5_copyFrom_45 rfl (lv_at hl 1 rfl) ?_
      refine g_get (j := 2) (v := .ref (G.1 (k1 + 3))) X Z (oX5 hk1) (iB5 _) rfl (by decide) rfl (List.mem_cons_of_mem _ mB7) rfl dX5_copyFrom_46 ?_
      refine lv_iload_n hx hb dX5_copyFrom_49 rfl (lv_at hl 2 rfl) ?_
      refine lv_bipush (v := 41) hx hb dX5_copyFrom_50 (by decide) ?_
      refine lv_imul hx hb dX5_copyFrom_52 ?_
      refine lv_aload_n hx hb dX5_copyFrom_53 rfl (lv_at hl 0 rfl) ?_
      refine g_get (j := 2) (v := .ref (G.1 (k0 + 3))) X Z (oX5 hk0) (iB5 _) rfl (by decide) rfl (List.mem_cons_of_mem _ mB7) rfl dX5_copyFrom_54 ?_
      refine lv_iload_n hx hb dX5_copyFrom_57 rfl (lv_at hl 2 rfl) ?_
      refine lv_bipush (v := 41) hx hb dX5_copyFrom_58 (by decide) ?_
      refine lv_imul hx hb dX5_copyFrom_60 ?_
      refine lv_aload_n hx hb dX5_copyFrom_61 rfl (lv_at hl 0 rfl) ?_
      refine g_get (j := 0) (v := .ref (G.1 (k0 + 1))) X Z (oX5 hk0) (iB5 _) rfl (by decide) rfl (List.mem_cons_of_mem _ mB5) rfl dX5_copyFrom_62 ?_
      refine lv_iload_n hx hb dX5_copyFrom_65 rfl (lv_at hl 2 rfl) ?_
      obtain ⟨b8, hm⟩ := sIdx_some hm
      refine g_iald X Z (aI (k50 hk0)) b8 dX5_copyFrom_66 ?_
      obtain ⟨b9, hm⟩ := sCpy_some hm
      obtain ⟨g10, eg10, hm⟩ := sLet_some hm
      refine g_acpy eg10 X Z (aI (k52 hk1)) (aI (k52 hk0)) hl.1 (List.mem_cons_of_mem _ mB54) (List.mem_cons_of_mem _ mB55) (List.mem_cons_of_mem _ mB56) (List.mem_cons_of_mem _ mB57) b9 (Nat.le_of_ble_eq_true rfl) (Nat.le_of_ble_eq_true rfl) dX5_copyFrom_67 (fun H locs Z => ?_)
      refine lv_iinc (v := (x2 + (1 : Int32))) (lv' := [(2, .int (x2 + (1 : Int32))), (0, .ref (G.1 k0)), (1, .ref (G.1 k1))]) hx hb dX5_copyFrom_70 hl (k := 2) rfl rfl (by decide) rfl (fun ls hl => ?_)
      refine lv_goto (tgt := 2) hx hb dX5_copyFrom_73 (by decide) ?_
      exact ih g10 k0 k1 (x2 + (1 : Int32)) _ _ _ hk0 hk1 Z (lv_sub hl [1, 2, 0] rfl) hm
set_option maxHeartbeats 4000000 in
set_option maxRecDepth 100000 in
theorem bX5_copyFrom_0 (X : gC p s m args meth c cX5_copyFrom 3 wmX5_copyFrom yX5_copyFrom.cls none G A) {n : Nat} {r : Mem} (kI : ∀ (pc : Nat) (ls : Array Slot) (H : Heap) (locs : List Loc), decode cX5_copyFrom pc = .ok (.return_, 1) → WS wC G r A s.heap H locs → W p l e { frames := 1, cells := 0, slots := 0, locals := 48 } s m args below meth c H locs 0 0 Q (F0 m pc ls [])) : ∀ (g : Mem) (k0 : Nat) (k1 : Nat) (H : Heap) (locs : List Loc) (ls : Array Slot), KD k0 = 5 → KD k1 = 5 → WS wC G g A s.heap H locs → lv_has ls 3 [(0, .ref (G.1 k0)), (1, .ref (G.1 k1))] → sX5_copyFrom n g k0 k1 = some r → W p l e { frames := 1, cells := 0, slots := 0, locals := 48 } s m args below meth c H locs 0 0 Q (F0 m 0 ls []) := by
  have hx := X.1
  have hb := X.2.1
  intro g k0 k1 H locs ls hk0 hk1 Z hl hm
  unfold sX5_copyFrom at hm
  refine lv_iconst (v := 0) hx hb dX5_copyFrom_0 (by decide) ?_
  refine lv_istore_n (lv' := [(2, .int 0), (0, .ref (G.1 k0)), (1, .ref (G.1 k1))]) hx hb dX5_copyFrom_1 rfl hl (by decide) rfl (fun ls hl => ?_)
  exact bX5_copyFrom_2 X kI n g k0 k1 (0 : Int32) _ _ _ hk0 hk1 Z (lv_sub hl [1, 2, 0] rfl) hm
theorem cX5_copyFrom_c (l : Launch) {G : LY} {g : Mem} {n : Nat} {k0 : Nat} {k1 : Nat} {r : Mem} (hk0 : KD k0 = 5) (hk1 : KD k1 = 5) (hm : sX5_copyFrom n g k0 k1 = some r) : cV l yX5_copyFrom wmX5_copyFrom 1 48 wC G [.ref (G.1 k0), .ref (G.1 k1)] g r :=
  mk_cV sameC (by decide +kernel) rfl (Nat.le_of_ble_eq_true rfl) (fun p e s m args below meth c A Q ls X kI hl Z => bX5_copyFrom_0 X kI g k0 k1 _ _ ls hk0 hk1 Z hl hm)
abbrev wmX5_add : List Cond := Cond.code yX5_add cX5_add 5 none :: wA0
set_option maxHeartbeats 4000000 in
set_option maxRecDepth 100000 in
theorem bX5_add_0 (X : gC p s m args meth c cX5_add 5 wmX5_add yX5_add.cls none G A) {r : Mem} (kI : ∀ (pc : Nat) (ls : Array Slot) (H : Heap) (locs : List Loc), decode cX5_add pc = .ok (.return_, 1) → WS wC G r A s.heap H locs → W p l e { frames := 0, cells := 0, slots := 0, locals := 0 } s m args below meth c H locs 0 0 Q (F0 m pc ls [])) : ∀ (g : Mem) (k0 : Nat) (x1 : Int32) (x2 : Int32) (x3 : Int32) (H : Heap) (locs : List Loc) (ls : Array Slot), KD k0 = 5 → WS wC G g A s.heap H locs → lv_has ls 5 [(0, .ref (G.1 k0)), (1, .int x1), (2, .int x2), (3, .int x3)] → sX5_add g k0 x1 x2 x3 = some r → W p l e { frames := 0, cells := 0, slots := 0, locals := 0 } s m args below meth c H locs 0 0 Q (F0 m 0 ls []) := by
  have hx := X.1
  have hb := X.2.1
  intro g k0 x1 x2 x3 H locs ls hk0 Z hl hm
  unfold sX5_add at hm
  refine lv_iload_n hx hb dX5_add_0 rfl (lv_at hl 1 rfl) ?_
  refine lv_bipush (v := 41) hx hb dX5_add_1 (by decide) ?_
  refine lv_imul hx hb dX5_add_3 ?_
  refine lv_aload_n hx hb dX5_add_4 rfl (lv_at hl 0 rfl) ?_
  refine g_get (j := 0) (v := .ref (G.1 (k0 + 1))) X Z (oX5 hk0) (iB5 _) rfl (by decide) rfl (List.mem_cons_of_mem _ mB5) rfl dX5_add_5 ?_
  refine lv_iload_n hx hb dX5_add_8 rfl (lv_at hl 1 rfl) ?_
  obtain ⟨b1, hm⟩ := sIdx_some hm
  refine g_iald X Z (aI (k50 hk0)) b1 dX5_add_9 ?_
  refine lv_iadd hx hb dX5_add_10 ?_
  refine lv_istore (lv' := [(4, .int ((x1 * (41 : Int32)) + (g (k0 + 1) x1.toNatClampNeg))), (0, .ref (G.1 k0)), (1, .int x1), (2, .int x2), (3, .int x3)]) hx hb dX5_add_11 hl (by decide) rfl (fun ls hl => ?_)
  refine lv_aload_n hx hb dX5_add_13 rfl (lv_at hl 1 rfl) ?_
  refine g_get (j := 1) (v := .ref (G.1 (k0 + 2))) X Z (oX5 hk0) (iB5 _) rfl (by decide) rfl (List.mem_cons_of_mem _ mB6) rfl dX5_add_14 ?_
  refine lv_iload hx hb dX5_add_17 (lv_at hl 0 rfl) ?_
  refine lv_iload_n hx hb dX5_add_19 rfl (lv_at hl 3 rfl) ?_
  obtain ⟨b2, hm⟩ := sIdx_some hm
  obtain ⟨g3, eg3, hm⟩ := sLet_some hm
  refine g_iast eg3 X Z (aI (k51 hk0)) b2 dX5_add_20 (fun H locs Z => ?_)
  refine lv_aload_n hx hb dX5_add_21 rfl (lv_at hl 1 rfl) ?_
  refine g_get (j := 2) (v := .ref (G.1 (k0 + 3))) X Z (oX5 hk0) (iB5 _) rfl (by decide) rfl (List.mem_cons_of_mem _ mB7) rfl dX5_add_22 ?_
  refine lv_iload hx hb dX5_add_25 (lv_at hl 0 rfl) ?_
  refine lv_iload_n hx hb dX5_add_27 rfl (lv_at hl 4 rfl) ?_
  obtain ⟨b4, hm⟩ := sIdx_some hm
  obtain ⟨g5, eg5, hm⟩ := sLet_some hm
  refine g_iast eg5 X Z (aI (k52 hk0)) b4 dX5_add_28 (fun H locs Z => ?_)
  refine lv_aload_n hx hb dX5_add_29 rfl (lv_at hl 1 rfl) ?_
  refine g_get (j := 0) (v := .ref (G.1 (k0 + 1))) X Z (oX5 hk0) (iB5 _) rfl (by decide) rfl (List.mem_cons_of_mem _ mB5) rfl dX5_add_30 ?_
  refine lv_iload_n hx hb dX5_add_33 rfl (lv_at hl 2 rfl) ?_
  refine lv_dup2_11 hx hb dX5_add_34 rfl rfl ?_
  obtain ⟨b6, hm⟩ := sIdx_some hm
  refine g_iald X Z (aI (k50 hk0)) b6 dX5_add_35 ?_
  refine lv_iconst (v := 1) hx hb dX5_add_36 (by decide) ?_
  refine lv_iadd hx hb dX5_add_37 ?_
  obtain ⟨b7, hm⟩ := sIdx_some hm
  obtain ⟨g8, eg8, hm⟩ := sLet_some hm
  refine g_iast eg8 X Z (aI (k50 hk0)) b7 dX5_add_38 (fun H locs Z => ?_)
  obtain rfl := Option.some.inj hm
  exact kI _ _ _ _ dX5_add_39 Z
theorem cX5_add_c (l : Launch) {G : LY} {g : Mem} {k0 : Nat} {x1 : Int32} {x2 : Int32} {x3 : Int32} {r : Mem} (hk0 : KD k0 = 5) (hm : sX5_add g k0 x1 x2 x3 = some r) : cV l yX5_add wmX5_add 0 0 wC G [.ref (G.1 k0), .int x1, .int x2, .int x3] g r :=
  mk_cV sameC (by decide +kernel) rfl (Nat.le_of_ble_eq_true rfl) (fun p e s m args below meth c A Q ls X kI hl Z => bX5_add_0 X kI g k0 x1 x2 x3 _ _ ls hk0 Z hl hm)
abbrev wmX5_newest : List Cond := Cond.code yX5_newest cX5_newest 2 (some .int) :: wA0
set_option maxHeartbeats 4000000 in
set_option maxRecDepth 100000 in
theorem bX5_newest_0 (X : gC p s m args meth c cX5_newest 2 wmX5_newest yX5_newest.cls (some .int) G A) {g : Mem} {r : Int32} (kI : ∀ (pc : Nat) (ls : Array Slot) (H : Heap) (locs : List Loc), decode cX5_newest pc = .ok (.ireturn, 1) → WS wC G g A s.heap H locs → narrow .int (.int r) = .int r → W p l e { frames := 0, cells := 0, slots := 0, locals := 0 } s m args below meth c H locs 0 0 Q (F0 m pc ls [.int r])) : ∀ (k0 : Nat) (x1 : Int32) (H : Heap) (locs : List Loc) (ls : Array Slot), KD k0 = 5 → WS wC G g A s.heap H locs → lv_has ls 2 [(0, .ref (G.1 k0)), (1, .int x1)] → sX5_newest g k0 x1 = some r → W p l e { frames := 0, cells := 0, slots := 0, locals := 0 } s m args below meth c H locs 0 0 Q (F0 m 0 ls []) := by
  have hx := X.1
  have hb := X.2.1
  intro k0 x1 H locs ls hk0 Z hl hm
  unfold sX5_newest at hm
  refine lv_aload_n hx hb dX5_newest_0 rfl (lv_at hl 0 rfl) ?_
  refine g_get (j := 0) (v := .ref (G.1 (k0 + 1))) X Z (oX5 hk0) (iB5 _) rfl (by decide) rfl (List.mem_cons_of_mem _ mB5) rfl dX5_newest_1 ?_
  refine lv_iload_n hx hb dX5_newest_4 rfl (lv_at hl 1 rfl) ?_
  obtain ⟨b1, hm⟩ := sIdx_some hm
  refine g_iald X Z (aI (k50 hk0)) b1 dX5_newest_5 ?_
  refine lv_iconst (v := 1) hx hb dX5_newest_6 (by decide) ?_
  refine lv_isub hx hb dX5_newest_7 ?_
  obtain rfl := Option.some.inj hm
  exact kI _ _ _ _ dX5_newest_8 Z (vp_nar_int _)
theorem cX5_newest_c (l : Launch) {G : LY} {g : Mem} {k0 : Nat} {x1 : Int32} {r : Int32} (hk0 : KD k0 = 5) (hm : sX5_newest g k0 x1 = some r) : cI l yX5_newest wmX5_newest 0 0 .int wC G [.ref (G.1 k0), .int x1] g r g :=
  mk_cI sameC (by decide +kernel) rfl (Nat.le_of_ble_eq_true rfl) (fun p e s m args below meth c A Q ls X kI hl Z => bX5_newest_0 X kI k0 x1 _ _ ls hk0 Z hl hm)
abbrev wmX5_timestampOf : List Cond := Cond.code yX5_timestampOf cX5_timestampOf 3 (some .int) :: wA0
set_option maxHeartbeats 4000000 in
set_option maxRecDepth 100000 in
theorem bX5_timestampOf_0 (X : gC p s m args meth c cX5_timestampOf 3 wmX5_timestampOf yX5_timestampOf.cls (some .int) G A) {g : Mem} {r : Int32} (kI : ∀ (pc : Nat) (ls : Array Slot) (H : Heap) (locs : List Loc), decode cX5_timestampOf pc = .ok (.ireturn, 1) → WS wC G g A s.heap H locs → narrow .int (.int r) = .int r → W p l e { frames := 0, cells := 0, slots := 0, locals := 0 } s m args below meth c H locs 0 0 Q (F0 m pc ls [.int r])) : ∀ (k0 : Nat) (x1 : Int32) (x2 : Int32) (H : Heap) (locs : List Loc) (ls : Array Slot), KD k0 = 5 → WS wC G g A s.heap H locs → lv_has ls 3 [(0, .ref (G.1 k0)), (1, .int x1), (2, .int x2)] → sX5_timestampOf g k0 x1 x2 = some r → W p l e { frames := 0, cells := 0, slots := 0, locals := 0 } s m args below meth c H locs 0 0 Q (F0 m 0 ls []) := by
  have hx := X.1
  have hb := X.2.1
  intro k0 x1 x2 H locs ls hk0 Z hl hm
  unfold sX5_timestampOf at hm
  refine lv_aload_n hx hb dX5_timestampOf_0 rfl (lv_at hl 0 rfl) ?_
  refine g_get (j := 1) (v := .ref (G.1 (k0 + 2))) X Z (oX5 hk0) (iB5 _) rfl (by decide) rfl (List.mem_cons_of_mem _ mB6) rfl dX5_timestampOf_1 ?_
  refine lv_iload_n hx hb dX5_timestampOf_4 rfl (lv_at hl 1 rfl) ?_
  refine lv_bipush (v := 41) hx hb dX5_timestampOf_5 (by decide) ?_
  refine lv_imul hx hb dX5_timestampOf_7 ?_
  refine lv_iload_n hx hb dX5_timestampOf_8 rfl (lv_at hl 2 rfl) ?_
  refine lv_iadd hx hb dX5_timestampOf_9 ?_
  obtain ⟨b1, hm⟩ := sIdx_some hm
  refine g_iald X Z (aI (k51 hk0)) b1 dX5_timestampOf_10 ?_
  obtain rfl := Option.some.inj hm
  exact kI _ _ _ _ dX5_timestampOf_11 Z (vp_nar_int _)
theorem cX5_timestampOf_c (l : Launch) {G : LY} {g : Mem} {k0 : Nat} {x1 : Int32} {x2 : Int32} {r : Int32} (hk0 : KD k0 = 5) (hm : sX5_timestampOf g k0 x1 x2 = some r) : cI l yX5_timestampOf wmX5_timestampOf 0 0 .int wC G [.ref (G.1 k0), .int x1, .int x2] g r g :=
  mk_cI sameC (by decide +kernel) rfl (Nat.le_of_ble_eq_true rfl) (fun p e s m args below meth c A Q ls X kI hl Z => bX5_timestampOf_0 X kI k0 x1 x2 _ _ ls hk0 Z hl hm)
abbrev wmX5_valueOfVersion : List Cond := Cond.code yX5_valueOfVersion cX5_valueOfVersion 3 (some .int) :: wA0
set_option maxHeartbeats 4000000 in
set_option maxRecDepth 100000 in
theorem bX5_valueOfVersion_0 (X : gC p s m args meth c cX5_valueOfVersion 3 wmX5_valueOfVersion yX5_valueOfVersion.cls (some .int) G A) {g : Mem} {r : Int32} (kI : ∀ (pc : Nat) (ls : Array Slot) (H : Heap) (locs : List Loc), decode cX5_valueOfVersion pc = .ok (.ireturn, 1) → WS wC G g A s.heap H locs → narrow .int (.int r) = .int r → W p l e { frames := 0, cells := 0, slots := 0, locals := 0 } s m args below meth c H locs 0 0 Q (F0 m pc ls [.int r])) : ∀ (k0 : Nat) (x1 : Int32) (x2 : Int32) (H : Heap) (locs : List Loc) (ls : Array Slot), KD k0 = 5 → WS wC G g A s.heap H locs → lv_has ls 3 [(0, .ref (G.1 k0)), (1, .int x1), (2, .int x2)] → sX5_valueOfVersion g k0 x1 x2 = some r → W p l e { frames := 0, cells := 0, slots := 0, locals := 0 } s m args below meth c H locs 0 0 Q (F0 m 0 ls []) := by
  have hx := X.1
  have hb := X.2.1
  intro k0 x1 x2 H locs ls hk0 Z hl hm
  unfold sX5_valueOfVersion at hm
  refine lv_aload_n hx hb dX5_valueOfVersion_0 rfl (lv_at hl 0 rfl) ?_
  refine g_get (j := 2) (v := .ref (G.1 (k0 + 3))) X Z (oX5 hk0) (iB5 _) rfl (by decide) rfl (List.mem_cons_of_mem _ mB7) rfl dX5_valueOfVersion_1 ?_
  refine lv_iload_n hx hb dX5_valueOfVersion_4 rfl (lv_at hl 1 rfl) ?_
  refine lv_bipush (v := 41) hx hb dX5_valueOfVersion_5 (by decide) ?_
  refine lv_imul hx hb dX5_valueOfVersion_7 ?_
  refine lv_iload_n hx hb dX5_valueOfVersion_8 rfl (lv_at hl 2 rfl) ?_
  refine lv_iadd hx hb dX5_valueOfVersion_9 ?_
  obtain ⟨b1, hm⟩ := sIdx_some hm
  refine g_iald X Z (aI (k52 hk0)) b1 dX5_valueOfVersion_10 ?_
  obtain rfl := Option.some.inj hm
  exact kI _ _ _ _ dX5_valueOfVersion_11 Z (vp_nar_int _)
theorem cX5_valueOfVersion_c (l : Launch) {G : LY} {g : Mem} {k0 : Nat} {x1 : Int32} {x2 : Int32} {r : Int32} (hk0 : KD k0 = 5) (hm : sX5_valueOfVersion g k0 x1 x2 = some r) : cI l yX5_valueOfVersion wmX5_valueOfVersion 0 0 .int wC G [.ref (G.1 k0), .int x1, .int x2] g r g :=
  mk_cI sameC (by decide +kernel) rfl (Nat.le_of_ble_eq_true rfl) (fun p e s m args below meth c A Q ls X kI hl Z => bX5_valueOfVersion_0 X kI k0 x1 x2 _ _ ls hk0 Z hl hm)
abbrev wmX5_valueOf : List Cond := Cond.code yX5_valueOf cX5_valueOf 4 (some .int) :: wA0
set_option maxHeartbeats 4000000 in
set_option maxRecDepth 100000 in
theorem bX5_valueOf_6 (X : gC p s m args meth c cX5_valueOf 4 wmX5_valueOf yX5_valueOf.cls (some .int) G A) {n : Nat} {g : Mem} {r : Int32} (kI : ∀ (pc : Nat) (ls : Array Slot) (H : Heap) (locs : List Loc), decode cX5_valueOf pc = .ok (.ireturn, 1) → WS wC G g A s.heap H locs → narrow .int (.int r) = .int r → W p l e { frames := 1, cells := 0, slots := 0, locals := 22 } s m args below meth c H locs 0 0 Q (F0 m pc ls [.int r])) : ∀ (f : Nat), ∀ (k0 : Nat) (x1 : Int32) (x2 : Int32) (x3 : Int32) (H : Heap) (locs : List Loc) (ls : Array Slot), KD k0 = 5 → WS wC G g A s.heap H locs → lv_has ls 4 [(0, .ref (G.1 k0)), (1, .int x1), (2, .int x2), (3, .int x3)] → sX5_valueOf_6 n g f k0 x1 x2 x3 = some r → W p l e { frames := 1, cells := 0, slots := 0, locals := 22 } s m args below meth c H locs 0 0 Q (F0 m 6 ls []) := by
  have hx := X.1
  have hb := X.2.1
  intro f
  induction f with
  | zero =>
    intro k0 x1 x2 x3 H locs ls hk0 Z hl hm
    cases hm
  | succ f ih =>
    intro k0 x1 x2 x3 H locs ls hk0 Z hl hm
    unfold sX5_valueOf_6 at hm
    refine lv_iload_n hx hb dX5_valueOf_6 rfl (lv_at hl 3 rfl) ?_
    refine lv_if_le (tgt := 26) hx hb dX5_valueOf_7 (by decide) (fun c1 => ?_) (fun c1 => ?_)
    · replace hm := (if_pos c1).symm.trans hm
      refine lv_aload_n hx hb dX5_valueOf_26 rfl (lv_at hl 0 rfl) ?_
      refine lv_iload_n hx hb dX5_valueOf_27 rfl (lv_at hl 1 rfl) ?_
      refine lv_iload_n hx hb dX5_valueOf_28 rfl (lv_at hl 3 rfl) ?_
      obtain ⟨r4, e2, hm⟩ := sBi_some hm
      refine g_callVI (n := 2) (As := [.int x1, .int x3]) (rest := []) sameC X Z (cX5_valueOfVersion_c l hk0 e2) (oX5 hk0) rfl (gooV mB257 mB145 mB146 mB26 mB127) rfl (by decide +kernel) rfl ⟨Nat.le_of_ble_eq_true rfl, Nat.le_of_ble_eq_true rfl⟩ ⟨Nat.le_of_ble_eq_true rfl, Nat.le_of_ble_eq_true rfl⟩ hl.1 rfl (Nat.le_of_ble_eq_true rfl) dX5_valueOf_29 (fun w3 H locs Z => ?_)
      obtain rfl := Option.some.inj hm
      exact kI _ _ _ _ dX5_valueOf_32 Z (vp_nar_int _)
    · replace hm := (if_neg c1).symm.trans hm
      refine lv_aload_n hx hb dX5_valueOf_10 rfl (lv_at hl 0 rfl) ?_
      refine lv_iload_n hx hb dX5_valueOf_11 rfl (lv_at hl 1 rfl) ?_
      refine lv_iload_n hx hb dX5_valueOf_12 rfl (lv_at hl 3 rfl) ?_
      obtain ⟨r7, e5, hm⟩ := sBi_some hm
      refine g_callVI (n := 2) (As := [.int x1, .int x3]) (rest := []) sameC X Z (cX5_timestampOf_c l hk0 e5) (oX5 hk0) rfl (gooV mB256 mB187 mB188 mB26 mB172) rfl (by decide +kernel) rfl ⟨Nat.le_of_ble_eq_true rfl, Nat.le_of_ble_eq_true rfl⟩ ⟨Nat.le_of_ble_eq_true rfl, Nat.le_of_ble_eq_true rfl⟩ hl.1 rfl (Nat.le_of_ble_eq_true rfl) dX5_valueOf_13 (fun w6 H locs Z => ?_)
      refine lv_iload_n hx hb dX5_valueOf_16 rfl (lv_at hl 2 rfl) ?_
      refine lv_icmp_le (tgt := 26) hx hb dX5_valueOf_17 (by decide) (fun c8 => ?_) (fun c8 => ?_)
      · replace hm := (if_pos c8).symm.trans hm
        refine lv_aload_n hx hb dX5_valueOf_26 rfl (lv_at hl 0 rfl) ?_
        refine lv_iload_n hx hb dX5_valueOf_27 rfl (lv_at hl 1 rfl) ?_
        refine lv_iload_n hx hb dX5_valueOf_28 rfl (lv_at hl 3 rfl) ?_
        obtain ⟨r11, e9, hm⟩ := sBi_some hm
        refine g_callVI (n := 2) (As := [.int x1, .int x3]) (rest := []) sameC X Z (cX5_valueOfVersion_c l hk0 e9) (oX5 hk0) rfl (gooV mB257 mB145 mB146 mB26 mB127) rfl (by decide +kernel) rfl ⟨Nat.le_of_ble_eq_true rfl, Nat.le_of_ble_eq_true rfl⟩ ⟨Nat.le_of_ble_eq_true rfl, Nat.le_of_ble_eq_true rfl⟩ hl.1 rfl (Nat.le_of_ble_eq_true rfl) dX5_valueOf_29 (fun w10 H locs Z => ?_)
        obtain rfl := Option.some.inj hm
        exact kI _ _ _ _ dX5_valueOf_32 Z (vp_nar_int _)
      · replace hm := (if_neg c8).symm.trans hm
        refine lv_iinc (v := (x3 + (-1 : Int32))) (lv' := [(3, .int (x3 + (-1 : Int32))), (0, .ref (G.1 k0)), (1, .int x1), (2, .int x2)]) hx hb dX5_valueOf_20 hl (k := 3) rfl rfl (by decide) rfl (fun ls hl => ?_)
        refine lv_goto (tgt := 6) hx hb dX5_valueOf_23 (by decide) ?_
        exact ih k0 x1 x2 (x3 + (-1 : Int32)) _ _ _ hk0 Z (lv_sub hl [1, 2, 3, 0] rfl) hm
set_option maxHeartbeats 4000000 in
set_option maxRecDepth 100000 in
theorem bX5_valueOf_0 (X : gC p s m args meth c cX5_valueOf 4 wmX5_valueOf yX5_valueOf.cls (some .int) G A) {n : Nat} {g : Mem} {r : Int32} (kI : ∀ (pc : Nat) (ls : Array Slot) (H : Heap) (locs : List Loc), decode cX5_valueOf pc = .ok (.ireturn, 1) → WS wC G g A s.heap H locs → narrow .int (.int r) = .int r → W p l e { frames := 1, cells := 0, slots := 0, locals := 22 } s m args below meth c H locs 0 0 Q (F0 m pc ls [.int r])) : ∀ (k0 : Nat) (x1 : Int32) (x2 : Int32) (H : Heap) (locs : List Loc) (ls : Array Slot), KD k0 = 5 → WS wC G g A s.heap H locs → lv_has ls 4 [(0, .ref (G.1 k0)), (1, .int x1), (2, .int x2)] → sX5_valueOf n g k0 x1 x2 = some r → W p l e { frames := 1, cells := 0, slots := 0, locals := 22 } s m args below meth c H locs 0 0 Q (F0 m 0 ls []) := by
  have hx := X.1
  have hb := X.2.1
  intro k0 x1 x2 H locs ls hk0 Z hl hm
  unfold sX5_valueOf at hm
  refine lv_aload_n hx hb dX5_valueOf_0 rfl (lv_at hl 0 rfl) ?_
  refine lv_iload_n hx hb dX5_valueOf_1 rfl (lv_at hl 1 rfl) ?_
  obtain ⟨r3, e1, hm⟩ := sBi_some hm
  refine g_callVI (n := 1) (As := [.int x1]) (rest := []) sameC X Z (cX5_newest_c l hk0 e1) (oX5 hk0) rfl (gooV mB255 mB138 mB139 mB26 mB125) rfl (by decide +kernel) rfl ⟨Nat.le_of_ble_eq_true rfl, Nat.le_of_ble_eq_true rfl⟩ ⟨Nat.le_of_ble_eq_true rfl, Nat.le_of_ble_eq_true rfl⟩ hl.1 rfl (Nat.le_of_ble_eq_true rfl) dX5_valueOf_2 (fun w2 H locs Z => ?_)
  refine lv_istore_n (lv' := [(3, .int r3), (0, .ref (G.1 k0)), (1, .int x1), (2, .int x2)]) hx hb dX5_valueOf_5 rfl hl (by decide) rfl (fun ls hl => ?_)
  exact bX5_valueOf_6 X kI n k0 x1 x2 r3 _ _ _ hk0 Z (lv_sub hl [1, 2, 3, 0] rfl) hm
theorem cX5_valueOf_c (l : Launch) {G : LY} {g : Mem} {n : Nat} {k0 : Nat} {x1 : Int32} {x2 : Int32} {r : Int32} (hk0 : KD k0 = 5) (hm : sX5_valueOf n g k0 x1 x2 = some r) : cI l yX5_valueOf wmX5_valueOf 1 22 .int wC G [.ref (G.1 k0), .int x1, .int x2] g r g :=
  mk_cI sameC (by decide +kernel) rfl (Nat.le_of_ble_eq_true rfl) (fun p e s m args below meth c A Q ls X kI hl Z => bX5_valueOf_0 X kI k0 x1 x2 _ _ ls hk0 Z hl hm)
end GW
