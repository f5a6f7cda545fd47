section GW
variable {Qc : Array Value → State → Outcome → State → Prop} {XC : String → State → State → Prop} {p : Program} {l : Launch} {e : Env} {s : State} {m : MethodId} {args : Array Value} {below : List Frame} {meth : Method} {c : Code} {Q : State → Prop} {G : LY} {A : Nat → Prop}
abbrev wmX0_push : List Cond := Cond.code yX0_push cX0_push 2 none :: wA0
set_option maxHeartbeats 4000000 in
set_option maxRecDepth 100000 in
theorem bX0_push_0 (X : gC p s m args meth c cX0_push 2 wmX0_push yX0_push.cls none G A) {n : Nat} {r : Mem} (kI : ∀ (pc : Nat) (ls : Array Slot) (H : Heap) (locs : List Loc), decode cX0_push pc = .ok (.return_, 1) → WS wC G r A s.heap H locs → W p l e { frames := 3, cells := 0, slots := 0, locals := 92 } s m args below meth c H locs 0 0 Q (F0 m pc ls [])) : ∀ (g : Mem) (k1 : Nat) (H : Heap) (locs : List Loc) (ls : Array Slot), KD k1 = 2 → WS wC G g A s.heap H locs → lv_has ls 2 [(0, .ref (G.1 153)), (1, .ref (G.1 k1))] → sX0_push n g k1 = some r → W p l e { frames := 3, cells := 0, slots := 0, locals := 92 } s m args below meth c H locs 0 0 Q (F0 m 0 ls []) := by
  have hx := X.1
  have hb := X.2.1
  intro g k1 H locs ls hk1 Z hl hm
  unfold sX0_push at hm
  refine lv_aload_n hx hb dX0_push_0 rfl (lv_at hl 0 rfl) ?_
  refine g_get (j := 2) (v := .ref (G.1 154)) X Z (oX0 k153) (iB0 _) rfl (by decide) rfl (List.mem_cons_of_mem _ mB41) rfl dX0_push_1 ?_
  refine lv_aload_n hx hb dX0_push_4 rfl (lv_at hl 0 rfl) ?_
  refine g_get (j := 1) (v := .int (g 153 1)) X Z (oX0 k153) (iB0 _) rfl (by decide) rfl (List.mem_cons_of_mem _ mB74) rfl dX0_push_5 ?_
  obtain ⟨b1, hm⟩ := sIdx_some hm
  refine g_aald X Z rR rfl b1 dX0_push_8 ?_
  refine lv_aload_n hx hb dX0_push_9 rfl (lv_at hl 1 rfl) ?_
  obtain ⟨g4, e2, hm⟩ := sBi_some hm
  refine g_callVV (n := 1) (As := [.ref (G.1 k1)]) (rest := []) sameC X Z (cX2_copyFrom_c l (k12r (vp_in_lt b1)) hk1 e2) (oX2 (k12r (vp_in_lt b1))) rfl (gooV mB80 mB81 mB82 mB43 mB73) rfl (by decide +kernel) rfl ⟨Nat.le_of_ble_eq_true rfl, Nat.le_of_ble_eq_true rfl⟩ ⟨Nat.le_of_ble_eq_true rfl, Nat.le_of_ble_eq_true rfl⟩ hl.1 rfl (Nat.le_of_ble_eq_true rfl) dX0_push_10 (fun H locs Z => ?_)
  refine lv_aload_n hx hb dX0_push_13 rfl (lv_at hl 0 rfl) ?_
  refine lv_aload_n hx hb dX0_push_14 rfl (lv_at hl 0 rfl) ?_
  refine g_get (j := 1) (v := .int (g4 153 1)) X Z (oX0 k153) (iB0 _) rfl (by decide) rfl (List.mem_cons_of_mem _ mB74) rfl dX0_push_15 ?_
  refine lv_iconst (v := 1) hx hb dX0_push_18 (by decide) ?_
  refine lv_iadd hx hb dX0_push_19 ?_
  refine lv_bipush (v := 6) hx hb dX0_push_20 (by decide) ?_
  refine lv_irem hx hb dX0_push_22 (by decide) ?_
  obtain ⟨g5, eg5, hm⟩ := sLet_some hm
  refine g_put (j := 1) eg5 X Z (oX0 k153) (iB0 _) rfl tyX0_ok nmX0 (by decide) rfl rfl (Nat.le_of_ble_eq_true rfl) (p0_1 G g4 (((g4 153 1) + (1 : Int32)) - ((g4 153 1) + (1 : Int32)) / (6 : Int32) * (6 : Int32))) rfl (List.mem_cons_of_mem _ mB74) dX0_push_23 (fun H locs Z => ?_)
  refine lv_aload_n hx hb dX0_push_26 rfl (lv_at hl 0 rfl) ?_
  refine lv_aload_n hx hb dX0_push_27 rfl (lv_at hl 0 rfl) ?_
  refine g_get (j := 0) (v := .int (g5 153 0)) X Z (oX0 k153) (iB0 _) rfl (by decide) rfl (List.mem_cons_of_mem _ mB75) rfl dX0_push_28 ?_
  refine lv_iconst (v := 1) hx hb dX0_push_31 (by decide) ?_
  refine lv_iadd hx hb dX0_push_32 ?_
  refine lv_bipush (v := 6) hx hb dX0_push_33 (by decide) ?_
  refine g_min X hl.1 (List.mem_cons_of_mem _ mB76) (List.mem_cons_of_mem _ mB77) (List.mem_cons_of_mem _ mB78) (List.mem_cons_of_mem _ mB79) ⟨Nat.le_of_ble_eq_true rfl, Nat.le_of_ble_eq_true rfl, Nat.le_of_ble_eq_true rfl, Nat.le_of_ble_eq_true rfl⟩ dX0_push_35 ?_
  obtain ⟨g6, eg6, hm⟩ := sLet_some hm
  refine g_put (j := 0) eg6 X Z (oX0 k153) (iB0 _) rfl tyX0_ok nmX0 (by decide) rfl rfl (Nat.le_of_ble_eq_true rfl) (p0_0 G g5 (sMin ((g5 153 0) + (1 : Int32)) (6 : Int32))) rfl (List.mem_cons_of_mem _ mB75) dX0_push_38 (fun H locs Z => ?_)
  obtain rfl := Option.some.inj hm
  exact kI _ _ _ _ dX0_push_41 Z
theorem cX0_push_c (l : Launch) {G : LY} {g : Mem} {n : Nat} {k1 : Nat} {r : Mem} (hk1 : KD k1 = 2) (hm : sX0_push n g k1 = some r) : cV l yX0_push wmX0_push 3 92 wC G [.ref (G.1 153), .ref (G.1 k1)] g r :=
  mk_cV sameC (by decide +kernel) rfl (Nat.le_of_ble_eq_true rfl) (fun p e s m args below meth c A Q ls X kI hl Z => bX0_push_0 X kI g k1 _ _ ls hk1 Z hl hm)
end GW
