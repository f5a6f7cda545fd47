section GW
variable {Qc : Array Value → State → Outcome → State → Prop} {XC : String → State → State → Prop} {p : Program} {l : Launch} {e : Env} {s : State} {m : MethodId} {args : Array Value} {below : List Frame} {meth : Method} {c : Code} {Q : State → Prop} {G : LY} {A : Nat → Prop}
abbrev wmX7_reads : List Cond := Cond.code yX7_reads cX7_reads 3 (some .int) :: wA0
set_option maxHeartbeats 4000000 in
set_option maxRecDepth 100000 in
theorem bX7_reads_0 (X : gC p s m args meth c cX7_reads 3 wmX7_reads yX7_reads.cls (some .int) G A) {n : Nat} {r : Int32 × Mem} (kI : ∀ (pc : Nat) (ls : Array Slot) (H : Heap) (locs : List Loc), decode cX7_reads pc = .ok (.ireturn, 1) → WS wM G r.2 A s.heap H locs → narrow .int (.int r.1) = .int r.1 → W p l e { frames := 5, cells := 0, slots := 0, locals := 113 } s m args below meth c H locs 0 0 Q (F0 m pc ls [.int r.1])) : ∀ (g : Mem) (x1 : Int32) (x2 : Int32) (H : Heap) (locs : List Loc) (ls : Array Slot), WS wM G g A s.heap H locs → lv_has ls 3 [(0, .ref (G.1 0)), (1, .int x1), (2, .int x2)] → sX7_reads n g x1 x2 = some r → W p l e { frames := 5, cells := 0, slots := 0, locals := 113 } s m args below meth c H locs 0 0 Q (F0 m 0 ls []) := by
  have hx := X.1
  have hb := X.2.1
  intro g x1 x2 H locs ls Z hl hm
  unfold sX7_reads at hm
  refine lv_aload_n hx hb dX7_reads_0 rfl (lv_at hl 0 rfl) ?_
  refine lv_iload_n hx hb dX7_reads_1 rfl (lv_at hl 1 rfl) ?_
  refine lv_iload_n hx hb dX7_reads_2 rfl (lv_at hl 2 rfl) ?_
  obtain ⟨r3, e1, hm⟩ := sBi_some hm
  refine g_callVI (n := 2) (As := [.int x1, .int x2]) (rest := []) sameM X Z (cX7_hasWritten_c l e1) oX7 rfl (gooV mB657 mB658 mB659 mB614 mB651) rfl (by decide +kernel) rfl ⟨Nat.le_of_ble_eq_true rfl, Nat.le_of_ble_eq_true rfl⟩ ⟨Nat.le_of_ble_eq_true rfl, Nat.le_of_ble_eq_true rfl⟩ hl.1 rfl (Nat.le_of_ble_eq_true rfl) dX7_reads_3 (fun w2 H locs Z => ?_)
  refine lv_if_eq (tgt := 18) hx hb dX7_reads_6 (by decide) (fun c4 => ?_) (fun c4 => ?_)
  · replace hm := (if_pos c4).symm.trans hm
    refine lv_aload_n hx hb dX7_reads_18 rfl (lv_at hl 0 rfl) ?_
    refine lv_iload_n hx hb dX7_reads_19 rfl (lv_at hl 1 rfl) ?_
    refine lv_iload_n hx hb dX7_reads_20 rfl (lv_at hl 2 rfl) ?_
    obtain ⟨r7, e5, hm⟩ := sBi_some hm
    refine g_callVI (n := 2) (As := [.int x1, .int x2]) (rest := []) sameM X Z (cX7_hasRead_c l e5) oX7 rfl (gooV mB672 mB673 mB674 mB614 mB655) rfl (by decide +kernel) rfl ⟨Nat.le_of_ble_eq_true rfl, Nat.le_of_ble_eq_true rfl⟩ ⟨Nat.le_of_ble_eq_true rfl, Nat.le_of_ble_eq_true rfl⟩ hl.1 rfl (Nat.le_of_ble_eq_true rfl) dX7_reads_21 (fun w6 H locs Z => ?_)
    refine lv_if_ne (tgt := 45) hx hb dX7_reads_24 (by decide) (fun c8 => ?_) (fun c8 => ?_)
    · replace hm := (if_neg c8).symm.trans hm
      refine lv_aload_n hx hb dX7_reads_45 rfl (lv_at hl 0 rfl) ?_
      refine lv_iload_n hx hb dX7_reads_46 rfl (lv_at hl 2 rfl) ?_
      refine lv_aload_n hx hb dX7_reads_47 rfl (lv_at hl 0 rfl) ?_
      refine lv_iload_n hx hb dX7_reads_48 rfl (lv_at hl 1 rfl) ?_
      refine lv_bipush (v := 13) hx hb dX7_reads_49 (by decide) ?_
      refine lv_iload_n hx hb dX7_reads_51 rfl (lv_at hl 2 rfl) ?_
      refine lv_iadd hx hb dX7_reads_52 ?_
      obtain ⟨r11, e9, hm⟩ := sBi_some hm
      refine g_callVI (n := 2) (As := [.int x1, .int ((13 : Int32) + x2)]) (rest := [.int x2, .ref (G.1 0)]) sameM X Z (cX7_of_c l e9) oX7 rfl (gooV mB652 mB653 mB654 mB614 mB649) rfl (by decide +kernel) rfl ⟨Nat.le_of_ble_eq_true rfl, Nat.le_of_ble_eq_true rfl⟩ ⟨Nat.le_of_ble_eq_true rfl, Nat.le_of_ble_eq_true rfl⟩ hl.1 rfl (Nat.le_of_ble_eq_true rfl) dX7_reads_53 (fun w10 H locs Z => ?_)
      obtain ⟨r14, e12, hm⟩ := sBi_some hm
      refine g_callVI (n := 2) (As := [.int x2, .int r11]) (rest := []) sameM X Z (cX7_value_c l e12) oX7 rfl (gooV mB725 mB726 mB727 mB614 mB665) rfl (by decide +kernel) rfl ⟨Nat.le_of_ble_eq_true rfl, Nat.le_of_ble_eq_true rfl⟩ ⟨Nat.le_of_ble_eq_true rfl, Nat.le_of_ble_eq_true rfl⟩ hl.1 rfl (Nat.le_of_ble_eq_true rfl) dX7_reads_56 (fun w13 H locs Z => ?_)
      obtain rfl := Option.some.inj hm
      exact kI _ _ _ _ dX7_reads_59 Z (vp_nar_int _)
    · replace hm := (if_pos c8).symm.trans hm
      refine lv_aload_n hx hb dX7_reads_27 rfl (lv_at hl 0 rfl) ?_
      refine lv_bipush (v := 21) hx hb dX7_reads_28 (by decide) ?_
      refine lv_iload_n hx hb dX7_reads_30 rfl (lv_at hl 1 rfl) ?_
      refine lv_imul hx hb dX7_reads_31 ?_
      refine lv_bipush (v := 13) hx hb dX7_reads_32 (by decide) ?_
      refine lv_iadd hx hb dX7_reads_34 ?_
      refine lv_iload_n hx hb dX7_reads_35 rfl (lv_at hl 2 rfl) ?_
      refine lv_iadd hx hb dX7_reads_36 ?_
      refine lv_aload_n hx hb dX7_reads_37 rfl (lv_at hl 0 rfl) ?_
      refine lv_iload_n hx hb dX7_reads_38 rfl (lv_at hl 2 rfl) ?_
      obtain ⟨r17, e15, hm⟩ := sBi_some hm
      refine g_callVI (n := 1) (As := [.int x2]) (rest := [.int ((((21 : Int32) * x1) + (13 : Int32)) + x2), .ref (G.1 0)]) sameM X Z (cX7_newest_c l e15) oX7 rfl (gooV mB677 mB678 mB679 mB614 mB669) rfl (by decide +kernel) rfl ⟨Nat.le_of_ble_eq_true rfl, Nat.le_of_ble_eq_true rfl⟩ ⟨Nat.le_of_ble_eq_true rfl, Nat.le_of_ble_eq_true rfl⟩ hl.1 rfl (Nat.le_of_ble_eq_true rfl) dX7_reads_39 (fun w16 H locs Z => ?_)
      obtain ⟨g20, e18, hm⟩ := sBi_some hm
      refine g_callVV (n := 2) (As := [.int ((((21 : Int32) * x1) + (13 : Int32)) + x2), .int r17]) (rest := []) sameM X Z (cX7_lays_c l e18) oX7 rfl (gooV mB722 mB723 mB724 mB614 mB650) rfl (by decide +kernel) rfl ⟨Nat.le_of_ble_eq_true rfl, Nat.le_of_ble_eq_true rfl⟩ ⟨Nat.le_of_ble_eq_true rfl, Nat.le_of_ble_eq_true rfl⟩ hl.1 rfl (Nat.le_of_ble_eq_true rfl) dX7_reads_42 (fun H locs Z => ?_)
      refine lv_aload_n hx hb dX7_reads_45 rfl (lv_at hl 0 rfl) ?_
      refine lv_iload_n hx hb dX7_reads_46 rfl (lv_at hl 2 rfl) ?_
      refine lv_aload_n hx hb dX7_reads_47 rfl (lv_at hl 0 rfl) ?_
      refine lv_iload_n hx hb dX7_reads_48 rfl (lv_at hl 1 rfl) ?_
      refine lv_bipush (v := 13) hx hb dX7_reads_49 (by decide) ?_
      refine lv_iload_n hx hb dX7_reads_51 rfl (lv_at hl 2 rfl) ?_
      refine lv_iadd hx hb dX7_reads_52 ?_
      obtain ⟨r23, e21, hm⟩ := sBi_some hm
      refine g_callVI (n := 2) (As := [.int x1, .int ((13 : Int32) + x2)]) (rest := [.int x2, .ref (G.1 0)]) sameM X Z (cX7_of_c l e21) oX7 rfl (gooV mB652 mB653 mB654 mB614 mB649) rfl (by decide +kernel) rfl ⟨Nat.le_of_ble_eq_true rfl, Nat.le_of_ble_eq_true rfl⟩ ⟨Nat.le_of_ble_eq_true rfl, Nat.le_of_ble_eq_true rfl⟩ hl.1 rfl (Nat.le_of_ble_eq_true rfl) dX7_reads_53 (fun w22 H locs Z => ?_)
      obtain ⟨r26, e24, hm⟩ := sBi_some hm
      refine g_callVI (n := 2) (As := [.int x2, .int r23]) (rest := []) sameM X Z (cX7_value_c l e24) oX7 rfl (gooV mB725 mB726 mB727 mB614 mB665) rfl (by decide +kernel) rfl ⟨Nat.le_of_ble_eq_true rfl, Nat.le_of_ble_eq_true rfl⟩ ⟨Nat.le_of_ble_eq_true rfl, Nat.le_of_ble_eq_true rfl⟩ hl.1 rfl (Nat.le_of_ble_eq_true rfl) dX7_reads_56 (fun w25 H locs Z => ?_)
      obtain rfl := Option.some.inj hm
      exact kI _ _ _ _ dX7_reads_59 Z (vp_nar_int _)
  · replace hm := (if_neg c4).symm.trans hm
    refine lv_aload_n hx hb dX7_reads_9 rfl (lv_at hl 0 rfl) ?_
    refine lv_iload_n hx hb dX7_reads_10 rfl (lv_at hl 1 rfl) ?_
    refine lv_iconst (v := 5) hx hb dX7_reads_11 (by decide) ?_
    refine lv_iload_n hx hb dX7_reads_12 rfl (lv_at hl 2 rfl) ?_
    refine lv_iadd hx hb dX7_reads_13 ?_
    obtain ⟨r29, e27, hm⟩ := sBi_some hm
    refine g_callVI (n := 2) (As := [.int x1, .int ((5 : Int32) + x2)]) (rest := []) sameM X Z (cX7_of_c l e27) oX7 rfl (gooV mB652 mB653 mB654 mB614 mB649) rfl (by decide +kernel) rfl ⟨Nat.le_of_ble_eq_true rfl, Nat.le_of_ble_eq_true rfl⟩ ⟨Nat.le_of_ble_eq_true rfl, Nat.le_of_ble_eq_true rfl⟩ hl.1 rfl (Nat.le_of_ble_eq_true rfl) dX7_reads_14 (fun w28 H locs Z => ?_)
    obtain rfl := Option.some.inj hm
    exact kI _ _ _ _ dX7_reads_17 Z (vp_nar_int _)
theorem cX7_reads_c (l : Launch) {G : LY} {g : Mem} {n : Nat} {x1 : Int32} {x2 : Int32} {r : Int32 × Mem} (hm : sX7_reads n g x1 x2 = some r) : cI l yX7_reads wmX7_reads 5 113 .int wM G [.ref (G.1 0), .int x1, .int x2] g r.1 r.2 :=
  mk_cI sameM (by decide +kernel) rfl (Nat.le_of_ble_eq_true rfl) (fun p e s m args below meth c A Q ls X kI hl Z => bX7_reads_0 X kI g x1 x2 _ _ ls Z hl hm)
abbrev wmX7_writes : List Cond := Cond.code yX7_writes cX7_writes 4 (some .int) :: wA0
set_option maxHeartbeats 4000000 in
set_option maxRecDepth 100000 in
theorem bX7_writes_0 (X : gC p s m args meth c cX7_writes 4 wmX7_writes yX7_writes.cls (some .int) G A) {n : Nat} {r : Int32 × Mem} (kI : ∀ (pc : Nat) (ls : Array Slot) (H : Heap) (locs : List Loc), decode cX7_writes pc = .ok (.ireturn, 1) → WS wM G r.2 A s.heap H locs → narrow .int (.int r.1) = .int r.1 → W p l e { frames := 3, cells := 0, slots := 0, locals := 67 } s m args below meth c H locs 0 0 Q (F0 m pc ls [.int r.1])) : ∀ (g : Mem) (x1 : Int32) (x2 : Int32) (x3 : Int32) (H : Heap) (locs : List Loc) (ls : Array Slot), WS wM G g A s.heap H locs → lv_has ls 4 [(0, .ref (G.1 0)), (1, .int x1), (2, .int x2), (3, .int x3)] → sX7_writes n g x1 x2 x3 = some r → W p l e { frames := 3, cells := 0, slots := 0, locals := 67 } s m args below meth c H locs 0 0 Q (F0 m 0 ls []) := by
  have hx := X.1
  have hb := X.2.1
  intro g x1 x2 x3 H locs ls Z hl hm
  unfold sX7_writes at hm
  refine lv_aload_n hx hb dX7_writes_0 rfl (lv_at hl 0 rfl) ?_
  refine lv_bipush (v := 21) hx hb dX7_writes_1 (by decide) ?_
  refine lv_iload_n hx hb dX7_writes_3 rfl (lv_at hl 1 rfl) ?_
  refine lv_imul hx hb dX7_writes_4 ?_
  refine lv_iconst (v := 5) hx hb dX7_writes_5 (by decide) ?_
  refine lv_iadd hx hb dX7_writes_6 ?_
  refine lv_iload_n hx hb dX7_writes_7 rfl (lv_at hl 2 rfl) ?_
  refine lv_iadd hx hb dX7_writes_8 ?_
  refine lv_iload_n hx hb dX7_writes_9 rfl (lv_at hl 3 rfl) ?_
  obtain ⟨g3, e1, hm⟩ := sBi_some hm
  refine g_callVV (n := 2) (As := [.int ((((21 : Int32) * x1) + (5 : Int32)) + x2), .int x3]) (rest := []) sameM X Z (cX7_lays_c l e1) oX7 rfl (gooV mB722 mB723 mB724 mB614 mB650) rfl (by decide +kernel) rfl ⟨Nat.le_of_ble_eq_true rfl, Nat.le_of_ble_eq_true rfl⟩ ⟨Nat.le_of_ble_eq_true rfl, Nat.le_of_ble_eq_true rfl⟩ hl.1 rfl (Nat.le_of_ble_eq_true rfl) dX7_writes_10 (fun H locs Z => ?_)
  refine lv_aload_n hx hb dX7_writes_13 rfl (lv_at hl 0 rfl) ?_
  refine lv_iload_n hx hb dX7_writes_14 rfl (lv_at hl 1 rfl) ?_
  obtain ⟨r6, e4, hm⟩ := sBi_some hm
  refine g_callVI (n := 1) (As := [.int x1]) (rest := []) sameM X Z (cX7_written_c l e4) oX7 rfl (gooV mB730 mB731 mB732 mB614 mB656) rfl (by decide +kernel) rfl ⟨Nat.le_of_ble_eq_true rfl, Nat.le_of_ble_eq_true rfl⟩ ⟨Nat.le_of_ble_eq_true rfl, Nat.le_of_ble_eq_true rfl⟩ hl.1 rfl (Nat.le_of_ble_eq_true rfl) dX7_writes_15 (fun w5 H locs Z => ?_)
  obtain rfl := Option.some.inj hm
  exact kI _ _ _ _ dX7_writes_18 Z (vp_nar_int _)
theorem cX7_writes_c (l : Launch) {G : LY} {g : Mem} {n : Nat} {x1 : Int32} {x2 : Int32} {x3 : Int32} {r : Int32 × Mem} (hm : sX7_writes n g x1 x2 x3 = some r) : cI l yX7_writes wmX7_writes 3 67 .int wM G [.ref (G.1 0), .int x1, .int x2, .int x3] g r.1 r.2 :=
  mk_cI sameM (by decide +kernel) rfl (Nat.le_of_ble_eq_true rfl) (fun p e s m args below meth c A Q ls X kI hl Z => bX7_writes_0 X kI g x1 x2 x3 _ _ ls Z hl hm)
abbrev wmX7_requests : List Cond := Cond.code yX7_requests cX7_requests 3 none :: wA0
set_option maxHeartbeats 4000000 in
set_option maxRecDepth 100000 in
theorem bX7_requests_0 (X : gC p s m args meth c cX7_requests 3 wmX7_requests yX7_requests.cls none G A) {r : Mem} (kI : ∀ (pc : Nat) (ls : Array Slot) (H : Heap) (locs : List Loc), decode cX7_requests pc = .ok (.return_, 1) → WS wM G r A s.heap H locs → W p l e { frames := 5, cells := 0, slots := 0, locals := 109 } s m args below meth c H locs 0 0 Q (F0 m pc ls [])) : ∀ (g : Mem) (x1 : Int32) (x2 : Int32) (H : Heap) (locs : List Loc) (ls : Array Slot), WS wM G g A s.heap H locs → lv_has ls 3 [(0, .ref (G.1 0)), (1, .int x1), (2, .int x2)] → sX7_requests g x1 x2 = some r → W p l e { frames := 5, cells := 0, slots := 0, locals := 109 } s m args below meth c H locs 0 0 Q (F0 m 0 ls []) := by
  have hx := X.1
  have hb := X.2.1
  intro g x1 x2 H locs ls Z hl hm
  unfold sX7_requests at hm
  refine lv_iload_n hx hb dX7_requests_0 rfl (lv_at hl 2 rfl) ?_
  refine lv_bipush (v := (-2)) hx hb dX7_requests_1 (by decide) ?_
  refine lv_icmp_ne (tgt := 18) hx hb dX7_requests_3 (by decide) (fun c1 => ?_) (fun c1 => ?_)
  · replace hm := (if_neg c1).symm.trans hm
    refine lv_aload_n hx hb dX7_requests_18 rfl (lv_at hl 0 rfl) ?_
    refine lv_bipush (v := 21) hx hb dX7_requests_19 (by decide) ?_
    refine lv_iload_n hx hb dX7_requests_21 rfl (lv_at hl 1 rfl) ?_
    refine lv_imul hx hb dX7_requests_22 ?_
    refine lv_iconst (v := 1) hx hb dX7_requests_23 (by decide) ?_
    refine lv_iadd hx hb dX7_requests_24 ?_
    refine lv_iconst (v := 1) hx hb dX7_requests_25 (by decide) ?_
    obtain ⟨g4, e2, hm⟩ := sBi_some hm
    refine g_callVV (n := 2) (As := [.int (((21 : Int32) * x1) + (1 : Int32)), .int 1]) (rest := []) sameM X Z (cX7_lays_c l e2) oX7 rfl (gooV mB722 mB723 mB724 mB614 mB650) rfl (by decide +kernel) rfl ⟨Nat.le_of_ble_eq_true rfl, Nat.le_of_ble_eq_true rfl⟩ ⟨Nat.le_of_ble_eq_true rfl, Nat.le_of_ble_eq_true rfl⟩ hl.1 rfl (Nat.le_of_ble_eq_true rfl) dX7_requests_26 (fun H locs Z => ?_)
    refine lv_aload_n hx hb dX7_requests_29 rfl (lv_at hl 0 rfl) ?_
    refine lv_bipush (v := 21) hx hb dX7_requests_30 (by decide) ?_
    refine lv_iload_n hx hb dX7_requests_32 rfl (lv_at hl 1 rfl) ?_
    refine lv_imul hx hb dX7_requests_33 ?_
    refine lv_iconst (v := 2) hx hb dX7_requests_34 (by decide) ?_
    refine lv_iadd hx hb dX7_requests_35 ?_
    refine lv_iload_n hx hb dX7_requests_36 rfl (lv_at hl 2 rfl) ?_
    obtain ⟨g7, e5, hm⟩ := sBi_some hm
    refine g_callVV (n := 2) (As := [.int (((21 : Int32) * x1) + (2 : Int32)), .int x2]) (rest := []) sameM X Z (cX7_lays_c l e5) oX7 rfl (gooV mB722 mB723 mB724 mB614 mB650) rfl (by decide +kernel) rfl ⟨Nat.le_of_ble_eq_true rfl, Nat.le_of_ble_eq_true rfl⟩ ⟨Nat.le_of_ble_eq_true rfl, Nat.le_of_ble_eq_true rfl⟩ hl.1 rfl (Nat.le_of_ble_eq_true rfl) dX7_requests_37 (fun H locs Z => ?_)
    refine lv_aload_n hx hb dX7_requests_40 rfl (lv_at hl 0 rfl) ?_
    refine lv_bipush (v := 21) hx hb dX7_requests_41 (by decide) ?_
    refine lv_iload_n hx hb dX7_requests_43 rfl (lv_at hl 1 rfl) ?_
    refine lv_imul hx hb dX7_requests_44 ?_
    refine lv_iconst (v := 3) hx hb dX7_requests_45 (by decide) ?_
    refine lv_iadd hx hb dX7_requests_46 ?_
    refine lv_aload_n hx hb dX7_requests_47 rfl (lv_at hl 0 rfl) ?_
    refine g_get (j := 0) (v := .ref (G.1 1)) X Z oX7 (iB7 _) rfl (by decide) rfl (List.mem_cons_of_mem _ mB602) rfl dX7_requests_48 ?_
    refine lv_iconst (v := 0) hx hb dX7_requests_51 (by decide) ?_
    obtain ⟨b8, hm⟩ := sIdx_some hm
    refine g_iald X Z aM1 b8 dX7_requests_52 ?_
    obtain ⟨g11, e9, hm⟩ := sBi_some hm
    refine g_callVV (n := 2) (As := [.int (((21 : Int32) * x1) + (3 : Int32)), .int (g7 1 (0 : Int32).toNatClampNeg)]) (rest := []) sameM X Z (cX7_lays_c l e9) oX7 rfl (gooV mB722 mB723 mB724 mB614 mB650) rfl (by decide +kernel) rfl ⟨Nat.le_of_ble_eq_true rfl, Nat.le_of_ble_eq_true rfl⟩ ⟨Nat.le_of_ble_eq_true rfl, Nat.le_of_ble_eq_true rfl⟩ hl.1 rfl (Nat.le_of_ble_eq_true rfl) dX7_requests_53 (fun H locs Z => ?_)
    refine lv_aload_n hx hb dX7_requests_56 rfl (lv_at hl 0 rfl) ?_
    refine g_get (j := 0) (v := .ref (G.1 1)) X Z oX7 (iB7 _) rfl (by decide) rfl (List.mem_cons_of_mem _ mB602) rfl dX7_requests_57 ?_
    refine lv_iconst (v := 4) hx hb dX7_requests_60 (by decide) ?_
    refine lv_aload_n hx hb dX7_requests_61 rfl (lv_at hl 0 rfl) ?_
    refine lv_iload_n hx hb dX7_requests_62 rfl (lv_at hl 1 rfl) ?_
    refine lv_iconst (v := 0) hx hb dX7_requests_63 (by decide) ?_
    obtain ⟨r14, e12, hm⟩ := sBi_some hm
    refine g_callVI (n := 2) (As := [.int x1, .int 0]) (rest := [.int 4, .ref (G.1 1)]) sameM X Z (cX7_of_c l e12) oX7 rfl (gooV mB652 mB653 mB654 mB614 mB649) rfl (by decide +kernel) rfl ⟨Nat.le_of_ble_eq_true rfl, Nat.le_of_ble_eq_true rfl⟩ ⟨Nat.le_of_ble_eq_true rfl, Nat.le_of_ble_eq_true rfl⟩ hl.1 rfl (Nat.le_of_ble_eq_true rfl) dX7_requests_64 (fun w13 H locs Z => ?_)
    refine lv_iadd hx hb dX7_requests_67 ?_
    refine lv_iload_n hx hb dX7_requests_68 rfl (lv_at hl 2 rfl) ?_
    obtain ⟨b15, hm⟩ := sIdx_some hm
    obtain ⟨g16, eg16, hm⟩ := sLet_some hm
    refine g_iast eg16 X Z aM1 b15 dX7_requests_69 (fun H locs Z => ?_)
    refine lv_aload_n hx hb dX7_requests_70 rfl (lv_at hl 0 rfl) ?_
    refine lv_aload_n hx hb dX7_requests_71 rfl (lv_at hl 0 rfl) ?_
    refine lv_iload_n hx hb dX7_requests_72 rfl (lv_at hl 1 rfl) ?_
    refine lv_iconst (v := 0) hx hb dX7_requests_73 (by decide) ?_
    obtain ⟨r19, e17, hm⟩ := sBi_some hm
    refine g_callVI (n := 2) (As := [.int x1, .int 0]) (rest := [.ref (G.1 0)]) sameM X Z (cX7_of_c l e17) oX7 rfl (gooV mB652 mB653 mB654 mB614 mB649) rfl (by decide +kernel) rfl ⟨Nat.le_of_ble_eq_true rfl, Nat.le_of_ble_eq_true rfl⟩ ⟨Nat.le_of_ble_eq_true rfl, Nat.le_of_ble_eq_true rfl⟩ hl.1 rfl (Nat.le_of_ble_eq_true rfl) dX7_requests_74 (fun w18 H locs Z => ?_)
    obtain ⟨g22, e20, hm⟩ := sBi_some hm
    refine g_callVV (n := 1) (As := [.int r19]) (rest := []) sameM X Z (cX7_uses_c l e20) oX7 rfl (gooV mB733 mB734 mB735 mB614 mB648) rfl (by decide +kernel) rfl ⟨Nat.le_of_ble_eq_true rfl, Nat.le_of_ble_eq_true rfl⟩ ⟨Nat.le_of_ble_eq_true rfl, Nat.le_of_ble_eq_true rfl⟩ hl.1 rfl (Nat.le_of_ble_eq_true rfl) dX7_requests_77 (fun H locs Z => ?_)
    obtain rfl := Option.some.inj hm
    exact kI _ _ _ _ dX7_requests_80 Z
  · replace hm := (if_pos c1).symm.trans hm
    refine lv_aload_n hx hb dX7_requests_6 rfl (lv_at hl 0 rfl) ?_
    refine lv_bipush (v := 21) hx hb dX7_requests_7 (by decide) ?_
    refine lv_iload_n hx hb dX7_requests_9 rfl (lv_at hl 1 rfl) ?_
    refine lv_imul hx hb dX7_requests_10 ?_
    refine lv_iconst (v := 1) hx hb dX7_requests_11 (by decide) ?_
    refine lv_iadd hx hb dX7_requests_12 ?_
    refine lv_iconst (v := 3) hx hb dX7_requests_13 (by decide) ?_
    obtain ⟨g25, e23, hm⟩ := sBi_some hm
    refine g_callVV (n := 2) (As := [.int (((21 : Int32) * x1) + (1 : Int32)), .int 3]) (rest := []) sameM X Z (cX7_lays_c l e23) oX7 rfl (gooV mB722 mB723 mB724 mB614 mB650) rfl (by decide +kernel) rfl ⟨Nat.le_of_ble_eq_true rfl, Nat.le_of_ble_eq_true rfl⟩ ⟨Nat.le_of_ble_eq_true rfl, Nat.le_of_ble_eq_true rfl⟩ hl.1 rfl (Nat.le_of_ble_eq_true rfl) dX7_requests_14 (fun H locs Z => ?_)
    obtain rfl := Option.some.inj hm
    exact kI _ _ _ _ dX7_requests_17 Z
theorem cX7_requests_c (l : Launch) {G : LY} {g : Mem} {x1 : Int32} {x2 : Int32} {r : Mem} (hm : sX7_requests g x1 x2 = some r) : cV l yX7_requests wmX7_requests 5 109 wM G [.ref (G.1 0), .int x1, .int x2] g r :=
  mk_cV sameM (by decide +kernel) rfl (Nat.le_of_ble_eq_true rfl) (fun p e s m args below meth c A Q ls X kI hl Z => bX7_requests_0 X kI g x1 x2 _ _ ls Z hl hm)
abbrev wmX7_advances : List Cond := Cond.code yX7_advances cX7_advances 5 (some .int) :: wA0
set_option maxHeartbeats 4000000 in
set_option maxRecDepth 100000 in
theorem bX7_advances_22 (X : gC p s m args meth c cX7_advances 5 wmX7_advances yX7_advances.cls (some .int) G A) {n : Nat} {r : Int32 × Mem} (kI : ∀ (pc : Nat) (ls : Array Slot) (H : Heap) (locs : List Loc), decode cX7_advances pc = .ok (.ireturn, 1) → WS wM G r.2 A s.heap H locs → narrow .int (.int r.1) = .int r.1 → W p l e { frames := 5, cells := 0, slots := 0, locals := 109 } s m args below meth c H locs 0 0 Q (F0 m pc ls [.int r.1])) {rec4 : Mem → Int32 → Int32 → Int32 → Option (Int32 × Mem)} (h4 : ∀ (g : Mem) (x1 : Int32) (x2 : Int32) (x3 : Int32) (H : Heap) (locs : List Loc) (ls : Array Slot), WS wM G g A s.heap H locs → lv_has ls 5 [(0, .ref (G.1 0)), (1, .int x1), (2, .int x2), (3, .int x3)] → rec4 g x1 x2 x3 = some r → W p l e { frames := 5, cells := 0, slots := 0, locals := 109 } s m args below meth c H locs 0 0 Q (F0 m 4 ls [])) : ∀ (f : Nat), ∀ (g : Mem) (x1 : Int32) (x2 : Int32) (x3 : Int32) (x4 : Int32) (H : Heap) (locs : List Loc) (ls : Array Slot), WS wM G g A s.heap H locs → lv_has ls 5 [(0, .ref (G.1 0)), (1, .int x1), (2, .int x2), (3, .int x3), (4, .int x4)] → sX7_advances_22 n rec4 f g x1 x2 x3 x4 = some r → W p l e { frames := 5, cells := 0, slots := 0, locals := 109 } s m args below meth c H locs 0 0 Q (F0 m 22 ls []) := by
  have hx := X.1
  have hb := X.2.1
  intro f
  induction f with
  | zero =>
    intro g x1 x2 x3 x4 H locs ls Z hl hm
    cases hm
  | succ f ih =>
    intro g x1 x2 x3 x4 H locs ls Z hl hm
    unfold sX7_advances_22 at hm
    refine lv_iload hx hb dX7_advances_22 (lv_at hl 4 rfl) ?_
    refine lv_aload_n hx hb dX7_advances_24 rfl (lv_at hl 0 rfl) ?_
    refine g_get (j := 0) (v := .ref (G.1 1)) X Z oX7 (iB7 _) rfl (by decide) rfl (List.mem_cons_of_mem _ mB602) rfl dX7_advances_25 ?_
    refine lv_iconst (v := 3) hx hb dX7_advances_28 (by decide) ?_
    obtain ⟨b1, hm⟩ := sIdx_some hm
    refine g_iald X Z aM1 b1 dX7_advances_29 ?_
    refine lv_icmp_ge (tgt := 120) hx hb dX7_advances_30 (by decide) (fun c2 => ?_) (fun c2 => ?_)
    · replace hm := (if_pos c2).symm.trans hm
      refine lv_iinc (v := (x3 + (1 : Int32))) (lv' := [(3, .int (x3 + (1 : Int32))), (0, .ref (G.1 0)), (1, .int x1), (2, .int x2), (4, .int x4)]) hx hb dX7_advances_120 hl (k := 3) rfl rfl (by decide) rfl (fun ls hl => ?_)
      refine lv_goto (tgt := 4) hx hb dX7_advances_123 (by decide) ?_
      exact h4 g x1 x2 (x3 + (1 : Int32)) _ _ _ Z (lv_sub hl [1, 2, 3, 0] rfl) hm
    · replace hm := (if_neg c2).symm.trans hm
      refine lv_aload_n hx hb dX7_advances_33 rfl (lv_at hl 0 rfl) ?_
      refine lv_iload hx hb dX7_advances_34 (lv_at hl 4 rfl) ?_
      refine lv_iconst (v := 1) hx hb dX7_advances_36 (by decide) ?_
      obtain ⟨r5, e3, hm⟩ := sBi_some hm
      refine g_callVI (n := 2) (As := [.int x4, .int 1]) (rest := []) sameM X Z (cX7_of_c l e3) oX7 rfl (gooV mB652 mB653 mB654 mB614 mB649) rfl (by decide +kernel) rfl ⟨Nat.le_of_ble_eq_true rfl, Nat.le_of_ble_eq_true rfl⟩ ⟨Nat.le_of_ble_eq_true rfl, Nat.le_of_ble_eq_true rfl⟩ hl.1 rfl (Nat.le_of_ble_eq_true rfl) dX7_advances_37 (fun w4 H locs Z => ?_)
      refine lv_iconst (v := 1) hx hb dX7_advances_40 (by decide) ?_
      refine lv_icmp_ne (tgt := 114) hx hb dX7_advances_41 (by decide) (fun c6 => ?_) (fun c6 => ?_)
      · replace hm := (if_neg c6).symm.trans hm
        refine lv_iinc (v := (x4 + (1 : Int32))) (lv' := [(4, .int (x4 + (1 : Int32))), (0, .ref (G.1 0)), (1, .int x1), (2, .int x2), (3, .int x3)]) hx hb dX7_advances_114 hl (k := 4) rfl rfl (by decide) rfl (fun ls hl => ?_)
        refine lv_goto (tgt := 22) hx hb dX7_advances_117 (by decide) ?_
        exact ih g x1 x2 x3 (x4 + (1 : Int32)) _ _ _ Z (lv_sub hl [1, 2, 3, 4, 0] rfl) hm
      · replace hm := (if_pos c6).symm.trans hm
        refine lv_aload_n hx hb dX7_advances_44 rfl (lv_at hl 0 rfl) ?_
        refine lv_iload hx hb dX7_advances_45 (lv_at hl 4 rfl) ?_
        refine lv_iconst (v := 2) hx hb dX7_advances_47 (by decide) ?_
        obtain ⟨r9, e7, hm⟩ := sBi_some hm
        refine g_callVI (n := 2) (As := [.int x4, .int 2]) (rest := []) sameM X Z (cX7_of_c l e7) oX7 rfl (gooV mB652 mB653 mB654 mB614 mB649) rfl (by decide +kernel) rfl ⟨Nat.le_of_ble_eq_true rfl, Nat.le_of_ble_eq_true rfl⟩ ⟨Nat.le_of_ble_eq_true rfl, Nat.le_of_ble_eq_true rfl⟩ hl.1 rfl (Nat.le_of_ble_eq_true rfl) dX7_advances_48 (fun w8 H locs Z => ?_)
        refine lv_aload_n hx hb dX7_advances_51 rfl (lv_at hl 0 rfl) ?_
        refine lv_aload_n hx hb dX7_advances_52 rfl (lv_at hl 0 rfl) ?_
        refine lv_iload hx hb dX7_advances_53 (lv_at hl 4 rfl) ?_
        refine lv_iconst (v := 0) hx hb dX7_advances_55 (by decide) ?_
        obtain ⟨r12, e10, hm⟩ := sBi_some hm
        refine g_callVI (n := 2) (As := [.int x4, .int 0]) (rest := [.ref (G.1 0), .int r9]) sameM X Z (cX7_of_c l e10) oX7 rfl (gooV mB652 mB653 mB654 mB614 mB649) rfl (by decide +kernel) rfl ⟨Nat.le_of_ble_eq_true rfl, Nat.le_of_ble_eq_true rfl⟩ ⟨Nat.le_of_ble_eq_true rfl, Nat.le_of_ble_eq_true rfl⟩ hl.1 rfl (Nat.le_of_ble_eq_true rfl) dX7_advances_56 (fun w11 H locs Z => ?_)
        refine lv_aload_n hx hb dX7_advances_59 rfl (lv_at hl 0 rfl) ?_
        refine g_get (j := 0) (v := .ref (G.1 1)) X Z oX7 (iB7 _) rfl (by decide) rfl (List.mem_cons_of_mem _ mB602) rfl dX7_advances_60 ?_
        refine lv_iconst (v := 0) hx hb dX7_advances_63 (by decide) ?_
        obtain ⟨b13, hm⟩ := sIdx_some hm
        refine g_iald X Z aM1 b13 dX7_advances_64 ?_
        obtain ⟨r16, e14, hm⟩ := sBi_some hm
        refine g_callVI (n := 2) (As := [.int r12, .int (g 1 (0 : Int32).toNatClampNeg)]) (rest := [.int r9]) sameM X Z (cX7_earliestAt_c l e14) oX7 rfl (gooV mB638 mB639 mB640 mB614 mB630) rfl (by decide +kernel) rfl ⟨Nat.le_of_ble_eq_true rfl, Nat.le_of_ble_eq_true rfl⟩ ⟨Nat.le_of_ble_eq_true rfl, Nat.le_of_ble_eq_true rfl⟩ hl.1 rfl (Nat.le_of_ble_eq_true rfl) dX7_advances_65 (fun w15 H locs Z => ?_)
        refine lv_icmp_ge (tgt := 114) hx hb dX7_advances_68 (by decide) (fun c17 => ?_) (fun c17 => ?_)
        · replace hm := (if_pos c17).symm.trans hm
          refine lv_iinc (v := (x4 + (1 : Int32))) (lv' := [(4, .int (x4 + (1 : Int32))), (0, .ref (G.1 0)), (1, .int x1), (2, .int x2), (3, .int x3)]) hx hb dX7_advances_114 hl (k := 4) rfl rfl (by decide) rfl (fun ls hl => ?_)
          refine lv_goto (tgt := 22) hx hb dX7_advances_117 (by decide) ?_
          exact ih g x1 x2 x3 (x4 + (1 : Int32)) _ _ _ Z (lv_sub hl [1, 2, 3, 4, 0] rfl) hm
        · replace hm := (if_neg c17).symm.trans hm
          refine lv_aload_n hx hb dX7_advances_71 rfl (lv_at hl 0 rfl) ?_
          refine lv_bipush (v := 21) hx hb dX7_advances_72 (by decide) ?_
          refine lv_iload hx hb dX7_advances_74 (lv_at hl 4 rfl) ?_
          refine lv_imul hx hb dX7_advances_76 ?_
          refine lv_iconst (v := 1) hx hb dX7_advances_77 (by decide) ?_
          refine lv_iadd hx hb dX7_advances_78 ?_
          refine lv_iconst (v := 2) hx hb dX7_advances_79 (by decide) ?_
          obtain ⟨g20, e18, hm⟩ := sBi_some hm
          refine g_callVV (n := 2) (As := [.int (((21 : Int32) * x4) + (1 : Int32)), .int 2]) (rest := []) sameM X Z (cX7_lays_c l e18) oX7 rfl (gooV mB722 mB723 mB724 mB614 mB650) rfl (by decide +kernel) rfl ⟨Nat.le_of_ble_eq_true rfl, Nat.le_of_ble_eq_true rfl⟩ ⟨Nat.le_of_ble_eq_true rfl, Nat.le_of_ble_eq_true rfl⟩ hl.1 rfl (Nat.le_of_ble_eq_true rfl) dX7_advances_80 (fun H locs Z => ?_)
          refine lv_aload_n hx hb dX7_advances_83 rfl (lv_at hl 0 rfl) ?_
          refine lv_bipush (v := 21) hx hb dX7_advances_84 (by decide) ?_
          refine lv_iload hx hb dX7_advances_86 (lv_at hl 4 rfl) ?_
          refine lv_imul hx hb dX7_advances_88 ?_
          refine lv_iconst (v := 4) hx hb dX7_advances_89 (by decide) ?_
          refine lv_iadd hx hb dX7_advances_90 ?_
          refine lv_aload_n hx hb dX7_advances_91 rfl (lv_at hl 0 rfl) ?_
          refine g_get (j := 0) (v := .ref (G.1 1)) X Z oX7 (iB7 _) rfl (by decide) rfl (List.mem_cons_of_mem _ mB602) rfl dX7_advances_92 ?_
          refine lv_iconst (v := 0) hx hb dX7_advances_95 (by decide) ?_
          obtain ⟨b21, hm⟩ := sIdx_some hm
          refine g_iald X Z aM1 b21 dX7_advances_96 ?_
          obtain ⟨g24, e22, hm⟩ := sBi_some hm
          refine g_callVV (n := 2) (As := [.int (((21 : Int32) * x4) + (4 : Int32)), .int (g20 1 (0 : Int32).toNatClampNeg)]) (rest := []) sameM X Z (cX7_lays_c l e22) oX7 rfl (gooV mB722 mB723 mB724 mB614 mB650) rfl (by decide +kernel) rfl ⟨Nat.le_of_ble_eq_true rfl, Nat.le_of_ble_eq_true rfl⟩ ⟨Nat.le_of_ble_eq_true rfl, Nat.le_of_ble_eq_true rfl⟩ hl.1 rfl (Nat.le_of_ble_eq_true rfl) dX7_advances_97 (fun H locs Z => ?_)
          refine lv_aload_n hx hb dX7_advances_100 rfl (lv_at hl 0 rfl) ?_
          refine lv_aload_n hx hb dX7_advances_101 rfl (lv_at hl 0 rfl) ?_
          refine lv_iload hx hb dX7_advances_102 (lv_at hl 4 rfl) ?_
          refine lv_iconst (v := 0) hx hb dX7_advances_104 (by decide) ?_
          obtain ⟨r27, e25, hm⟩ := sBi_some hm
          refine g_callVI (n := 2) (As := [.int x4, .int 0]) (rest := [.ref (G.1 0)]) sameM X Z (cX7_of_c l e25) oX7 rfl (gooV mB652 mB653 mB654 mB614 mB649) rfl (by decide +kernel) rfl ⟨Nat.le_of_ble_eq_true rfl, Nat.le_of_ble_eq_true rfl⟩ ⟨Nat.le_of_ble_eq_true rfl, Nat.le_of_ble_eq_true rfl⟩ hl.1 rfl (Nat.le_of_ble_eq_true rfl) dX7_advances_105 (fun w26 H locs Z => ?_)
          obtain ⟨g30, e28, hm⟩ := sBi_some hm
          refine g_callVV (n := 1) (As := [.int r27]) (rest := []) sameM X Z (cX7_uses_c l e28) oX7 rfl (gooV mB733 mB734 mB735 mB614 mB648) rfl (by decide +kernel) rfl ⟨Nat.le_of_ble_eq_true rfl, Nat.le_of_ble_eq_true rfl⟩ ⟨Nat.le_of_ble_eq_true rfl, Nat.le_of_ble_eq_true rfl⟩ hl.1 rfl (Nat.le_of_ble_eq_true rfl) dX7_advances_108 (fun H locs Z => ?_)
          refine lv_iinc (v := (x2 + (1 : Int32))) (lv' := [(2, .int (x2 + (1 : Int32))), (0, .ref (G.1 0)), (1, .int x1), (3, .int x3), (4, .int x4)]) hx hb dX7_advances_111 hl (k := 2) rfl rfl (by decide) rfl (fun ls hl => ?_)
          refine lv_iinc (v := (x4 + (1 : Int32))) (lv' := [(4, .int (x4 + (1 : Int32))), (2, .int (x2 + (1 : Int32))), (0, .ref (G.1 0)), (1, .int x1), (3, .int x3)]) hx hb dX7_advances_114 hl (k := 4) rfl rfl (by decide) rfl (fun ls hl => ?_)
          refine lv_goto (tgt := 22) hx hb dX7_advances_117 (by decide) ?_
          exact ih g30 x1 (x2 + (1 : Int32)) x3 (x4 + (1 : Int32)) _ _ _ Z (lv_sub hl [2, 3, 1, 4, 0] rfl) hm
set_option maxHeartbeats 4000000 in
set_option maxRecDepth 100000 in
theorem bX7_advances_4 (X : gC p s m args meth c cX7_advances 5 wmX7_advances yX7_advances.cls (some .int) G A) {n : Nat} {r : Int32 × Mem} (kI : ∀ (pc : Nat) (ls : Array Slot) (H : Heap) (locs : List Loc), decode cX7_advances pc = .ok (.ireturn, 1) → WS wM G r.2 A s.heap H locs → narrow .int (.int r.1) = .int r.1 → W p l e { frames := 5, cells := 0, slots := 0, locals := 109 } s m args below meth c H locs 0 0 Q (F0 m pc ls [.int r.1])) : ∀ (f : Nat), ∀ (g : Mem) (x1 : Int32) (x2 : Int32) (x3 : Int32) (H : Heap) (locs : List Loc) (ls : Array Slot), WS wM G g A s.heap H locs → lv_has ls 5 [(0, .ref (G.1 0)), (1, .int x1), (2, .int x2), (3, .int x3)] → sX7_advances_4 n f g x1 x2 x3 = some r → W p l e { frames := 5, cells := 0, slots := 0, locals := 109 } s m args below meth c H locs 0 0 Q (F0 m 4 ls []) := by
  have hx := X.1
  have hb := X.2.1
  intro f
  induction f with
  | zero =>
    intro g x1 x2 x3 H locs ls Z hl hm
    cases hm
  | succ f ih =>
    intro g x1 x2 x3 H locs ls Z hl hm
    unfold sX7_advances_4 at hm
    refine lv_iload_n hx hb dX7_advances_4 rfl (lv_at hl 3 rfl) ?_
    refine lv_iload_n hx hb dX7_advances_5 rfl (lv_at hl 1 rfl) ?_
    refine lv_icmp_ge (tgt := 126) hx hb dX7_advances_6 (by decide) (fun c1 => ?_) (fun c1 => ?_)
    · replace hm := (if_pos c1).symm.trans hm
      refine lv_iload_n hx hb dX7_advances_126 rfl (lv_at hl 2 rfl) ?_
      obtain rfl := Option.some.inj hm
      exact kI _ _ _ _ dX7_advances_127 Z (vp_nar_int _)
    · replace hm := (if_neg c1).symm.trans hm
      refine lv_aload_n hx hb dX7_advances_9 rfl (lv_at hl 0 rfl) ?_
      refine g_get (j := 0) (v := .ref (G.1 1)) X Z oX7 (iB7 _) rfl (by decide) rfl (List.mem_cons_of_mem _ mB602) rfl dX7_advances_10 ?_
      refine lv_iconst (v := 0) hx hb dX7_advances_13 (by decide) ?_
      refine lv_dup2_11 hx hb dX7_advances_14 rfl rfl ?_
      obtain ⟨b2, hm⟩ := sIdx_some hm
      refine g_iald X Z aM1 b2 dX7_advances_15 ?_
      refine lv_iconst (v := 1) hx hb dX7_advances_16 (by decide) ?_
      refine lv_iadd hx hb dX7_advances_17 ?_
      obtain ⟨b3, hm⟩ := sIdx_some hm
      obtain ⟨g4, eg4, hm⟩ := sLet_some hm
      refine g_iast eg4 X Z aM1 b3 dX7_advances_18 (fun H locs Z => ?_)
      refine lv_iconst (v := 0) hx hb dX7_advances_19 (by decide) ?_
      refine lv_istore (lv' := [(4, .int 0), (0, .ref (G.1 0)), (1, .int x1), (2, .int x2), (3, .int x3)]) hx hb dX7_advances_20 hl (by decide) rfl (fun ls hl => ?_)
      exact bX7_advances_22 X kI ih n g4 x1 x2 x3 (0 : Int32) _ _ _ Z (lv_sub hl [1, 2, 3, 4, 0] rfl) hm
set_option maxHeartbeats 4000000 in
set_option maxRecDepth 100000 in
theorem bX7_advances_0 (X : gC p s m args meth c cX7_advances 5 wmX7_advances yX7_advances.cls (some .int) G A) {n : Nat} {r : Int32 × Mem} (kI : ∀ (pc : Nat) (ls : Array Slot) (H : Heap) (locs : List Loc), decode cX7_advances pc = .ok (.ireturn, 1) → WS wM G r.2 A s.heap H locs → narrow .int (.int r.1) = .int r.1 → W p l e { frames := 5, cells := 0, slots := 0, locals := 109 } s m args below meth c H locs 0 0 Q (F0 m pc ls [.int r.1])) : ∀ (g : Mem) (x1 : Int32) (H : Heap) (locs : List Loc) (ls : Array Slot), WS wM G g A s.heap H locs → lv_has ls 5 [(0, .ref (G.1 0)), (1, .int x1)] → sX7_advances n g x1 = some r → W p l e { frames := 5, cells := 0, slots := 0, locals := 109 } s m args below meth c H locs 0 0 Q (F0 m 0 ls []) := by
  have hx := X.1
  have hb := X.2.1
  intro g x1 H locs ls Z hl hm
  unfold sX7_advances at hm
  refine lv_iconst (v := 0) hx hb dX7_advances_0 (by decide) ?_
  refine lv_istore_n (lv' := [(2, .int 0), (0, .ref (G.1 0)), (1, .int x1)]) hx hb dX7_advances_1 rfl hl (by decide) rfl (fun ls hl => ?_)
  refine lv_iconst (v := 0) hx hb dX7_advances_2 (by decide) ?_
  refine lv_istore_n (lv' := [(3, .int 0), (2, .int 0), (0, .ref (G.1 0)), (1, .int x1)]) hx hb dX7_advances_3 rfl hl (by decide) rfl (fun ls hl => ?_)
  exact bX7_advances_4 X kI n g x1 (0 : Int32) (0 : Int32) _ _ _ Z (lv_sub hl [2, 3, 1, 0] rfl) hm
theorem cX7_advances_c (l : Launch) {G : LY} {g : Mem} {n : Nat} {x1 : Int32} {r : Int32 × Mem} (hm : sX7_advances n g x1 = some r) : cI l yX7_advances wmX7_advances 5 109 .int wM G [.ref (G.1 0), .int x1] g r.1 r.2 :=
  mk_cI sameM (by decide +kernel) rfl (Nat.le_of_ble_eq_true rfl) (fun p e s m args below meth c A Q ls X kI hl Z => bX7_advances_0 X kI g x1 _ _ ls Z hl hm)
abbrev wmX7_synchronizes : List Cond := Cond.code yX7_synchronizes cX7_synchronizes 4 (some .int) :: wA0
set_option maxHeartbeats 4000000 in
set_option maxRecDepth 100000 in
theorem bX7_synchronizes_0 (X : gC p s m args meth c cX7_synchronizes 4 wmX7_synchronizes yX7_synchronizes.cls (some .int) G A) {r : Int32 × Mem} (kI : ∀ (pc : Nat) (ls : Array Slot) (H : Heap) (locs : List Loc), decode cX7_synchronizes pc = .ok (.ireturn, 1) → WS wM G r.2 A s.heap H locs → narrow .int (.int r.1) = .int r.1 → W p l e { frames := 2, cells := 0, slots := 0, locals := 44 } s m args below meth c H locs 0 0 Q (F0 m pc ls [.int r.1])) : ∀ (g : Mem) (x1 : Int32) (x2 : Int32) (H : Heap) (locs : List Loc) (ls : Array Slot), WS wM G g A s.heap H locs → lv_has ls 4 [(0, .ref (G.1 0)), (1, .int x1), (2, .int x2)] → sX7_synchronizes g x1 x2 = some r → W p l e { frames := 2, cells := 0, slots := 0, locals := 44 } s m args below meth c H locs 0 0 Q (F0 m 0 ls []) := by
  have hx := X.1
  have hb := X.2.1
  intro g x1 x2 H locs ls Z hl hm
  unfold sX7_synchronizes at hm
  refine lv_aload_n hx hb dX7_synchronizes_0 rfl (lv_at hl 0 rfl) ?_
  refine lv_iload_n hx hb dX7_synchronizes_1 rfl (lv_at hl 1 rfl) ?_
  refine lv_aload_n hx hb dX7_synchronizes_2 rfl (lv_at hl 0 rfl) ?_
  refine g_get (j := 0) (v := .ref (G.1 1)) X Z oX7 (iB7 _) rfl (by decide) rfl (List.mem_cons_of_mem _ mB602) rfl dX7_synchronizes_3 ?_
  refine lv_iconst (v := 0) hx hb dX7_synchronizes_6 (by decide) ?_
  obtain ⟨b1, hm⟩ := sIdx_some hm
  refine g_iald X Z aM1 b1 dX7_synchronizes_7 ?_
  obtain ⟨r4, e2, hm⟩ := sBi_some hm
  refine g_callVI (n := 2) (As := [.int x1, .int (g 1 (0 : Int32).toNatClampNeg)]) (rest := []) sameM X Z (cX7_offset_c l e2) oX7 rfl (gooV mB631 mB632 mB633 mB614 mB623) rfl (by decide +kernel) rfl ⟨Nat.le_of_ble_eq_true rfl, Nat.le_of_ble_eq_true rfl⟩ ⟨Nat.le_of_ble_eq_true rfl, Nat.le_of_ble_eq_true rfl⟩ hl.1 rfl (Nat.le_of_ble_eq_true rfl) dX7_synchronizes_8 (fun w3 H locs Z => ?_)
  refine lv_istore_n (lv' := [(3, .int r4), (0, .ref (G.1 0)), (1, .int x1), (2, .int x2)]) hx hb dX7_synchronizes_11 rfl hl (by decide) rfl (fun ls hl => ?_)
  refine lv_aload_n hx hb dX7_synchronizes_12 rfl (lv_at hl 1 rfl) ?_
  refine lv_iload_n hx hb dX7_synchronizes_13 rfl (lv_at hl 2 rfl) ?_
  refine lv_iconst (v := 0) hx hb dX7_synchronizes_14 (by decide) ?_
  refine lv_iload_n hx hb dX7_synchronizes_15 rfl (lv_at hl 3 rfl) ?_
  obtain ⟨g7, e5, hm⟩ := sBi_some hm
  refine g_callVV (n := 3) (As := [.int x1, .int 0, .int x2]) (rest := []) sameM X Z (cX7_sets_c l e5) oX7 rfl (gooV mB739 mB740 mB741 mB614 mB622) rfl (by decide +kernel) rfl ⟨Nat.le_of_ble_eq_true rfl, Nat.le_of_ble_eq_true rfl⟩ ⟨Nat.le_of_ble_eq_true rfl, Nat.le_of_ble_eq_true rfl⟩ hl.1 rfl (Nat.le_of_ble_eq_true rfl) dX7_synchronizes_16 (fun H locs Z => ?_)
  refine lv_aload_n hx hb dX7_synchronizes_19 rfl (lv_at hl 1 rfl) ?_
  refine lv_iload_n hx hb dX7_synchronizes_20 rfl (lv_at hl 2 rfl) ?_
  refine lv_iconst (v := 1) hx hb dX7_synchronizes_21 (by decide) ?_
  refine lv_aload_n hx hb dX7_synchronizes_22 rfl (lv_at hl 1 rfl) ?_
  refine g_get (j := 0) (v := .ref (G.1 1)) X Z oX7 (iB7 _) rfl (by decide) rfl (List.mem_cons_of_mem _ mB602) rfl dX7_synchronizes_23 ?_
  refine lv_iconst (v := 0) hx hb dX7_synchronizes_26 (by decide) ?_
  obtain ⟨b8, hm⟩ := sIdx_some hm
  refine g_iald X Z aM1 b8 dX7_synchronizes_27 ?_
  obtain ⟨g11, e9, hm⟩ := sBi_some hm
  refine g_callVV (n := 3) (As := [.int x1, .int 1, .int (g7 1 (0 : Int32).toNatClampNeg)]) (rest := []) sameM X Z (cX7_sets_c l e9) oX7 rfl (gooV mB739 mB740 mB741 mB614 mB622) rfl (by decide +kernel) rfl ⟨Nat.le_of_ble_eq_true rfl, Nat.le_of_ble_eq_true rfl⟩ ⟨Nat.le_of_ble_eq_true rfl, Nat.le_of_ble_eq_true rfl⟩ hl.1 rfl (Nat.le_of_ble_eq_true rfl) dX7_synchronizes_28 (fun H locs Z => ?_)
  refine lv_aload_n hx hb dX7_synchronizes_31 rfl (lv_at hl 1 rfl) ?_
  refine lv_iload_n hx hb dX7_synchronizes_32 rfl (lv_at hl 2 rfl) ?_
  refine lv_iconst (v := 5) hx hb dX7_synchronizes_33 (by decide) ?_
  refine lv_aload_n hx hb dX7_synchronizes_34 rfl (lv_at hl 1 rfl) ?_
  refine g_get (j := 0) (v := .ref (G.1 1)) X Z oX7 (iB7 _) rfl (by decide) rfl (List.mem_cons_of_mem _ mB602) rfl dX7_synchronizes_35 ?_
  refine lv_iconst (v := 0) hx hb dX7_synchronizes_38 (by decide) ?_
  obtain ⟨b12, hm⟩ := sIdx_some hm
  refine g_iald X Z aM1 b12 dX7_synchronizes_39 ?_
  obtain ⟨g15, e13, hm⟩ := sBi_some hm
  refine g_callVV (n := 3) (As := [.int x1, .int 5, .int (g11 1 (0 : Int32).toNatClampNeg)]) (rest := []) sameM X Z (cX7_sets_c l e13) oX7 rfl (gooV mB739 mB740 mB741 mB614 mB622) rfl (by decide +kernel) rfl ⟨Nat.le_of_ble_eq_true rfl, Nat.le_of_ble_eq_true rfl⟩ ⟨Nat.le_of_ble_eq_true rfl, Nat.le_of_ble_eq_true rfl⟩ hl.1 rfl (Nat.le_of_ble_eq_true rfl) dX7_synchronizes_40 (fun H locs Z => ?_)
  refine lv_iload_n hx hb dX7_synchronizes_43 rfl (lv_at hl 3 rfl) ?_
  refine lv_iload_n hx hb dX7_synchronizes_44 rfl (lv_at hl 0 rfl) ?_
  refine lv_isub hx hb dX7_synchronizes_45 ?_
  obtain rfl := Option.some.inj hm
  exact kI _ _ _ _ dX7_synchronizes_46 Z (vp_nar_int _)
theorem cX7_synchronizes_c (l : Launch) {G : LY} {g : Mem} {x1 : Int32} {x2 : Int32} {r : Int32 × Mem} (hm : sX7_synchronizes g x1 x2 = some r) : cI l yX7_synchronizes wmX7_synchronizes 2 44 .int wM G [.ref (G.1 0), .int x1, .int x2] g r.1 r.2 :=
  mk_cI sameM (by decide +kernel) rfl (Nat.le_of_ble_eq_true rfl) (fun p e s m args below meth c A Q ls X kI hl Z => bX7_synchronizes_0 X kI g x1 x2 _ _ ls Z hl hm)
abbrev wmX7_begin : List Cond := Cond.code yX7_begin cX7_begin 2 (some .int) :: wA0
set_option maxHeartbeats 4000000 in
set_option maxRecDepth 100000 in
theorem bX7_begin_0 (X : gC p s m args meth c cX7_begin 2 wmX7_begin yX7_begin.cls (some .int) G A) {n : Nat} {r : Int32 × Mem} (kI : ∀ (pc : Nat) (ls : Array Slot) (H : Heap) (locs : List Loc), decode cX7_begin pc = .ok (.ireturn, 1) → WS wM G r.2 A s.heap H locs → narrow .int (.int r.1) = .int r.1 → W p l e { frames := 3, cells := 0, slots := 0, locals := 63 } s m args below meth c H locs 0 0 Q (F0 m pc ls [.int r.1])) : ∀ (g : Mem) (x1 : Int32) (H : Heap) (locs : List Loc) (ls : Array Slot), WS wM G g A s.heap H locs → lv_has ls 2 [(0, .ref (G.1 0)), (1, .int x1)] → sX7_begin n g x1 = some r → W p l e { frames := 3, cells := 0, slots := 0, locals := 63 } s m args below meth c H locs 0 0 Q (F0 m 0 ls []) := by
  have hx := X.1
  have hb := X.2.1
  intro g x1 H locs ls Z hl hm
  unfold sX7_begin at hm
  refine lv_aload_n hx hb dX7_begin_0 rfl (lv_at hl 0 rfl) ?_
  refine lv_aload_n hx hb dX7_begin_1 rfl (lv_at hl 0 rfl) ?_
  refine lv_iload_n hx hb dX7_begin_2 rfl (lv_at hl 1 rfl) ?_
  obtain ⟨r3, e1, hm⟩ := sBi_some hm
  refine g_callVI (n := 1) (As := [.int x1]) (rest := [.ref (G.1 0)]) sameM X Z (cX7_whyNotBegin_c l e1) oX7 rfl (gooV mB742 mB743 mB744 mB614 mB704) rfl (by decide +kernel) rfl ⟨Nat.le_of_ble_eq_true rfl, Nat.le_of_ble_eq_true rfl⟩ ⟨Nat.le_of_ble_eq_true rfl, Nat.le_of_ble_eq_true rfl⟩ hl.1 rfl (Nat.le_of_ble_eq_true rfl) dX7_begin_3 (fun w2 H locs Z => ?_)
  obtain ⟨r6, g7, e4, hm⟩ := sBi2_some hm
  refine g_callVI (n := 1) (As := [.int r3]) (rest := []) sameM X Z (cX7_throwsAt_c l e4) oX7 rfl (gooV mB745 mB746 mB747 mB614 mB609) rfl (by decide +kernel) rfl ⟨Nat.le_of_ble_eq_true rfl, Nat.le_of_ble_eq_true rfl⟩ ⟨Nat.le_of_ble_eq_true rfl, Nat.le_of_ble_eq_true rfl⟩ hl.1 rfl (Nat.le_of_ble_eq_true rfl) dX7_begin_6 (fun w5 H locs Z => ?_)
  refine lv_if_eq (tgt := 14) hx hb dX7_begin_9 (by decide) (fun c8 => ?_) (fun c8 => ?_)
  · replace hm := (if_pos c8).symm.trans hm
    refine lv_aload_n hx hb dX7_begin_14 rfl (lv_at hl 0 rfl) ?_
    obtain ⟨g11, e9, hm⟩ := sBi_some hm
    refine g_callVV (n := 0) (As := []) (rest := []) sameM X Z (cX7_saves_c l e9) oX7 rfl (gooV mB748 mB749 mB750 mB614 mB618) rfl (by decide +kernel) rfl ⟨Nat.le_of_ble_eq_true rfl, Nat.le_of_ble_eq_true rfl⟩ ⟨Nat.le_of_ble_eq_true rfl, Nat.le_of_ble_eq_true rfl⟩ hl.1 rfl (Nat.le_of_ble_eq_true rfl) dX7_begin_15 (fun H locs Z => ?_)
    refine lv_aload_n hx hb dX7_begin_18 rfl (lv_at hl 0 rfl) ?_
    refine lv_iload_n hx hb dX7_begin_19 rfl (lv_at hl 1 rfl) ?_
    obtain ⟨r14, g15, e12, hm⟩ := sBi2_some hm
    refine g_callVI (n := 1) (As := [.int x1]) (rest := []) sameM X Z (cX7_begins_c l e12) oX7 rfl (gooV mB751 mB752 mB753 mB614 mB721) rfl (by decide +kernel) rfl ⟨Nat.le_of_ble_eq_true rfl, Nat.le_of_ble_eq_true rfl⟩ ⟨Nat.le_of_ble_eq_true rfl, Nat.le_of_ble_eq_true rfl⟩ hl.1 rfl (Nat.le_of_ble_eq_true rfl) dX7_begin_20 (fun w13 H locs Z => ?_)
    obtain rfl := Option.some.inj hm
    exact kI _ _ _ _ dX7_begin_23 Z (vp_nar_int _)
  · replace hm := (if_neg c8).symm.trans hm
    refine lv_iconst (v := 0) hx hb dX7_begin_12 (by decide) ?_
    obtain rfl := Option.some.inj hm
    exact kI _ _ _ _ dX7_begin_13 Z (vp_nar_int _)
theorem cX7_begin_c (l : Launch) {G : LY} {g : Mem} {n : Nat} {x1 : Int32} {r : Int32 × Mem} (hm : sX7_begin n g x1 = some r) : cI l yX7_begin wmX7_begin 3 63 .int wM G [.ref (G.1 0), .int x1] g r.1 r.2 :=
  mk_cI sameM (by decide +kernel) rfl (Nat.le_of_ble_eq_true rfl) (fun p e s m args below meth c A Q ls X kI hl Z => bX7_begin_0 X kI g x1 _ _ ls Z hl hm)
abbrev wmX7_read : List Cond := Cond.code yX7_read cX7_read 3 (some .int) :: wA0
set_option maxHeartbeats 4000000 in
set_option maxRecDepth 100000 in
theorem bX7_read_0 (X : gC p s m args meth c cX7_read 3 wmX7_read yX7_read.cls (some .int) G A) {n : Nat} {r : Int32 × Mem} (kI : ∀ (pc : Nat) (ls : Array Slot) (H : Heap) (locs : List Loc), decode cX7_read pc = .ok (.ireturn, 1) → WS wM G r.2 A s.heap H locs → narrow .int (.int r.1) = .int r.1 → W p l e { frames := 6, cells := 0, slots := 0, locals := 135 } s m args below meth c H locs 0 0 Q (F0 m pc ls [.int r.1])) : ∀ (g : Mem) (x1 : Int32) (x2 : Int32) (H : Heap) (locs : List Loc) (ls : Array Slot), WS wM G g A s.heap H locs → lv_has ls 3 [(0, .ref (G.1 0)), (1, .int x1), (2, .int x2)] → sX7_read n g x1 x2 = some r → W p l e { frames := 6, cells := 0, slots := 0, locals := 135 } s m args below meth c H locs 0 0 Q (F0 m 0 ls []) := by
  have hx := X.1
  have hb := X.2.1
  intro g x1 x2 H locs ls Z hl hm
  unfold sX7_read at hm
  refine lv_aload_n hx hb dX7_read_0 rfl (lv_at hl 0 rfl) ?_
  refine lv_aload_n hx hb dX7_read_1 rfl (lv_at hl 0 rfl) ?_
  refine lv_iload_n hx hb dX7_read_2 rfl (lv_at hl 1 rfl) ?_
  refine lv_iload_n hx hb dX7_read_3 rfl (lv_at hl 2 rfl) ?_
  obtain ⟨r3, e1, hm⟩ := sBi_some hm
  refine g_callVI (n := 2) (As := [.int x1, .int x2]) (rest := [.ref (G.1 0)]) sameM X Z (cX7_whyNotRead_c l e1) oX7 rfl (gooV mB755 mB756 mB757 mB614 mB711) rfl (by decide +kernel) rfl ⟨Nat.le_of_ble_eq_true rfl, Nat.le_of_ble_eq_true rfl⟩ ⟨Nat.le_of_ble_eq_true rfl, Nat.le_of_ble_eq_true rfl⟩ hl.1 rfl (Nat.le_of_ble_eq_true rfl) dX7_read_4 (fun w2 H locs Z => ?_)
  obtain ⟨r6, g7, e4, hm⟩ := sBi2_some hm
  refine g_callVI (n := 1) (As := [.int r3]) (rest := []) sameM X Z (cX7_throwsAt_c l e4) oX7 rfl (gooV mB745 mB746 mB747 mB614 mB609) rfl (by decide +kernel) rfl ⟨Nat.le_of_ble_eq_true rfl, Nat.le_of_ble_eq_true rfl⟩ ⟨Nat.le_of_ble_eq_true rfl, Nat.le_of_ble_eq_true rfl⟩ hl.1 rfl (Nat.le_of_ble_eq_true rfl) dX7_read_7 (fun w5 H locs Z => ?_)
  refine lv_if_eq (tgt := 15) hx hb dX7_read_10 (by decide) (fun c8 => ?_) (fun c8 => ?_)
  · replace hm := (if_pos c8).symm.trans hm
    refine lv_aload_n hx hb dX7_read_15 rfl (lv_at hl 0 rfl) ?_
    obtain ⟨g11, e9, hm⟩ := sBi_some hm
    refine g_callVV (n := 0) (As := []) (rest := []) sameM X Z (cX7_saves_c l e9) oX7 rfl (gooV mB748 mB749 mB750 mB614 mB618) rfl (by decide +kernel) rfl ⟨Nat.le_of_ble_eq_true rfl, Nat.le_of_ble_eq_true rfl⟩ ⟨Nat.le_of_ble_eq_true rfl, Nat.le_of_ble_eq_true rfl⟩ hl.1 rfl (Nat.le_of_ble_eq_true rfl) dX7_read_16 (fun H locs Z => ?_)
    refine lv_aload_n hx hb dX7_read_19 rfl (lv_at hl 0 rfl) ?_
    refine lv_iload_n hx hb dX7_read_20 rfl (lv_at hl 1 rfl) ?_
    refine lv_iload_n hx hb dX7_read_21 rfl (lv_at hl 2 rfl) ?_
    obtain ⟨r14, g15, e12, hm⟩ := sBi2_some hm
    refine g_callVI (n := 2) (As := [.int x1, .int x2]) (rest := []) sameM X Z (cX7_reads_c l e12) oX7 rfl (gooV mB758 mB759 mB760 mB614 mB728) rfl (by decide +kernel) rfl ⟨Nat.le_of_ble_eq_true rfl, Nat.le_of_ble_eq_true rfl⟩ ⟨Nat.le_of_ble_eq_true rfl, Nat.le_of_ble_eq_true rfl⟩ hl.1 rfl (Nat.le_of_ble_eq_true rfl) dX7_read_22 (fun w13 H locs Z => ?_)
    obtain rfl := Option.some.inj hm
    exact kI _ _ _ _ dX7_read_25 Z (vp_nar_int _)
  · replace hm := (if_neg c8).symm.trans hm
    refine lv_iconst (v := 0) hx hb dX7_read_13 (by decide) ?_
    obtain rfl := Option.some.inj hm
    exact kI _ _ _ _ dX7_read_14 Z (vp_nar_int _)
theorem cX7_read_c (l : Launch) {G : LY} {g : Mem} {n : Nat} {x1 : Int32} {x2 : Int32} {r : Int32 × Mem} (hm : sX7_read n g x1 x2 = some r) : cI l yX7_read wmX7_read 6 135 .int wM G [.ref (G.1 0), .int x1, .int x2] g r.1 r.2 :=
  mk_cI sameM (by decide +kernel) rfl (Nat.le_of_ble_eq_true rfl) (fun p e s m args below meth c A Q ls X kI hl Z => bX7_read_0 X kI g x1 x2 _ _ ls Z hl hm)
abbrev wmX7_write : List Cond := Cond.code yX7_write cX7_write 4 (some .int) :: wA0
set_option maxHeartbeats 4000000 in
set_option maxRecDepth 100000 in
theorem bX7_write_0 (X : gC p s m args meth c cX7_write 4 wmX7_write yX7_write.cls (some .int) G A) {n : Nat} {r : Int32 × Mem} (kI : ∀ (pc : Nat) (ls : Array Slot) (H : Heap) (locs : List Loc), decode cX7_write pc = .ok (.ireturn, 1) → WS wM G r.2 A s.heap H locs → narrow .int (.int r.1) = .int r.1 → W p l e { frames := 4, cells := 0, slots := 0, locals := 90 } s m args below meth c H locs 0 0 Q (F0 m pc ls [.int r.1])) : ∀ (g : Mem) (x1 : Int32) (x2 : Int32) (x3 : Int32) (H : Heap) (locs : List Loc) (ls : Array Slot), WS wM G g A s.heap H locs → lv_has ls 4 [(0, .ref (G.1 0)), (1, .int x1), (2, .int x2), (3, .int x3)] → sX7_write n g x1 x2 x3 = some r → W p l e { frames := 4, cells := 0, slots := 0, locals := 90 } s m args below meth c H locs 0 0 Q (F0 m 0 ls []) := by
  have hx := X.1
  have hb := X.2.1
  intro g x1 x2 x3 H locs ls Z hl hm
  unfold sX7_write at hm
  refine lv_aload_n hx hb dX7_write_0 rfl (lv_at hl 0 rfl) ?_
  refine lv_aload_n hx hb dX7_write_1 rfl (lv_at hl 0 rfl) ?_
  refine lv_iload_n hx hb dX7_write_2 rfl (lv_at hl 1 rfl) ?_
  refine lv_iload_n hx hb dX7_write_3 rfl (lv_at hl 2 rfl) ?_
  refine lv_iload_n hx hb dX7_write_4 rfl (lv_at hl 3 rfl) ?_
  obtain ⟨r3, e1, hm⟩ := sBi_some hm
  refine g_callVI (n := 3) (As := [.int x1, .int x2, .int x3]) (rest := [.ref (G.1 0)]) sameM X Z (cX7_whyNotWrite_c l e1) oX7 rfl (gooV mB762 mB763 mB764 mB614 mB717) rfl (by decide +kernel) rfl ⟨Nat.le_of_ble_eq_true rfl, Nat.le_of_ble_eq_true rfl⟩ ⟨Nat.le_of_ble_eq_true rfl, Nat.le_of_ble_eq_true rfl⟩ hl.1 rfl (Nat.le_of_ble_eq_true rfl) dX7_write_5 (fun w2 H locs Z => ?_)
  obtain ⟨r6, g7, e4, hm⟩ := sBi2_some hm
  refine g_callVI (n := 1) (As := [.int r3]) (rest := []) sameM X Z (cX7_throwsAt_c l e4) oX7 rfl (gooV mB745 mB746 mB747 mB614 mB609) rfl (by decide +kernel) rfl ⟨Nat.le_of_ble_eq_true rfl, Nat.le_of_ble_eq_true rfl⟩ ⟨Nat.le_of_ble_eq_true rfl, Nat.le_of_ble_eq_true rfl⟩ hl.1 rfl (Nat.le_of_ble_eq_true rfl) dX7_write_8 (fun w5 H locs Z => ?_)
  refine lv_if_eq (tgt := 16) hx hb dX7_write_11 (by decide) (fun c8 => ?_) (fun c8 => ?_)
  · replace hm := (if_pos c8).symm.trans hm
    refine lv_aload_n hx hb dX7_write_16 rfl (lv_at hl 0 rfl) ?_
    obtain ⟨g11, e9, hm⟩ := sBi_some hm
    refine g_callVV (n := 0) (As := []) (rest := []) sameM X Z (cX7_saves_c l e9) oX7 rfl (gooV mB748 mB749 mB750 mB614 mB618) rfl (by decide +kernel) rfl ⟨Nat.le_of_ble_eq_true rfl, Nat.le_of_ble_eq_true rfl⟩ ⟨Nat.le_of_ble_eq_true rfl, Nat.le_of_ble_eq_true rfl⟩ hl.1 rfl (Nat.le_of_ble_eq_true rfl) dX7_write_17 (fun H locs Z => ?_)
    refine lv_aload_n hx hb dX7_write_20 rfl (lv_at hl 0 rfl) ?_
    refine lv_iload_n hx hb dX7_write_21 rfl (lv_at hl 1 rfl) ?_
    refine lv_iload_n hx hb dX7_write_22 rfl (lv_at hl 2 rfl) ?_
    refine lv_iload_n hx hb dX7_write_23 rfl (lv_at hl 3 rfl) ?_
    obtain ⟨r14, g15, e12, hm⟩ := sBi2_some hm
    refine g_callVI (n := 3) (As := [.int x1, .int x2, .int x3]) (rest := []) sameM X Z (cX7_writes_c l e12) oX7 rfl (gooV mB765 mB766 mB767 mB614 mB729) rfl (by decide +kernel) rfl ⟨Nat.le_of_ble_eq_true rfl, Nat.le_of_ble_eq_true rfl⟩ ⟨Nat.le_of_ble_eq_true rfl, Nat.le_of_ble_eq_true rfl⟩ hl.1 rfl (Nat.le_of_ble_eq_true rfl) dX7_write_24 (fun w13 H locs Z => ?_)
    obtain rfl := Option.some.inj hm
    exact kI _ _ _ _ dX7_write_27 Z (vp_nar_int _)
  · replace hm := (if_neg c8).symm.trans hm
    refine lv_iconst (v := 0) hx hb dX7_write_14 (by decide) ?_
    obtain rfl := Option.some.inj hm
    exact kI _ _ _ _ dX7_write_15 Z (vp_nar_int _)
theorem cX7_write_c (l : Launch) {G : LY} {g : Mem} {n : Nat} {x1 : Int32} {x2 : Int32} {x3 : Int32} {r : Int32 × Mem} (hm : sX7_write n g x1 x2 x3 = some r) : cI l yX7_write wmX7_write 4 90 .int wM G [.ref (G.1 0), .int x1, .int x2, .int x3] g r.1 r.2 :=
  mk_cI sameM (by decide +kernel) rfl (Nat.le_of_ble_eq_true rfl) (fun p e s m args below meth c A Q ls X kI hl Z => bX7_write_0 X kI g x1 x2 x3 _ _ ls Z hl hm)
abbrev wmX7_commit : List Cond := Cond.code yX7_commit cX7_commit 3 (some .int) :: wA0
set_option maxHeartbeats 4000000 in
set_option maxRecDepth 100000 in
theorem bX7_commit_0 (X : gC p s m args meth c cX7_commit 3 wmX7_commit yX7_commit.cls (some .int) G A) {n : Nat} {r : Int32 × Mem} (kI : ∀ (pc : Nat) (ls : Array Slot) (H : Heap) (locs : List Loc), decode cX7_commit pc = .ok (.ireturn, 1) → WS wM G r.2 A s.heap H locs → narrow .int (.int r.1) = .int r.1 → W p l e { frames := 7, cells := 0, slots := 0, locals := 157 } s m args below meth c H locs 0 0 Q (F0 m pc ls [.int r.1])) : ∀ (g : Mem) (x1 : Int32) (H : Heap) (locs : List Loc) (ls : Array Slot), WS wM G g A s.heap H locs → lv_has ls 3 [(0, .ref (G.1 0)), (1, .int x1)] → sX7_commit n g x1 = some r → W p l e { frames := 7, cells := 0, slots := 0, locals := 157 } s m args below meth c H locs 0 0 Q (F0 m 0 ls []) := by
  have hx := X.1
  have hb := X.2.1
  intro g x1 H locs ls Z hl hm
  unfold sX7_commit at hm
  refine lv_aload_n hx hb dX7_commit_0 rfl (lv_at hl 0 rfl) ?_
  refine lv_aload_n hx hb dX7_commit_1 rfl (lv_at hl 0 rfl) ?_
  refine lv_iload_n hx hb dX7_commit_2 rfl (lv_at hl 1 rfl) ?_
  obtain ⟨r3, e1, hm⟩ := sBi_some hm
  refine g_callVI (n := 1) (As := [.int x1]) (rest := [.ref (G.1 0)]) sameM X Z (cX7_whyNot_c l e1) oX7 rfl (gooV mB714 mB715 mB716 mB614 mB707) rfl (by decide +kernel) rfl ⟨Nat.le_of_ble_eq_true rfl, Nat.le_of_ble_eq_true rfl⟩ ⟨Nat.le_of_ble_eq_true rfl, Nat.le_of_ble_eq_true rfl⟩ hl.1 rfl (Nat.le_of_ble_eq_true rfl) dX7_commit_3 (fun w2 H locs Z => ?_)
  obtain ⟨r6, g7, e4, hm⟩ := sBi2_some hm
  refine g_callVI (n := 1) (As := [.int r3]) (rest := []) sameM X Z (cX7_throwsAt_c l e4) oX7 rfl (gooV mB745 mB746 mB747 mB614 mB609) rfl (by decide +kernel) rfl ⟨Nat.le_of_ble_eq_true rfl, Nat.le_of_ble_eq_true rfl⟩ ⟨Nat.le_of_ble_eq_true rfl, Nat.le_of_ble_eq_true rfl⟩ hl.1 rfl (Nat.le_of_ble_eq_true rfl) dX7_commit_6 (fun w5 H locs Z => ?_)
  refine lv_if_eq (tgt := 14) hx hb dX7_commit_9 (by decide) (fun c8 => ?_) (fun c8 => ?_)
  · replace hm := (if_pos c8).symm.trans hm
    refine lv_aload_n hx hb dX7_commit_14 rfl (lv_at hl 0 rfl) ?_
    refine lv_iload_n hx hb dX7_commit_15 rfl (lv_at hl 1 rfl) ?_
    obtain ⟨r11, e9, hm⟩ := sBi_some hm
    refine g_callVI (n := 1) (As := [.int x1]) (rest := []) sameM X Z (cX7_outcome_c l e9) oX7 rfl (gooV mB769 mB770 mB771 mB614 mB703) rfl (by decide +kernel) rfl ⟨Nat.le_of_ble_eq_true rfl, Nat.le_of_ble_eq_true rfl⟩ ⟨Nat.le_of_ble_eq_true rfl, Nat.le_of_ble_eq_true rfl⟩ hl.1 rfl (Nat.le_of_ble_eq_true rfl) dX7_commit_16 (fun w10 H locs Z => ?_)
    refine lv_istore_n (lv' := [(2, .int r11), (0, .ref (G.1 0)), (1, .int x1)]) hx hb dX7_commit_19 rfl hl (by decide) rfl (fun ls hl => ?_)
    refine lv_iload_n hx hb dX7_commit_20 rfl (lv_at hl 0 rfl) ?_
    refine lv_bipush (v := (-3)) hx hb dX7_commit_21 (by decide) ?_
    refine lv_icmp_eq (tgt := 36) hx hb dX7_commit_23 (by decide) (fun c12 => ?_) (fun c12 => ?_)
    · replace hm := (if_pos c12).symm.trans hm
      refine lv_iload_n hx hb dX7_commit_36 rfl (lv_at hl 0 rfl) ?_
      obtain rfl := Option.some.inj hm
      exact kI _ _ _ _ dX7_commit_37 Z (vp_nar_int _)
    · replace hm := (if_neg c12).symm.trans hm
      refine lv_aload_n hx hb dX7_commit_26 rfl (lv_at hl 1 rfl) ?_
      obtain ⟨g15, e13, hm⟩ := sBi_some hm
      refine g_callVV (n := 0) (As := []) (rest := []) sameM X Z (cX7_saves_c l e13) oX7 rfl (gooV mB748 mB749 mB750 mB614 mB618) rfl (by decide +kernel) rfl ⟨Nat.le_of_ble_eq_true rfl, Nat.le_of_ble_eq_true rfl⟩ ⟨Nat.le_of_ble_eq_true rfl, Nat.le_of_ble_eq_true rfl⟩ hl.1 rfl (Nat.le_of_ble_eq_true rfl) dX7_commit_27 (fun H locs Z => ?_)
      refine lv_aload_n hx hb dX7_commit_30 rfl (lv_at hl 1 rfl) ?_
      refine lv_iload_n hx hb dX7_commit_31 rfl (lv_at hl 2 rfl) ?_
      refine lv_iload_n hx hb dX7_commit_32 rfl (lv_at hl 0 rfl) ?_
      obtain ⟨g18, e16, hm⟩ := sBi_some hm
      refine g_callVV (n := 2) (As := [.int x1, .int r11]) (rest := []) sameM X Z (cX7_requests_c l e16) oX7 rfl (gooV mB772 mB773 mB774 mB614 mB736) rfl (by decide +kernel) rfl ⟨Nat.le_of_ble_eq_true rfl, Nat.le_of_ble_eq_true rfl⟩ ⟨Nat.le_of_ble_eq_true rfl, Nat.le_of_ble_eq_true rfl⟩ hl.1 rfl (Nat.le_of_ble_eq_true rfl) dX7_commit_33 (fun H locs Z => ?_)
      refine lv_iload_n hx hb dX7_commit_36 rfl (lv_at hl 0 rfl) ?_
      obtain rfl := Option.some.inj hm
      exact kI _ _ _ _ dX7_commit_37 Z (vp_nar_int _)
  · replace hm := (if_neg c8).symm.trans hm
    refine lv_iconst (v := 0) hx hb dX7_commit_12 (by decide) ?_
    obtain rfl := Option.some.inj hm
    exact kI _ _ _ _ dX7_commit_13 Z (vp_nar_int _)
theorem cX7_commit_c (l : Launch) {G : LY} {g : Mem} {n : Nat} {x1 : Int32} {r : Int32 × Mem} (hm : sX7_commit n g x1 = some r) : cI l yX7_commit wmX7_commit 7 157 .int wM G [.ref (G.1 0), .int x1] g r.1 r.2 :=
  mk_cI sameM (by decide +kernel) rfl (Nat.le_of_ble_eq_true rfl) (fun p e s m args below meth c A Q ls X kI hl Z => bX7_commit_0 X kI g x1 _ _ ls Z hl hm)
abbrev wmX7_abort : List Cond := Cond.code yX7_abort cX7_abort 2 (some .int) :: wA0
set_option maxHeartbeats 4000000 in
set_option maxRecDepth 100000 in
theorem bX7_abort_0 (X : gC p s m args meth c cX7_abort 2 wmX7_abort yX7_abort.cls (some .int) G A) {n : Nat} {r : Int32 × Mem} (kI : ∀ (pc : Nat) (ls : Array Slot) (H : Heap) (locs : List Loc), decode cX7_abort pc = .ok (.ireturn, 1) → WS wM G r.2 A s.heap H locs → narrow .int (.int r.1) = .int r.1 → W p l e { frames := 3, cells := 0, slots := 0, locals := 67 } s m args below meth c H locs 0 0 Q (F0 m pc ls [.int r.1])) : ∀ (g : Mem) (x1 : Int32) (H : Heap) (locs : List Loc) (ls : Array Slot), WS wM G g A s.heap H locs → lv_has ls 2 [(0, .ref (G.1 0)), (1, .int x1)] → sX7_abort n g x1 = some r → W p l e { frames := 3, cells := 0, slots := 0, locals := 67 } s m args below meth c H locs 0 0 Q (F0 m 0 ls []) := by
  have hx := X.1
  have hb := X.2.1
  intro g x1 H locs ls Z hl hm
  unfold sX7_abort at hm
  refine lv_aload_n hx hb dX7_abort_0 rfl (lv_at hl 0 rfl) ?_
  refine lv_aload_n hx hb dX7_abort_1 rfl (lv_at hl 0 rfl) ?_
  refine lv_iload_n hx hb dX7_abort_2 rfl (lv_at hl 1 rfl) ?_
  obtain ⟨r3, e1, hm⟩ := sBi_some hm
  refine g_callVI (n := 1) (As := [.int x1]) (rest := [.ref (G.1 0)]) sameM X Z (cX7_whyNot_c l e1) oX7 rfl (gooV mB714 mB715 mB716 mB614 mB707) rfl (by decide +kernel) rfl ⟨Nat.le_of_ble_eq_true rfl, Nat.le_of_ble_eq_true rfl⟩ ⟨Nat.le_of_ble_eq_true rfl, Nat.le_of_ble_eq_true rfl⟩ hl.1 rfl (Nat.le_of_ble_eq_true rfl) dX7_abort_3 (fun w2 H locs Z => ?_)
  obtain ⟨r6, g7, e4, hm⟩ := sBi2_some hm
  refine g_callVI (n := 1) (As := [.int r3]) (rest := []) sameM X Z (cX7_throwsAt_c l e4) oX7 rfl (gooV mB745 mB746 mB747 mB614 mB609) rfl (by decide +kernel) rfl ⟨Nat.le_of_ble_eq_true rfl, Nat.le_of_ble_eq_true rfl⟩ ⟨Nat.le_of_ble_eq_true rfl, Nat.le_of_ble_eq_true rfl⟩ hl.1 rfl (Nat.le_of_ble_eq_true rfl) dX7_abort_6 (fun w5 H locs Z => ?_)
  refine lv_if_eq (tgt := 14) hx hb dX7_abort_9 (by decide) (fun c8 => ?_) (fun c8 => ?_)
  · replace hm := (if_pos c8).symm.trans hm
    refine lv_aload_n hx hb dX7_abort_14 rfl (lv_at hl 0 rfl) ?_
    obtain ⟨g11, e9, hm⟩ := sBi_some hm
    refine g_callVV (n := 0) (As := []) (rest := []) sameM X Z (cX7_saves_c l e9) oX7 rfl (gooV mB748 mB749 mB750 mB614 mB618) rfl (by decide +kernel) rfl ⟨Nat.le_of_ble_eq_true rfl, Nat.le_of_ble_eq_true rfl⟩ ⟨Nat.le_of_ble_eq_true rfl, Nat.le_of_ble_eq_true rfl⟩ hl.1 rfl (Nat.le_of_ble_eq_true rfl) dX7_abort_15 (fun H locs Z => ?_)
    refine lv_aload_n hx hb dX7_abort_18 rfl (lv_at hl 0 rfl) ?_
    refine lv_bipush (v := 21) hx hb dX7_abort_19 (by decide) ?_
    refine lv_iload_n hx hb dX7_abort_21 rfl (lv_at hl 1 rfl) ?_
    refine lv_imul hx hb dX7_abort_22 ?_
    refine lv_iconst (v := 1) hx hb dX7_abort_23 (by decide) ?_
    refine lv_iadd hx hb dX7_abort_24 ?_
    refine lv_iconst (v := 3) hx hb dX7_abort_25 (by decide) ?_
    obtain ⟨g14, e12, hm⟩ := sBi_some hm
    refine g_callVV (n := 2) (As := [.int (((21 : Int32) * x1) + (1 : Int32)), .int 3]) (rest := []) sameM X Z (cX7_lays_c l e12) oX7 rfl (gooV mB722 mB723 mB724 mB614 mB650) rfl (by decide +kernel) rfl ⟨Nat.le_of_ble_eq_true rfl, Nat.le_of_ble_eq_true rfl⟩ ⟨Nat.le_of_ble_eq_true rfl, Nat.le_of_ble_eq_true rfl⟩ hl.1 rfl (Nat.le_of_ble_eq_true rfl) dX7_abort_26 (fun H locs Z => ?_)
    refine lv_aload_n hx hb dX7_abort_29 rfl (lv_at hl 0 rfl) ?_
    refine lv_iload_n hx hb dX7_abort_30 rfl (lv_at hl 1 rfl) ?_
    obtain ⟨r17, e15, hm⟩ := sBi_some hm
    refine g_callVI (n := 1) (As := [.int x1]) (rest := []) sameM X Z (cX7_written_c l e15) oX7 rfl (gooV mB730 mB731 mB732 mB614 mB656) rfl (by decide +kernel) rfl ⟨Nat.le_of_ble_eq_true rfl, Nat.le_of_ble_eq_true rfl⟩ ⟨Nat.le_of_ble_eq_true rfl, Nat.le_of_ble_eq_true rfl⟩ hl.1 rfl (Nat.le_of_ble_eq_true rfl) dX7_abort_31 (fun w16 H locs Z => ?_)
    obtain rfl := Option.some.inj hm
    exact kI _ _ _ _ dX7_abort_34 Z (vp_nar_int _)
  · replace hm := (if_neg c8).symm.trans hm
    refine lv_iconst (v := 0) hx hb dX7_abort_12 (by decide) ?_
    obtain rfl := Option.some.inj hm
    exact kI _ _ _ _ dX7_abort_13 Z (vp_nar_int _)
theorem cX7_abort_c (l : Launch) {G : LY} {g : Mem} {n : Nat} {x1 : Int32} {r : Int32 × Mem} (hm : sX7_abort n g x1 = some r) : cI l yX7_abort wmX7_abort 3 67 .int wM G [.ref (G.1 0), .int x1] g r.1 r.2 :=
  mk_cI sameM (by decide +kernel) rfl (Nat.le_of_ble_eq_true rfl) (fun p e s m args below meth c A Q ls X kI hl Z => bX7_abort_0 X kI g x1 _ _ ls Z hl hm)
abbrev wmX7_advance : List Cond := Cond.code yX7_advance cX7_advance 2 (some .int) :: wA0
set_option maxHeartbeats 4000000 in
set_option maxRecDepth 100000 in
theorem bX7_advance_0 (X : gC p s m args meth c cX7_advance 2 wmX7_advance yX7_advance.cls (some .int) G A) {n : Nat} {r : Int32 × Mem} (kI : ∀ (pc : Nat) (ls : Array Slot) (H : Heap) (locs : List Loc), decode cX7_advance pc = .ok (.ireturn, 1) → WS wM G r.2 A s.heap H locs → narrow .int (.int r.1) = .int r.1 → W p l e { frames := 6, cells := 0, slots := 0, locals := 133 } s m args below meth c H locs 0 0 Q (F0 m pc ls [.int r.1])) : ∀ (g : Mem) (x1 : Int32) (H : Heap) (locs : List Loc) (ls : Array Slot), WS wM G g A s.heap H locs → lv_has ls 2 [(0, .ref (G.1 0)), (1, .int x1)] → sX7_advance n g x1 = some r → W p l e { frames := 6, cells := 0, slots := 0, locals := 133 } s m args below meth c H locs 0 0 Q (F0 m 0 ls []) := by
  have hx := X.1
  have hb := X.2.1
  intro g x1 H locs ls Z hl hm
  unfold sX7_advance at hm
  refine lv_aload_n hx hb dX7_advance_0 rfl (lv_at hl 0 rfl) ?_
  refine lv_aload_n hx hb dX7_advance_1 rfl (lv_at hl 0 rfl) ?_
  refine lv_iload_n hx hb dX7_advance_2 rfl (lv_at hl 1 rfl) ?_
  obtain ⟨r3, e1, hm⟩ := sBi_some hm
  refine g_callVI (n := 1) (As := [.int x1]) (rest := [.ref (G.1 0)]) sameM X Z (cX7_whyNotAdvance_c l e1) oX7 rfl (gooV mB777 mB778 mB779 mB614 mB718) rfl (by decide +kernel) rfl ⟨Nat.le_of_ble_eq_true rfl, Nat.le_of_ble_eq_true rfl⟩ ⟨Nat.le_of_ble_eq_true rfl, Nat.le_of_ble_eq_true rfl⟩ hl.1 rfl (Nat.le_of_ble_eq_true rfl) dX7_advance_3 (fun w2 H locs Z => ?_)
  obtain ⟨r6, g7, e4, hm⟩ := sBi2_some hm
  refine g_callVI (n := 1) (As := [.int r3]) (rest := []) sameM X Z (cX7_throwsAt_c l e4) oX7 rfl (gooV mB745 mB746 mB747 mB614 mB609) rfl (by decide +kernel) rfl ⟨Nat.le_of_ble_eq_true rfl, Nat.le_of_ble_eq_true rfl⟩ ⟨Nat.le_of_ble_eq_true rfl, Nat.le_of_ble_eq_true rfl⟩ hl.1 rfl (Nat.le_of_ble_eq_true rfl) dX7_advance_6 (fun w5 H locs Z => ?_)
  refine lv_if_eq (tgt := 14) hx hb dX7_advance_9 (by decide) (fun c8 => ?_) (fun c8 => ?_)
  · replace hm := (if_pos c8).symm.trans hm
    refine lv_aload_n hx hb dX7_advance_14 rfl (lv_at hl 0 rfl) ?_
    obtain ⟨g11, e9, hm⟩ := sBi_some hm
    refine g_callVV (n := 0) (As := []) (rest := []) sameM X Z (cX7_saves_c l e9) oX7 rfl (gooV mB748 mB749 mB750 mB614 mB618) rfl (by decide +kernel) rfl ⟨Nat.le_of_ble_eq_true rfl, Nat.le_of_ble_eq_true rfl⟩ ⟨Nat.le_of_ble_eq_true rfl, Nat.le_of_ble_eq_true rfl⟩ hl.1 rfl (Nat.le_of_ble_eq_true rfl) dX7_advance_15 (fun H locs Z => ?_)
    refine lv_aload_n hx hb dX7_advance_18 rfl (lv_at hl 0 rfl) ?_
    refine lv_iload_n hx hb dX7_advance_19 rfl (lv_at hl 1 rfl) ?_
    obtain ⟨r14, g15, e12, hm⟩ := sBi2_some hm
    refine g_callVI (n := 1) (As := [.int x1]) (rest := []) sameM X Z (cX7_advances_c l e12) oX7 rfl (gooV mB780 mB781 mB782 mB614 mB737) rfl (by decide +kernel) rfl ⟨Nat.le_of_ble_eq_true rfl, Nat.le_of_ble_eq_true rfl⟩ ⟨Nat.le_of_ble_eq_true rfl, Nat.le_of_ble_eq_true rfl⟩ hl.1 rfl (Nat.le_of_ble_eq_true rfl) dX7_advance_20 (fun w13 H locs Z => ?_)
    obtain rfl := Option.some.inj hm
    exact kI _ _ _ _ dX7_advance_23 Z (vp_nar_int _)
  · replace hm := (if_neg c8).symm.trans hm
    refine lv_iconst (v := 0) hx hb dX7_advance_12 (by decide) ?_
    obtain rfl := Option.some.inj hm
    exact kI _ _ _ _ dX7_advance_13 Z (vp_nar_int _)
theorem cX7_advance_c (l : Launch) {G : LY} {g : Mem} {n : Nat} {x1 : Int32} {r : Int32 × Mem} (hm : sX7_advance n g x1 = some r) : cI l yX7_advance wmX7_advance 6 133 .int wM G [.ref (G.1 0), .int x1] g r.1 r.2 :=
  mk_cI sameM (by decide +kernel) rfl (Nat.le_of_ble_eq_true rfl) (fun p e s m args below meth c A Q ls X kI hl Z => bX7_advance_0 X kI g x1 _ _ ls Z hl hm)
abbrev wmX7_synchronize : List Cond := Cond.code yX7_synchronize cX7_synchronize 3 (some .int) :: wA0
set_option maxHeartbeats 4000000 in
set_option maxRecDepth 100000 in
theorem bX7_synchronize_0 (X : gC p s m args meth c cX7_synchronize 3 wmX7_synchronize yX7_synchronize.cls (some .int) G A) {n : Nat} {r : Int32 × Mem} (kI : ∀ (pc : Nat) (ls : Array Slot) (H : Heap) (locs : List Loc), decode cX7_synchronize pc = .ok (.ireturn, 1) → WS wM G r.2 A s.heap H locs → narrow .int (.int r.1) = .int r.1 → W p l e { frames := 3, cells := 0, slots := 0, locals := 67 } s m args below meth c H locs 0 0 Q (F0 m pc ls [.int r.1])) : ∀ (g : Mem) (x1 : Int32) (x2 : Int32) (H : Heap) (locs : List Loc) (ls : Array Slot), WS wM G g A s.heap H locs → lv_has ls 3 [(0, .ref (G.1 0)), (1, .int x1), (2, .int x2)] → sX7_synchronize n g x1 x2 = some r → W p l e { frames := 3, cells := 0, slots := 0, locals := 67 } s m args below meth c H locs 0 0 Q (F0 m 0 ls []) := by
  have hx := X.1
  have hb := X.2.1
  intro g x1 x2 H locs ls Z hl hm
  unfold sX7_synchronize at hm
  refine lv_aload_n hx hb dX7_synchronize_0 rfl (lv_at hl 0 rfl) ?_
  refine lv_aload_n hx hb dX7_synchronize_1 rfl (lv_at hl 0 rfl) ?_
  refine lv_iload_n hx hb dX7_synchronize_2 rfl (lv_at hl 1 rfl) ?_
  refine lv_iload_n hx hb dX7_synchronize_3 rfl (lv_at hl 2 rfl) ?_
  obtain ⟨r3, e1, hm⟩ := sBi_some hm
  refine g_callVI (n := 2) (As := [.int x1, .int x2]) (rest := [.ref (G.1 0)]) sameM X Z (cX7_whyNotSynchronize_c l e1) oX7 rfl (gooV mB784 mB785 mB786 mB614 mB720) rfl (by decide +kernel) rfl ⟨Nat.le_of_ble_eq_true rfl, Nat.le_of_ble_eq_true rfl⟩ ⟨Nat.le_of_ble_eq_true rfl, Nat.le_of_ble_eq_true rfl⟩ hl.1 rfl (Nat.le_of_ble_eq_true rfl) dX7_synchronize_4 (fun w2 H locs Z => ?_)
  obtain ⟨r6, g7, e4, hm⟩ := sBi2_some hm
  refine g_callVI (n := 1) (As := [.int r3]) (rest := []) sameM X Z (cX7_throwsAt_c l e4) oX7 rfl (gooV mB745 mB746 mB747 mB614 mB609) rfl (by decide +kernel) rfl ⟨Nat.le_of_ble_eq_true rfl, Nat.le_of_ble_eq_true rfl⟩ ⟨Nat.le_of_ble_eq_true rfl, Nat.le_of_ble_eq_true rfl⟩ hl.1 rfl (Nat.le_of_ble_eq_true rfl) dX7_synchronize_7 (fun w5 H locs Z => ?_)
  refine lv_if_eq (tgt := 15) hx hb dX7_synchronize_10 (by decide) (fun c8 => ?_) (fun c8 => ?_)
  · replace hm := (if_pos c8).symm.trans hm
    refine lv_aload_n hx hb dX7_synchronize_15 rfl (lv_at hl 0 rfl) ?_
    obtain ⟨g11, e9, hm⟩ := sBi_some hm
    refine g_callVV (n := 0) (As := []) (rest := []) sameM X Z (cX7_saves_c l e9) oX7 rfl (gooV mB748 mB749 mB750 mB614 mB618) rfl (by decide +kernel) rfl ⟨Nat.le_of_ble_eq_true rfl, Nat.le_of_ble_eq_true rfl⟩ ⟨Nat.le_of_ble_eq_true rfl, Nat.le_of_ble_eq_true rfl⟩ hl.1 rfl (Nat.le_of_ble_eq_true rfl) dX7_synchronize_16 (fun H locs Z => ?_)
    refine lv_aload_n hx hb dX7_synchronize_19 rfl (lv_at hl 0 rfl) ?_
    refine lv_iload_n hx hb dX7_synchronize_20 rfl (lv_at hl 1 rfl) ?_
    refine lv_iload_n hx hb dX7_synchronize_21 rfl (lv_at hl 2 rfl) ?_
    obtain ⟨r14, g15, e12, hm⟩ := sBi2_some hm
    refine g_callVI (n := 2) (As := [.int x1, .int x2]) (rest := []) sameM X Z (cX7_synchronizes_c l e12) oX7 rfl (gooV mB787 mB788 mB789 mB614 mB738) rfl (by decide +kernel) rfl ⟨Nat.le_of_ble_eq_true rfl, Nat.le_of_ble_eq_true rfl⟩ ⟨Nat.le_of_ble_eq_true rfl, Nat.le_of_ble_eq_true rfl⟩ hl.1 rfl (Nat.le_of_ble_eq_true rfl) dX7_synchronize_22 (fun w13 H locs Z => ?_)
    obtain rfl := Option.some.inj hm
    exact kI _ _ _ _ dX7_synchronize_25 Z (vp_nar_int _)
  · replace hm := (if_neg c8).symm.trans hm
    refine lv_iconst (v := 0) hx hb dX7_synchronize_13 (by decide) ?_
    obtain rfl := Option.some.inj hm
    exact kI _ _ _ _ dX7_synchronize_14 Z (vp_nar_int _)
theorem cX7_synchronize_c (l : Launch) {G : LY} {g : Mem} {n : Nat} {x1 : Int32} {x2 : Int32} {r : Int32 × Mem} (hm : sX7_synchronize n g x1 x2 = some r) : cI l yX7_synchronize wmX7_synchronize 3 67 .int wM G [.ref (G.1 0), .int x1, .int x2] g r.1 r.2 :=
  mk_cI sameM (by decide +kernel) rfl (Nat.le_of_ble_eq_true rfl) (fun p e s m args below meth c A Q ls X kI hl Z => bX7_synchronize_0 X kI g x1 x2 _ _ ls Z hl hm)
abbrev wmX7_setDrift : List Cond := Cond.code yX7_setDrift cX7_setDrift 4 (some .int) :: wA0
set_option maxHeartbeats 4000000 in
set_option maxRecDepth 100000 in
theorem bX7_setDrift_0 (X : gC p s m args meth c cX7_setDrift 4 wmX7_setDrift yX7_setDrift.cls (some .int) G A) {n : Nat} {r : Int32 × Mem} (kI : ∀ (pc : Nat) (ls : Array Slot) (H : Heap) (locs : List Loc), decode cX7_setDrift pc = .ok (.ireturn, 1) → WS wM G r.2 A s.heap H locs → narrow .int (.int r.1) = .int r.1 → W p l e { frames := 2, cells := 0, slots := 0, locals := 44 } s m args below meth c H locs 0 0 Q (F0 m pc ls [.int r.1])) : ∀ (g : Mem) (x1 : Int32) (x2 : Int32) (H : Heap) (locs : List Loc) (ls : Array Slot), WS wM G g A s.heap H locs → lv_has ls 4 [(0, .ref (G.1 0)), (1, .int x1), (2, .int x2)] → sX7_setDrift n g x1 x2 = some r → W p l e { frames := 2, cells := 0, slots := 0, locals := 44 } s m args below meth c H locs 0 0 Q (F0 m 0 ls []) := by
  have hx := X.1
  have hb := X.2.1
  intro g x1 x2 H locs ls Z hl hm
  unfold sX7_setDrift at hm
  refine lv_aload_n hx hb dX7_setDrift_0 rfl (lv_at hl 0 rfl) ?_
  refine lv_iload_n hx hb dX7_setDrift_1 rfl (lv_at hl 1 rfl) ?_
  obtain ⟨r3, e1, hm⟩ := sBi_some hm
  refine g_callSI (n := 1) (As := [.int x1]) (rest := [.ref (G.1 0)]) sameM X Z (cX7_isServer_c l e1) (gooS mB705 mB706 mB614 mB611) rfl (by decide +kernel) rfl ⟨Nat.le_of_ble_eq_true rfl, Nat.le_of_ble_eq_true rfl⟩ ⟨Nat.le_of_ble_eq_true rfl, Nat.le_of_ble_eq_true rfl⟩ hl.1 rfl (Nat.le_of_ble_eq_true rfl) dX7_setDrift_2 (fun w2 H locs Z => ?_)
  refine lv_if_ne (tgt := 12) hx hb dX7_setDrift_5 (by decide) (fun c4 => ?_) (fun c4 => ?_)
  · replace hm := (if_neg c4).symm.trans hm
    refine lv_iload_n hx hb dX7_setDrift_12 rfl (lv_at hl 2 rfl) ?_
    refine lv_bipush (v := (-100)) hx hb dX7_setDrift_13 (by decide) ?_
    refine lv_bipush (v := 100) hx hb dX7_setDrift_15 (by decide) ?_
    obtain ⟨r7, e5, hm⟩ := sBi_some hm
    refine g_callSI (n := 3) (As := [.int x2, .int (-100), .int 100]) (rest := [.ref (G.1 0)]) sameM X Z (cX7_in_c l e5) (gooS mB612 mB613 mB614 mB610) rfl (by decide +kernel) rfl ⟨Nat.le_of_ble_eq_true rfl, Nat.le_of_ble_eq_true rfl⟩ ⟨Nat.le_of_ble_eq_true rfl, Nat.le_of_ble_eq_true rfl⟩ hl.1 rfl (Nat.le_of_ble_eq_true rfl) dX7_setDrift_17 (fun w6 H locs Z => ?_)
    refine lv_if_ne (tgt := 27) hx hb dX7_setDrift_20 (by decide) (fun c8 => ?_) (fun c8 => ?_)
    · replace hm := (if_neg c8).symm.trans hm
      refine lv_iconst (v := 0) hx hb dX7_setDrift_27 (by decide) ?_
      obtain ⟨r11, g12, e9, hm⟩ := sBi2_some hm
      refine g_callVI (n := 1) (As := [.int 0]) (rest := []) sameM X Z (cX7_throwsAt_c l e9) oX7 rfl (gooV mB745 mB746 mB747 mB614 mB609) rfl (by decide +kernel) rfl ⟨Nat.le_of_ble_eq_true rfl, Nat.le_of_ble_eq_true rfl⟩ ⟨Nat.le_of_ble_eq_true rfl, Nat.le_of_ble_eq_true rfl⟩ hl.1 rfl (Nat.le_of_ble_eq_true rfl) dX7_setDrift_28 (fun w10 H locs Z => ?_)
      refine lv_if_eq (tgt := 36) hx hb dX7_setDrift_31 (by decide) (fun c13 => ?_) (fun c13 => ?_)
      · replace hm := (if_pos c13).symm.trans hm
        refine lv_aload_n hx hb dX7_setDrift_36 rfl (lv_at hl 0 rfl) ?_
        obtain ⟨g16, e14, hm⟩ := sBi_some hm
        refine g_callVV (n := 0) (As := []) (rest := []) sameM X Z (cX7_saves_c l e14) oX7 rfl (gooV mB748 mB749 mB750 mB614 mB618) rfl (by decide +kernel) rfl ⟨Nat.le_of_ble_eq_true rfl, Nat.le_of_ble_eq_true rfl⟩ ⟨Nat.le_of_ble_eq_true rfl, Nat.le_of_ble_eq_true rfl⟩ hl.1 rfl (Nat.le_of_ble_eq_true rfl) dX7_setDrift_37 (fun H locs Z => ?_)
        refine lv_aload_n hx hb dX7_setDrift_40 rfl (lv_at hl 0 rfl) ?_
        refine lv_iload_n hx hb dX7_setDrift_41 rfl (lv_at hl 1 rfl) ?_
        refine lv_iconst (v := 2) hx hb dX7_setDrift_42 (by decide) ?_
        obtain ⟨r19, e17, hm⟩ := sBi_some hm
        refine g_callVI (n := 2) (As := [.int x1, .int 2]) (rest := []) sameM X Z (cX7_clock_c l e17) oX7 rfl (gooV mB624 mB625 mB626 mB614 mB621) rfl (by decide +kernel) rfl ⟨Nat.le_of_ble_eq_true rfl, Nat.le_of_ble_eq_true rfl⟩ ⟨Nat.le_of_ble_eq_true rfl, Nat.le_of_ble_eq_true rfl⟩ hl.1 rfl (Nat.le_of_ble_eq_true rfl) dX7_setDrift_43 (fun w18 H locs Z => ?_)
        refine lv_istore_n (lv' := [(3, .int r19), (0, .ref (G.1 0)), (1, .int x1), (2, .int x2)]) hx hb dX7_setDrift_46 rfl hl (by decide) rfl (fun ls hl => ?_)
        refine lv_aload_n hx hb dX7_setDrift_47 rfl (lv_at hl 1 rfl) ?_
        refine lv_iload_n hx hb dX7_setDrift_48 rfl (lv_at hl 2 rfl) ?_
        refine lv_iconst (v := 0) hx hb dX7_setDrift_49 (by decide) ?_
        refine lv_aload_n hx hb dX7_setDrift_50 rfl (lv_at hl 1 rfl) ?_
        refine lv_iload_n hx hb dX7_setDrift_51 rfl (lv_at hl 2 rfl) ?_
        refine lv_aload_n hx hb dX7_setDrift_52 rfl (lv_at hl 1 rfl) ?_
        refine g_get (j := 0) (v := .ref (G.1 1)) X Z oX7 (iB7 _) rfl (by decide) rfl (List.mem_cons_of_mem _ mB602) rfl dX7_setDrift_53 ?_
        refine lv_iconst (v := 0) hx hb dX7_setDrift_56 (by decide) ?_
        obtain ⟨b20, hm⟩ := sIdx_some hm
        refine g_iald X Z aM1 b20 dX7_setDrift_57 ?_
        obtain ⟨r23, e21, hm⟩ := sBi_some hm
        refine g_callVI (n := 2) (As := [.int x1, .int (g16 1 (0 : Int32).toNatClampNeg)]) (rest := [.int 0, .int x1, .ref (G.1 0)]) sameM X Z (cX7_offset_c l e21) oX7 rfl (gooV mB631 mB632 mB633 mB614 mB623) rfl (by decide +kernel) rfl ⟨Nat.le_of_ble_eq_true rfl, Nat.le_of_ble_eq_true rfl⟩ ⟨Nat.le_of_ble_eq_true rfl, Nat.le_of_ble_eq_true rfl⟩ hl.1 rfl (Nat.le_of_ble_eq_true rfl) dX7_setDrift_58 (fun w22 H locs Z => ?_)
        obtain ⟨g26, e24, hm⟩ := sBi_some hm
        refine g_callVV (n := 3) (As := [.int x1, .int 0, .int r23]) (rest := []) sameM X Z (cX7_sets_c l e24) oX7 rfl (gooV mB739 mB740 mB741 mB614 mB622) rfl (by decide +kernel) rfl ⟨Nat.le_of_ble_eq_true rfl, Nat.le_of_ble_eq_true rfl⟩ ⟨Nat.le_of_ble_eq_true rfl, Nat.le_of_ble_eq_true rfl⟩ hl.1 rfl (Nat.le_of_ble_eq_true rfl) dX7_setDrift_61 (fun H locs Z => ?_)
        refine lv_aload_n hx hb dX7_setDrift_64 rfl (lv_at hl 1 rfl) ?_
        refine lv_iload_n hx hb dX7_setDrift_65 rfl (lv_at hl 2 rfl) ?_
        refine lv_iconst (v := 1) hx hb dX7_setDrift_66 (by decide) ?_
        refine lv_aload_n hx hb dX7_setDrift_67 rfl (lv_at hl 1 rfl) ?_
        refine g_get (j := 0) (v := .ref (G.1 1)) X Z oX7 (iB7 _) rfl (by decide) rfl (List.mem_cons_of_mem _ mB602) rfl dX7_setDrift_68 ?_
        refine lv_iconst (v := 0) hx hb dX7_setDrift_71 (by decide) ?_
        obtain ⟨b27, hm⟩ := sIdx_some hm
        refine g_iald X Z aM1 b27 dX7_setDrift_72 ?_
        obtain ⟨g30, e28, hm⟩ := sBi_some hm
        refine g_callVV (n := 3) (As := [.int x1, .int 1, .int (g26 1 (0 : Int32).toNatClampNeg)]) (rest := []) sameM X Z (cX7_sets_c l e28) oX7 rfl (gooV mB739 mB740 mB741 mB614 mB622) rfl (by decide +kernel) rfl ⟨Nat.le_of_ble_eq_true rfl, Nat.le_of_ble_eq_true rfl⟩ ⟨Nat.le_of_ble_eq_true rfl, Nat.le_of_ble_eq_true rfl⟩ hl.1 rfl (Nat.le_of_ble_eq_true rfl) dX7_setDrift_73 (fun H locs Z => ?_)
        refine lv_aload_n hx hb dX7_setDrift_76 rfl (lv_at hl 1 rfl) ?_
        refine lv_iload_n hx hb dX7_setDrift_77 rfl (lv_at hl 2 rfl) ?_
        refine lv_iconst (v := 2) hx hb dX7_setDrift_78 (by decide) ?_
        refine lv_iload_n hx hb dX7_setDrift_79 rfl (lv_at hl 3 rfl) ?_
        obtain ⟨g33, e31, hm⟩ := sBi_some hm
        refine g_callVV (n := 3) (As := [.int x1, .int 2, .int x2]) (rest := []) sameM X Z (cX7_sets_c l e31) oX7 rfl (gooV mB739 mB740 mB741 mB614 mB622) rfl (by decide +kernel) rfl ⟨Nat.le_of_ble_eq_true rfl, Nat.le_of_ble_eq_true rfl⟩ ⟨Nat.le_of_ble_eq_true rfl, Nat.le_of_ble_eq_true rfl⟩ hl.1 rfl (Nat.le_of_ble_eq_true rfl) dX7_setDrift_80 (fun H locs Z => ?_)
        refine lv_iload_n hx hb dX7_setDrift_83 rfl (lv_at hl 0 rfl) ?_
        obtain rfl := Option.some.inj hm
        exact kI _ _ _ _ dX7_setDrift_84 Z (vp_nar_int _)
      · replace hm := (if_neg c13).symm.trans hm
        refine lv_iconst (v := 0) hx hb dX7_setDrift_34 (by decide) ?_
        obtain rfl := Option.some.inj hm
        exact kI _ _ _ _ dX7_setDrift_35 Z (vp_nar_int _)
    · replace hm := (if_pos c8).symm.trans hm
      refine lv_iconst (v := 2) hx hb dX7_setDrift_23 (by decide) ?_
      refine lv_goto (tgt := 28) hx hb dX7_setDrift_24 (by decide) ?_
      obtain ⟨r36, g37, e34, hm⟩ := sBi2_some hm
      refine g_callVI (n := 1) (As := [.int 2]) (rest := []) sameM X Z (cX7_throwsAt_c l e34) oX7 rfl (gooV mB745 mB746 mB747 mB614 mB609) rfl (by decide +kernel) rfl ⟨Nat.le_of_ble_eq_true rfl, Nat.le_of_ble_eq_true rfl⟩ ⟨Nat.le_of_ble_eq_true rfl, Nat.le_of_ble_eq_true rfl⟩ hl.1 rfl (Nat.le_of_ble_eq_true rfl) dX7_setDrift_28 (fun w35 H locs Z => ?_)
      refine lv_if_eq (tgt := 36) hx hb dX7_setDrift_31 (by decide) (fun c38 => ?_) (fun c38 => ?_)
      · replace hm := (if_pos c38).symm.trans hm
        refine lv_aload_n hx hb dX7_setDrift_36 rfl (lv_at hl 0 rfl) ?_
        obtain ⟨g41, e39, hm⟩ := sBi_some hm
        refine g_callVV (n := 0) (As := []) (rest := []) sameM X Z (cX7_saves_c l e39) oX7 rfl (gooV mB748 mB749 mB750 mB614 mB618) rfl (by decide +kernel) rfl ⟨Nat.le_of_ble_eq_true rfl, Nat.le_of_ble_eq_true rfl⟩ ⟨Nat.le_of_ble_eq_true rfl, Nat.le_of_ble_eq_true rfl⟩ hl.1 rfl (Nat.le_of_ble_eq_true rfl) dX7_setDrift_37 (fun H locs Z => ?_)
        refine lv_aload_n hx hb dX7_setDrift_40 rfl (lv_at hl 0 rfl) ?_
        refine lv_iload_n hx hb dX7_setDrift_41 rfl (lv_at hl 1 rfl) ?_
        refine lv_iconst (v := 2) hx hb dX7_setDrift_42 (by decide) ?_
        obtain ⟨r44, e42, hm⟩ := sBi_some hm
        refine g_callVI (n := 2) (As := [.int x1, .int 2]) (rest := []) sameM X Z (cX7_clock_c l e42) oX7 rfl (gooV mB624 mB625 mB626 mB614 mB621) rfl (by decide +kernel) rfl ⟨Nat.le_of_ble_eq_true rfl, Nat.le_of_ble_eq_true rfl⟩ ⟨Nat.le_of_ble_eq_true rfl, Nat.le_of_ble_eq_true rfl⟩ hl.1 rfl (Nat.le_of_ble_eq_true rfl) dX7_setDrift_43 (fun w43 H locs Z => ?_)
        refine lv_istore_n (lv' := [(3, .int r44), (0, .ref (G.1 0)), (1, .int x1), (2, .int x2)]) hx hb dX7_setDrift_46 rfl hl (by decide) rfl (fun ls hl => ?_)
        refine lv_aload_n hx hb dX7_setDrift_47 rfl (lv_at hl 1 rfl) ?_
        refine lv_iload_n hx hb dX7_setDrift_48 rfl (lv_at hl 2 rfl) ?_
        refine lv_iconst (v := 0) hx hb dX7_setDrift_49 (by decide) ?_
        refine lv_aload_n hx hb dX7_setDrift_50 rfl (lv_at hl 1 rfl) ?_
        refine lv_iload_n hx hb dX7_setDrift_51 rfl (lv_at hl 2 rfl) ?_
        refine lv_aload_n hx hb dX7_setDrift_52 rfl (lv_at hl 1 rfl) ?_
        refine g_get (j := 0) (v := .ref (G.1 1)) X Z oX7 (iB7 _) rfl (by decide) rfl (List.mem_cons_of_mem _ mB602) rfl dX7_setDrift_53 ?_
        refine lv_iconst (v := 0) hx hb dX7_setDrift_56 (by decide) ?_
        obtain ⟨b45, hm⟩ := sIdx_some hm
        refine g_iald X Z aM1 b45 dX7_setDrift_57 ?_
        obtain ⟨r48, e46, hm⟩ := sBi_some hm
        refine g_callVI (n := 2) (As := [.int x1, .int (g41 1 (0 : Int32).toNatClampNeg)]) (rest := [.int 0, .int x1, .ref (G.1 0)]) sameM X Z (cX7_offset_c l e46) oX7 rfl (gooV mB631 mB632 mB633 mB614 mB623) rfl (by decide +kernel) rfl ⟨Nat.le_of_ble_eq_true rfl, Nat.le_of_ble_eq_true rfl⟩ ⟨Nat.le_of_ble_eq_true rfl, Nat.le_of_ble_eq_true rfl⟩ hl.1 rfl (Nat.le_of_ble_eq_true rfl) dX7_setDrift_58 (fun w47 H locs Z => ?_)
        obtain ⟨g51, e49, hm⟩ := sBi_some hm
        refine g_callVV (n := 3) (As := [.int x1, .int 0, .int r48]) (rest := []) sameM X Z (cX7_sets_c l e49) oX7 rfl (gooV mB739 mB740 mB741 mB614 mB622) rfl (by decide +kernel) rfl ⟨Nat.le_of_ble_eq_true rfl, Nat.le_of_ble_eq_true rfl⟩ ⟨Nat.le_of_ble_eq_true rfl, Nat.le_of_ble_eq_true rfl⟩ hl.1 rfl (Nat.le_of_ble_eq_true rfl) dX7_setDrift_61 (fun H locs Z => ?_)
        refine lv_aload_n hx hb dX7_setDrift_64 rfl (lv_at hl 1 rfl) ?_
        refine lv_iload_n hx hb dX7_setDrift_65 rfl (lv_at hl 2 rfl) ?_
        refine lv_iconst (v := 1) hx hb dX7_setDrift_66 (by decide) ?_
        refine lv_aload_n hx hb dX7_setDrift_67 rfl (lv_at hl 1 rfl) ?_
        refine g_get (j := 0) (v := .ref (G.1 1)) X Z oX7 (iB7 _) rfl (by decide) rfl (List.mem_cons_of_mem _ mB602) rfl dX7_setDrift_68 ?_
        refine lv_iconst (v := 0) hx hb dX7_setDrift_71 (by decide) ?_
        obtain ⟨b52, hm⟩ := sIdx_some hm
        refine g_iald X Z aM1 b52 dX7_setDrift_72 ?_
        obtain ⟨g55, e53, hm⟩ := sBi_some hm
        refine g_callVV (n := 3) (As := [.int x1, .int 1, .int (g51 1 (0 : Int32).toNatClampNeg)]) (rest := []) sameM X Z (cX7_sets_c l e53) oX7 rfl (gooV mB739 mB740 mB741 mB614 mB622) rfl (by decide +kernel) rfl ⟨Nat.le_of_ble_eq_true rfl, Nat.le_of_ble_eq_true rfl⟩ ⟨Nat.le_of_ble_eq_true rfl, Nat.le_of_ble_eq_true rfl⟩ hl.1 rfl (Nat.le_of_ble_eq_true rfl) dX7_setDrift_73 (fun H locs Z => ?_)
        refine lv_aload_n hx hb dX7_setDrift_76 rfl (lv_at hl 1 rfl) ?_
        refine lv_iload_n hx hb dX7_setDrift_77 rfl (lv_at hl 2 rfl) ?_
        refine lv_iconst (v := 2) hx hb dX7_setDrift_78 (by decide) ?_
        refine lv_iload_n hx hb dX7_setDrift_79 rfl (lv_at hl 3 rfl) ?_
        obtain ⟨g58, e56, hm⟩ := sBi_some hm
        refine g_callVV (n := 3) (As := [.int x1, .int 2, .int x2]) (rest := []) sameM X Z (cX7_sets_c l e56) oX7 rfl (gooV mB739 mB740 mB741 mB614 mB622) rfl (by decide +kernel) rfl ⟨Nat.le_of_ble_eq_true rfl, Nat.le_of_ble_eq_true rfl⟩ ⟨Nat.le_of_ble_eq_true rfl, Nat.le_of_ble_eq_true rfl⟩ hl.1 rfl (Nat.le_of_ble_eq_true rfl) dX7_setDrift_80 (fun H locs Z => ?_)
        refine lv_iload_n hx hb dX7_setDrift_83 rfl (lv_at hl 0 rfl) ?_
        obtain rfl := Option.some.inj hm
        exact kI _ _ _ _ dX7_setDrift_84 Z (vp_nar_int _)
      · replace hm := (if_neg c38).symm.trans hm
        refine lv_iconst (v := 0) hx hb dX7_setDrift_34 (by decide) ?_
        obtain rfl := Option.some.inj hm
        exact kI _ _ _ _ dX7_setDrift_35 Z (vp_nar_int _)
  · replace hm := (if_pos c4).symm.trans hm
    refine lv_iconst (v := 1) hx hb dX7_setDrift_8 (by decide) ?_
    refine lv_goto (tgt := 28) hx hb dX7_setDrift_9 (by decide) ?_
    obtain ⟨r61, g62, e59, hm⟩ := sBi2_some hm
    refine g_callVI (n := 1) (As := [.int 1]) (rest := []) sameM X Z (cX7_throwsAt_c l e59) oX7 rfl (gooV mB745 mB746 mB747 mB614 mB609) rfl (by decide +kernel) rfl ⟨Nat.le_of_ble_eq_true rfl, Nat.le_of_ble_eq_true rfl⟩ ⟨Nat.le_of_ble_eq_true rfl, Nat.le_of_ble_eq_true rfl⟩ hl.1 rfl (Nat.le_of_ble_eq_true rfl) dX7_setDrift_28 (fun w60 H locs Z => ?_)
    refine lv_if_eq (tgt := 36) hx hb dX7_setDrift_31 (by decide) (fun c63 => ?_) (fun c63 => ?_)
    · replace hm := (if_pos c63).symm.trans hm
      refine lv_aload_n hx hb dX7_setDrift_36 rfl (lv_at hl 0 rfl) ?_
      obtain ⟨g66, e64, hm⟩ := sBi_some hm
      refine g_callVV (n := 0) (As := []) (rest := []) sameM X Z (cX7_saves_c l e64) oX7 rfl (gooV mB748 mB749 mB750 mB614 mB618) rfl (by decide +kernel) rfl ⟨Nat.le_of_ble_eq_true rfl, Nat.le_of_ble_eq_true rfl⟩ ⟨Nat.le_of_ble_eq_true rfl, Nat.le_of_ble_eq_true rfl⟩ hl.1 rfl (Nat.le_of_ble_eq_true rfl) dX7_setDrift_37 (fun H locs Z => ?_)
      refine lv_aload_n hx hb dX7_setDrift_40 rfl (lv_at hl 0 rfl) ?_
      refine lv_iload_n hx hb dX7_setDrift_41 rfl (lv_at hl 1 rfl) ?_
      refine lv_iconst (v := 2) hx hb dX7_setDrift_42 (by decide) ?_
      obtain ⟨r69, e67, hm⟩ := sBi_some hm
      refine g_callVI (n := 2) (As := [.int x1, .int 2]) (rest := []) sameM X Z (cX7_clock_c l e67) oX7 rfl (gooV mB624 mB625 mB626 mB614 mB621) rfl (by decide +kernel) rfl ⟨Nat.le_of_ble_eq_true rfl, Nat.le_of_ble_eq_true rfl⟩ ⟨Nat.le_of_ble_eq_true rfl, Nat.le_of_ble_eq_true rfl⟩ hl.1 rfl (Nat.le_of_ble_eq_true rfl) dX7_setDrift_43 (fun w68 H locs Z => ?_)
      refine lv_istore_n (lv' := [(3, .int r69), (0, .ref (G.1 0)), (1, .int x1), (2, .int x2)]) hx hb dX7_setDrift_46 rfl hl (by decide) rfl (fun ls hl => ?_)
      refine lv_aload_n hx hb dX7_setDrift_47 rfl (lv_at hl 1 rfl) ?_
      refine lv_iload_n hx hb dX7_setDrift_48 rfl (lv_at hl 2 rfl) ?_
      refine lv_iconst (v := 0) hx hb dX7_setDrift_49 (by decide) ?_
      refine lv_aload_n hx hb dX7_setDrift_50 rfl (lv_at hl 1 rfl) ?_
      refine lv_iload_n hx hb dX7_setDrift_51 rfl (lv_at hl 2 rfl) ?_
      refine lv_aload_n hx hb dX7_setDrift_52 rfl (lv_at hl 1 rfl) ?_
      refine g_get (j := 0) (v := .ref (G.1 1)) X Z oX7 (iB7 _) rfl (by decide) rfl (List.mem_cons_of_mem _ mB602) rfl dX7_setDrift_53 ?_
      refine lv_iconst (v := 0) hx hb dX7_setDrift_56 (by decide) ?_
      obtain ⟨b70, hm⟩ := sIdx_some hm
      refine g_iald X Z aM1 b70 dX7_setDrift_57 ?_
      obtain ⟨r73, e71, hm⟩ := sBi_some hm
      refine g_callVI (n := 2) (As := [.int x1, .int (g66 1 (0 : Int32).toNatClampNeg)]) (rest := [.int 0, .int x1, .ref (G.1 0)]) sameM X Z (cX7_offset_c l e71) oX7 rfl (gooV mB631 mB632 mB633 mB614 mB623) rfl (by decide +kernel) rfl ⟨Nat.le_of_ble_eq_true rfl, Nat.le_of_ble_eq_true rfl⟩ ⟨Nat.le_of_ble_eq_true rfl, Nat.le_of_ble_eq_true rfl⟩ hl.1 rfl (Nat.le_of_ble_eq_true rfl) dX7_setDrift_58 (fun w72 H locs Z => ?_)
      obtain ⟨g76, e74, hm⟩ := sBi_some hm
      refine g_callVV (n := 3) (As := [.int x1, .int 0, .int r73]) (rest := []) sameM X Z (cX7_sets_c l e74) oX7 rfl (gooV mB739 mB740 mB741 mB614 mB622) rfl (by decide +kernel) rfl ⟨Nat.le_of_ble_eq_true rfl, Nat.le_of_ble_eq_true rfl⟩ ⟨Nat.le_of_ble_eq_true rfl, Nat.le_of_ble_eq_true rfl⟩ hl.1 rfl (Nat.le_of_ble_eq_true rfl) dX7_setDrift_61 (fun H locs Z => ?_)
      refine lv_aload_n hx hb dX7_setDrift_64 rfl (lv_at hl 1 rfl) ?_
      refine lv_iload_n hx hb dX7_setDrift_65 rfl (lv_at hl 2 rfl) ?_
      refine lv_iconst (v := 1) hx hb dX7_setDrift_66 (by decide) ?_
      refine lv_aload_n hx hb dX7_setDrift_67 rfl (lv_at hl 1 rfl) ?_
      refine g_get (j := 0) (v := .ref (G.1 1)) X Z oX7 (iB7 _) rfl (by decide) rfl (List.mem_cons_of_mem _ mB602) rfl dX7_setDrift_68 ?_
      refine lv_iconst (v := 0) hx hb dX7_setDrift_71 (by decide) ?_
      obtain ⟨b77, hm⟩ := sIdx_some hm
      refine g_iald X Z aM1 b77 dX7_setDrift_72 ?_
      obtain ⟨g80, e78, hm⟩ := sBi_some hm
      refine g_callVV (n := 3) (As := [.int x1, .int 1, .int (g76 1 (0 : Int32).toNatClampNeg)]) (rest := []) sameM X Z (cX7_sets_c l e78) oX7 rfl (gooV mB739 mB740 mB741 mB614 mB622) rfl (by decide +kernel) rfl ⟨Nat.le_of_ble_eq_true rfl, Nat.le_of_ble_eq_true rfl⟩ ⟨Nat.le_of_ble_eq_true rfl, Nat.le_of_ble_eq_true rfl⟩ hl.1 rfl (Nat.le_of_ble_eq_true rfl) dX7_setDrift_73 (fun H locs Z => ?_)
      refine lv_aload_n hx hb dX7_setDrift_76 rfl (lv_at hl 1 rfl) ?_
      refine lv_iload_n hx hb dX7_setDrift_77 rfl (lv_at hl 2 rfl) ?_
      refine lv_iconst (v := 2) hx hb dX7_setDrift_78 (by decide) ?_
      refine lv_iload_n hx hb dX7_setDrift_79 rfl (lv_at hl 3 rfl) ?_
      obtain ⟨g83, e81, hm⟩ := sBi_some hm
      refine g_callVV (n := 3) (As := [.int x1, .int 2, .int x2]) (rest := []) sameM X Z (cX7_sets_c l e81) oX7 rfl (gooV mB739 mB740 mB741 mB614 mB622) rfl (by decide +kernel) rfl ⟨Nat.le_of_ble_eq_true rfl, Nat.le_of_ble_eq_true rfl⟩ ⟨Nat.le_of_ble_eq_true rfl, Nat.le_of_ble_eq_true rfl⟩ hl.1 rfl (Nat.le_of_ble_eq_true rfl) dX7_setDrift_80 (fun H locs Z => ?_)
      refine lv_iload_n hx hb dX7_setDrift_83 rfl (lv_at hl 0 rfl) ?_
      obtain rfl := Option.some.inj hm
      exact kI _ _ _ _ dX7_setDrift_84 Z (vp_nar_int _)
    · replace hm := (if_neg c63).symm.trans hm
      refine lv_iconst (v := 0) hx hb dX7_setDrift_34 (by decide) ?_
      obtain rfl := Option.some.inj hm
      exact kI _ _ _ _ dX7_setDrift_35 Z (vp_nar_int _)
theorem cX7_setDrift_c (l : Launch) {G : LY} {g : Mem} {n : Nat} {x1 : Int32} {x2 : Int32} {r : Int32 × Mem} (hm : sX7_setDrift n g x1 x2 = some r) : cI l yX7_setDrift wmX7_setDrift 2 44 .int wM G [.ref (G.1 0), .int x1, .int x2] g r.1 r.2 :=
  mk_cI sameM (by decide +kernel) rfl (Nat.le_of_ble_eq_true rfl) (fun p e s m args below meth c A Q ls X kI hl Z => bX7_setDrift_0 X kI g x1 x2 _ _ ls Z hl hm)
abbrev wmX7_setUncertainty : List Cond := Cond.code yX7_setUncertainty cX7_setUncertainty 5 (some .int) :: wA0
set_option maxHeartbeats 4000000 in
set_option maxRecDepth 100000 in
theorem bX7_setUncertainty_25 (X : gC p s m args meth c cX7_setUncertainty 5 wmX7_setUncertainty yX7_setUncertainty.cls (some .int) G A) {n : Nat} {r : Int32 × Mem} (kI : ∀ (pc : Nat) (ls : Array Slot) (H : Heap) (locs : List Loc), decode cX7_setUncertainty pc = .ok (.ireturn, 1) → WS wM G r.2 A s.heap H locs → narrow .int (.int r.1) = .int r.1 → W p l e { frames := 2, cells := 0, slots := 0, locals := 44 } s m args below meth c H locs 0 0 Q (F0 m pc ls [.int r.1])) : ∀ (g : Mem) (x1 : Int32) (x2 : Int32) (x3 : Int32) (H : Heap) (locs : List Loc) (ls : Array Slot), WS wM G g A s.heap H locs → lv_has ls 5 [(0, .ref (G.1 0)), (1, .int x1), (2, .int x2), (3, .int x3)] → sX7_setUncertainty_25 n g x1 x2 x3 = some r → W p l e { frames := 2, cells := 0, slots := 0, locals := 44 } s m args below meth c H locs 0 0 Q (F0 m 25 ls []) := by
  have hx := X.1
  have hb := X.2.1
  intro g x1 x2 x3 H locs ls Z hl hm
  unfold sX7_setUncertainty_25 at hm
  refine lv_iconst (v := 0) hx hb dX7_setUncertainty_25 (by decide) ?_
  refine lv_istore (lv' := [(4, .int 0), (0, .ref (G.1 0)), (1, .int x1), (2, .int x2), (3, .int x3)]) hx hb dX7_setUncertainty_26 hl (by decide) rfl (fun ls hl => ?_)
  refine lv_aload_n hx hb dX7_setUncertainty_28 rfl (lv_at hl 1 rfl) ?_
  refine lv_iload_n hx hb dX7_setUncertainty_29 rfl (lv_at hl 2 rfl) ?_
  obtain ⟨r3, e1, hm⟩ := sBi_some hm
  refine g_callSI (n := 1) (As := [.int x1]) (rest := [.ref (G.1 0)]) sameM X Z (cX7_isServer_c l e1) (gooS mB705 mB706 mB614 mB611) rfl (by decide +kernel) rfl ⟨Nat.le_of_ble_eq_true rfl, Nat.le_of_ble_eq_true rfl⟩ ⟨Nat.le_of_ble_eq_true rfl, Nat.le_of_ble_eq_true rfl⟩ hl.1 rfl (Nat.le_of_ble_eq_true rfl) dX7_setUncertainty_30 (fun w2 H locs Z => ?_)
  refine lv_if_ne (tgt := 40) hx hb dX7_setUncertainty_33 (by decide) (fun c4 => ?_) (fun c4 => ?_)
  · replace hm := (if_neg c4).symm.trans hm
    refine lv_iload hx hb dX7_setUncertainty_40 (lv_at hl 0 rfl) ?_
    refine lv_if_eq (tgt := 49) hx hb dX7_setUncertainty_42 (by decide) (fun c5 => ?_) (fun c5 => ?_)
    rotate_left
    · first | exact absurd c5 (by decide) | exact absurd (by decide) c5
    refine lv_iconst (v := 2) hx hb dX7_setUncertainty_49 (by decide) ?_
    obtain ⟨r8, g9, e6, hm⟩ := sBi2_some hm
    refine g_callVI (n := 1) (As := [.int 2]) (rest := []) sameM X Z (cX7_throwsAt_c l e6) oX7 rfl (gooV mB745 mB746 mB747 mB614 mB609) rfl (by decide +kernel) rfl ⟨Nat.le_of_ble_eq_true rfl, Nat.le_of_ble_eq_true rfl⟩ ⟨Nat.le_of_ble_eq_true rfl, Nat.le_of_ble_eq_true rfl⟩ hl.1 rfl (Nat.le_of_ble_eq_true rfl) dX7_setUncertainty_50 (fun w7 H locs Z => ?_)
    refine lv_if_eq (tgt := 58) hx hb dX7_setUncertainty_53 (by decide) (fun c10 => ?_) (fun c10 => ?_)
    · replace hm := (if_pos c10).symm.trans hm
      refine lv_aload_n hx hb dX7_setUncertainty_58 rfl (lv_at hl 1 rfl) ?_
      obtain ⟨g13, e11, hm⟩ := sBi_some hm
      refine g_callVV (n := 0) (As := []) (rest := []) sameM X Z (cX7_saves_c l e11) oX7 rfl (gooV mB748 mB749 mB750 mB614 mB618) rfl (by decide +kernel) rfl ⟨Nat.le_of_ble_eq_true rfl, Nat.le_of_ble_eq_true rfl⟩ ⟨Nat.le_of_ble_eq_true rfl, Nat.le_of_ble_eq_true rfl⟩ hl.1 rfl (Nat.le_of_ble_eq_true rfl) dX7_setUncertainty_59 (fun H locs Z => ?_)
      refine lv_aload_n hx hb dX7_setUncertainty_62 rfl (lv_at hl 1 rfl) ?_
      refine lv_iload_n hx hb dX7_setUncertainty_63 rfl (lv_at hl 2 rfl) ?_
      refine lv_iconst (v := 3) hx hb dX7_setUncertainty_64 (by decide) ?_
      refine lv_iload_n hx hb dX7_setUncertainty_65 rfl (lv_at hl 3 rfl) ?_
      obtain ⟨g16, e14, hm⟩ := sBi_some hm
      refine g_callVV (n := 3) (As := [.int x1, .int 3, .int x2]) (rest := []) sameM X Z (cX7_sets_c l e14) oX7 rfl (gooV mB739 mB740 mB741 mB614 mB622) rfl (by decide +kernel) rfl ⟨Nat.le_of_ble_eq_true rfl, Nat.le_of_ble_eq_true rfl⟩ ⟨Nat.le_of_ble_eq_true rfl, Nat.le_of_ble_eq_true rfl⟩ hl.1 rfl (Nat.le_of_ble_eq_true rfl) dX7_setUncertainty_66 (fun H locs Z => ?_)
      refine lv_aload_n hx hb dX7_setUncertainty_69 rfl (lv_at hl 1 rfl) ?_
      refine lv_iload_n hx hb dX7_setUncertainty_70 rfl (lv_at hl 2 rfl) ?_
      refine lv_iconst (v := 4) hx hb dX7_setUncertainty_71 (by decide) ?_
      refine lv_iload_n hx hb dX7_setUncertainty_72 rfl (lv_at hl 4 rfl) ?_
      obtain ⟨g19, e17, hm⟩ := sBi_some hm
      refine g_callVV (n := 3) (As := [.int x1, .int 4, .int x3]) (rest := []) sameM X Z (cX7_sets_c l e17) oX7 rfl (gooV mB739 mB740 mB741 mB614 mB622) rfl (by decide +kernel) rfl ⟨Nat.le_of_ble_eq_true rfl, Nat.le_of_ble_eq_true rfl⟩ ⟨Nat.le_of_ble_eq_true rfl, Nat.le_of_ble_eq_true rfl⟩ hl.1 rfl (Nat.le_of_ble_eq_true rfl) dX7_setUncertainty_73 (fun H locs Z => ?_)
      refine lv_aload_n hx hb dX7_setUncertainty_76 rfl (lv_at hl 1 rfl) ?_
      refine lv_iload_n hx hb dX7_setUncertainty_77 rfl (lv_at hl 2 rfl) ?_
      refine lv_aload_n hx hb dX7_setUncertainty_78 rfl (lv_at hl 1 rfl) ?_
      refine g_get (j := 0) (v := .ref (G.1 1)) X Z oX7 (iB7 _) rfl (by decide) rfl (List.mem_cons_of_mem _ mB602) rfl dX7_setUncertainty_79 ?_
      refine lv_iconst (v := 0) hx hb dX7_setUncertainty_82 (by decide) ?_
      obtain ⟨b20, hm⟩ := sIdx_some hm
      refine g_iald X Z aM1 b20 dX7_setUncertainty_83 ?_
      obtain ⟨r23, e21, hm⟩ := sBi_some hm
      refine g_callVI (n := 2) (As := [.int x1, .int (g19 1 (0 : Int32).toNatClampNeg)]) (rest := []) sameM X Z (cX7_uncertainty_c l e21) oX7 rfl (gooV mB634 mB635 mB636 mB614 mB629) rfl (by decide +kernel) rfl ⟨Nat.le_of_ble_eq_true rfl, Nat.le_of_ble_eq_true rfl⟩ ⟨Nat.le_of_ble_eq_true rfl, Nat.le_of_ble_eq_true rfl⟩ hl.1 rfl (Nat.le_of_ble_eq_true rfl) dX7_setUncertainty_84 (fun w22 H locs Z => ?_)
      obtain rfl := Option.some.inj hm
      exact kI _ _ _ _ dX7_setUncertainty_87 Z (vp_nar_int _)
    · replace hm := (if_neg c10).symm.trans hm
      refine lv_iconst (v := 0) hx hb dX7_setUncertainty_56 (by decide) ?_
      obtain rfl := Option.some.inj hm
      exact kI _ _ _ _ dX7_setUncertainty_57 Z (vp_nar_int _)
  · replace hm := (if_pos c4).symm.trans hm
    refine lv_iconst (v := 1) hx hb dX7_setUncertainty_36 (by decide) ?_
    refine lv_goto (tgt := 50) hx hb dX7_setUncertainty_37 (by decide) ?_
    obtain ⟨r26, g27, e24, hm⟩ := sBi2_some hm
    refine g_callVI (n := 1) (As := [.int 1]) (rest := []) sameM X Z (cX7_throwsAt_c l e24) oX7 rfl (gooV mB745 mB746 mB747 mB614 mB609) rfl (by decide +kernel) rfl ⟨Nat.le_of_ble_eq_true rfl, Nat.le_of_ble_eq_true rfl⟩ ⟨Nat.le_of_ble_eq_true rfl, Nat.le_of_ble_eq_true rfl⟩ hl.1 rfl (Nat.le_of_ble_eq_true rfl) dX7_setUncertainty_50 (fun w25 H locs Z => ?_)
    refine lv_if_eq (tgt := 58) hx hb dX7_setUncertainty_53 (by decide) (fun c28 => ?_) (fun c28 => ?_)
    · replace hm := (if_pos c28).symm.trans hm
      refine lv_aload_n hx hb dX7_setUncertainty_58 rfl (lv_at hl 1 rfl) ?_
      obtain ⟨g31, e29, hm⟩ := sBi_some hm
      refine g_callVV (n := 0) (As := []) (rest := []) sameM X Z (cX7_saves_c l e29) oX7 rfl (gooV mB748 mB749 mB750 mB614 mB618) rfl (by decide +kernel) rfl ⟨Nat.le_of_ble_eq_true rfl, Nat.le_of_ble_eq_true rfl⟩ ⟨Nat.le_of_ble_eq_true rfl, Nat.le_of_ble_eq_true rfl⟩ hl.1 rfl (Nat.le_of_ble_eq_true rfl) dX7_setUncertainty_59 (fun H locs Z => ?_)
      refine lv_aload_n hx hb dX7_setUncertainty_62 rfl (lv_at hl 1 rfl) ?_
      refine lv_iload_n hx hb dX7_setUncertainty_63 rfl (lv_at hl 2 rfl) ?_
      refine lv_iconst (v := 3) hx hb dX7_setUncertainty_64 (by decide) ?_
      refine lv_iload_n hx hb dX7_setUncertainty_65 rfl (lv_at hl 3 rfl) ?_
      obtain ⟨g34, e32, hm⟩ := sBi_some hm
      refine g_callVV (n := 3) (As := [.int x1, .int 3, .int x2]) (rest := []) sameM X Z (cX7_sets_c l e32) oX7 rfl (gooV mB739 mB740 mB741 mB614 mB622) rfl (by decide +kernel) rfl ⟨Nat.le_of_ble_eq_true rfl, Nat.le_of_ble_eq_true rfl⟩ ⟨Nat.le_of_ble_eq_true rfl, Nat.le_of_ble_eq_true rfl⟩ hl.1 rfl (Nat.le_of_ble_eq_true rfl) dX7_setUncertainty_66 (fun H locs Z => ?_)
      refine lv_aload_n hx hb dX7_setUncertainty_69 rfl (lv_at hl 1 rfl) ?_
      refine lv_iload_n hx hb dX7_setUncertainty_70 rfl (lv_at hl 2 rfl) ?_
      refine lv_iconst (v := 4) hx hb dX7_setUncertainty_71 (by decide) ?_
      refine lv_iload_n hx hb dX7_setUncertainty_72 rfl (lv_at hl 4 rfl) ?_
      obtain ⟨g37, e35, hm⟩ := sBi_some hm
      refine g_callVV (n := 3) (As := [.int x1, .int 4, .int x3]) (rest := []) sameM X Z (cX7_sets_c l e35) oX7 rfl (gooV mB739 mB740 mB741 mB614 mB622) rfl (by decide +kernel) rfl ⟨Nat.le_of_ble_eq_true rfl, Nat.le_of_ble_eq_true rfl⟩ ⟨Nat.le_of_ble_eq_true rfl, Nat.le_of_ble_eq_true rfl⟩ hl.1 rfl (Nat.le_of_ble_eq_true rfl) dX7_setUncertainty_73 (fun H locs Z => ?_)
      refine lv_aload_n hx hb dX7_setUncertainty_76 rfl (lv_at hl 1 rfl) ?_
      refine lv_iload_n hx hb dX7_setUncertainty_77 rfl (lv_at hl 2 rfl) ?_
      refine lv_aload_n hx hb dX7_setUncertainty_78 rfl (lv_at hl 1 rfl) ?_
      refine g_get (j := 0) (v := .ref (G.1 1)) X Z oX7 (iB7 _) rfl (by decide) rfl (List.mem_cons_of_mem _ mB602) rfl dX7_setUncertainty_79 ?_
      refine lv_iconst (v := 0) hx hb dX7_setUncertainty_82 (by decide) ?_
      obtain ⟨b38, hm⟩ := sIdx_some hm
      refine g_iald X Z aM1 b38 dX7_setUncertainty_83 ?_
      obtain ⟨r41, e39, hm⟩ := sBi_some hm
      refine g_callVI (n := 2) (As := [.int x1, .int (g37 1 (0 : Int32).toNatClampNeg)]) (rest := []) sameM X Z (cX7_uncertainty_c l e39) oX7 rfl (gooV mB634 mB635 mB636 mB614 mB629) rfl (by decide +kernel) rfl ⟨Nat.le_of_ble_eq_true rfl, Nat.le_of_ble_eq_true rfl⟩ ⟨Nat.le_of_ble_eq_true rfl, Nat.le_of_ble_eq_true rfl⟩ hl.1 rfl (Nat.le_of_ble_eq_true rfl) dX7_setUncertainty_84 (fun w40 H locs Z => ?_)
      obtain rfl := Option.some.inj hm
      exact kI _ _ _ _ dX7_setUncertainty_87 Z (vp_nar_int _)
    · replace hm := (if_neg c28).symm.trans hm
      refine lv_iconst (v := 0) hx hb dX7_setUncertainty_56 (by decide) ?_
      obtain rfl := Option.some.inj hm
      exact kI _ _ _ _ dX7_setUncertainty_57 Z (vp_nar_int _)
set_option maxHeartbeats 4000000 in
set_option maxRecDepth 100000 in
theorem bX7_setUncertainty_0 (X : gC p s m args meth c cX7_setUncertainty 5 wmX7_setUncertainty yX7_setUncertainty.cls (some .int) G A) {n : Nat} {r : Int32 × Mem} (kI : ∀ (pc : Nat) (ls : Array Slot) (H : Heap) (locs : List Loc), decode cX7_setUncertainty pc = .ok (.ireturn, 1) → WS wM G r.2 A s.heap H locs → narrow .int (.int r.1) = .int r.1 → W p l e { frames := 2, cells := 0, slots := 0, locals := 44 } s m args below meth c H locs 0 0 Q (F0 m pc ls [.int r.1])) : ∀ (g : Mem) (x1 : Int32) (x2 : Int32) (x3 : Int32) (H : Heap) (locs : List Loc) (ls : Array Slot), WS wM G g A s.heap H locs → lv_has ls 5 [(0, .ref (G.1 0)), (1, .int x1), (2, .int x2), (3, .int x3)] → sX7_setUncertainty n g x1 x2 x3 = some r → W p l e { frames := 2, cells := 0, slots := 0, locals := 44 } s m args below meth c H locs 0 0 Q (F0 m 0 ls []) := by
  have hx := X.1
  have hb := X.2.1
  intro g x1 x2 x3 H locs ls Z hl hm
  unfold sX7_setUncertainty at hm
  refine lv_iload_n hx hb dX7_setUncertainty_0 rfl (lv_at hl 2 rfl) ?_
  refine lv_iconst (v := 0) hx hb dX7_setUncertainty_1 (by decide) ?_
  refine lv_sipush (v := 500) hx hb dX7_setUncertainty_2 (by decide) ?_
  obtain ⟨r3, e1, hm⟩ := sBi_some hm
  refine g_callSI (n := 3) (As := [.int x2, .int 0, .int 500]) (rest := []) sameM X Z (cX7_in_c l e1) (gooS mB612 mB613 mB614 mB610) rfl (by decide +kernel) rfl ⟨Nat.le_of_ble_eq_true rfl, Nat.le_of_ble_eq_true rfl⟩ ⟨Nat.le_of_ble_eq_true rfl, Nat.le_of_ble_eq_true rfl⟩ hl.1 rfl (Nat.le_of_ble_eq_true rfl) dX7_setUncertainty_5 (fun w2 H locs Z => ?_)
  refine lv_if_eq (tgt := 25) hx hb dX7_setUncertainty_8 (by decide) (fun c4 => ?_) (fun c4 => ?_)
  · replace hm := (if_pos c4).symm.trans hm
    exact bX7_setUncertainty_25 X kI g x1 x2 x3 _ _ _ Z (lv_sub hl [0, 1, 2, 3] rfl) hm
  · replace hm := (if_neg c4).symm.trans hm
    refine lv_iload_n hx hb dX7_setUncertainty_11 rfl (lv_at hl 3 rfl) ?_
    refine lv_iconst (v := 0) hx hb dX7_setUncertainty_12 (by decide) ?_
    refine lv_bipush (v := 100) hx hb dX7_setUncertainty_13 (by decide) ?_
    obtain ⟨r7, e5, hm⟩ := sBi_some hm
    refine g_callSI (n := 3) (As := [.int x3, .int 0, .int 100]) (rest := []) sameM X Z (cX7_in_c l e5) (gooS mB612 mB613 mB614 mB610) rfl (by decide +kernel) rfl ⟨Nat.le_of_ble_eq_true rfl, Nat.le_of_ble_eq_true rfl⟩ ⟨Nat.le_of_ble_eq_true rfl, Nat.le_of_ble_eq_true rfl⟩ hl.1 rfl (Nat.le_of_ble_eq_true rfl) dX7_setUncertainty_15 (fun w6 H locs Z => ?_)
    refine lv_if_eq (tgt := 25) hx hb dX7_setUncertainty_18 (by decide) (fun c8 => ?_) (fun c8 => ?_)
    · replace hm := (if_pos c8).symm.trans hm
      exact bX7_setUncertainty_25 X kI g x1 x2 x3 _ _ _ Z (lv_sub hl [0, 1, 2, 3] rfl) hm
    · replace hm := (if_neg c8).symm.trans hm
      refine lv_iconst (v := 1) hx hb dX7_setUncertainty_21 (by decide) ?_
      refine lv_goto (tgt := 26) hx hb dX7_setUncertainty_22 (by decide) ?_
      refine lv_istore (lv' := [(4, .int 1), (0, .ref (G.1 0)), (1, .int x1), (2, .int x2), (3, .int x3)]) hx hb dX7_setUncertainty_26 hl (by decide) rfl (fun ls hl => ?_)
      refine lv_aload_n hx hb dX7_setUncertainty_28 rfl (lv_at hl 1 rfl) ?_
      refine lv_iload_n hx hb dX7_setUncertainty_29 rfl (lv_at hl 2 rfl) ?_
      obtain ⟨r11, e9, hm⟩ := sBi_some hm
      refine g_callSI (n := 1) (As := [.int x1]) (rest := [.ref (G.1 0)]) sameM X Z (cX7_isServer_c l e9) (gooS mB705 mB706 mB614 mB611) rfl (by decide +kernel) rfl ⟨Nat.le_of_ble_eq_true rfl, Nat.le_of_ble_eq_true rfl⟩ ⟨Nat.le_of_ble_eq_true rfl, Nat.le_of_ble_eq_true rfl⟩ hl.1 rfl (Nat.le_of_ble_eq_true rfl) dX7_setUncertainty_30 (fun w10 H locs Z => ?_)
      refine lv_if_ne (tgt := 40) hx hb dX7_setUncertainty_33 (by decide) (fun c12 => ?_) (fun c12 => ?_)
      · replace hm := (if_neg c12).symm.trans hm
        refine lv_iload hx hb dX7_setUncertainty_40 (lv_at hl 0 rfl) ?_
        refine lv_if_eq (tgt := 49) hx hb dX7_setUncertainty_42 (by decide) (fun c13 => ?_) (fun c13 => ?_)
        · first | exact absurd c13 (by decide) | exact absurd (by decide) c13
        refine lv_iconst (v := 0) hx hb dX7_setUncertainty_45 (by decide) ?_
        refine lv_goto (tgt := 50) hx hb dX7_setUncertainty_46 (by decide) ?_
        obtain ⟨r16, g17, e14, hm⟩ := sBi2_some hm
        refine g_callVI (n := 1) (As := [.int 0]) (rest := []) sameM X Z (cX7_throwsAt_c l e14) oX7 rfl (gooV mB745 mB746 mB747 mB614 mB609) rfl (by decide +kernel) rfl ⟨Nat.le_of_ble_eq_true rfl, Nat.le_of_ble_eq_true rfl⟩ ⟨Nat.le_of_ble_eq_true rfl, Nat.le_of_ble_eq_true rfl⟩ hl.1 rfl (Nat.le_of_ble_eq_true rfl) dX7_setUncertainty_50 (fun w15 H locs Z => ?_)
        refine lv_if_eq (tgt := 58) hx hb dX7_setUncertainty_53 (by decide) (fun c18 => ?_) (fun c18 => ?_)
        · replace hm := (if_pos c18).symm.trans hm
          refine lv_aload_n hx hb dX7_setUncertainty_58 rfl (lv_at hl 1 rfl) ?_
          obtain ⟨g21, e19, hm⟩ := sBi_some hm
          refine g_callVV (n := 0) (As := []) (rest := []) sameM X Z (cX7_saves_c l e19) oX7 rfl (gooV mB748 mB749 mB750 mB614 mB618) rfl (by decide +kernel) rfl ⟨Nat.le_of_ble_eq_true rfl, Nat.le_of_ble_eq_true rfl⟩ ⟨Nat.le_of_ble_eq_true rfl, Nat.le_of_ble_eq_true rfl⟩ hl.1 rfl (Nat.le_of_ble_eq_true rfl) dX7_setUncertainty_59 (fun H locs Z => ?_)
          refine lv_aload_n hx hb dX7_setUncertainty_62 rfl (lv_at hl 1 rfl) ?_
          refine lv_iload_n hx hb dX7_setUncertainty_63 rfl (lv_at hl 2 rfl) ?_
          refine lv_iconst (v := 3) hx hb dX7_setUncertainty_64 (by decide) ?_
          refine lv_iload_n hx hb dX7_setUncertainty_65 rfl (lv_at hl 3 rfl) ?_
          obtain ⟨g24, e22, hm⟩ := sBi_some hm
          refine g_callVV (n := 3) (As := [.int x1, .int 3, .int x2]) (rest := []) sameM X Z (cX7_sets_c l e22) oX7 rfl (gooV mB739 mB740 mB741 mB614 mB622) rfl (by decide +kernel) rfl ⟨Nat.le_of_ble_eq_true rfl, Nat.le_of_ble_eq_true rfl⟩ ⟨Nat.le_of_ble_eq_true rfl, Nat.le_of_ble_eq_true rfl⟩ hl.1 rfl (Nat.le_of_ble_eq_true rfl) dX7_setUncertainty_66 (fun H locs Z => ?_)
          refine lv_aload_n hx hb dX7_setUncertainty_69 rfl (lv_at hl 1 rfl) ?_
          refine lv_iload_n hx hb dX7_setUncertainty_70 rfl (lv_at hl 2 rfl) ?_
          refine lv_iconst (v := 4) hx hb dX7_setUncertainty_71 (by decide) ?_
          refine lv_iload_n hx hb dX7_setUncertainty_72 rfl (lv_at hl 4 rfl) ?_
          obtain ⟨g27, e25, hm⟩ := sBi_some hm
          refine g_callVV (n := 3) (As := [.int x1, .int 4, .int x3]) (rest := []) sameM X Z (cX7_sets_c l e25) oX7 rfl (gooV mB739 mB740 mB741 mB614 mB622) rfl (by decide +kernel) rfl ⟨Nat.le_of_ble_eq_true rfl, Nat.le_of_ble_eq_true rfl⟩ ⟨Nat.le_of_ble_eq_true rfl, Nat.le_of_ble_eq_true rfl⟩ hl.1 rfl (Nat.le_of_ble_eq_true rfl) dX7_setUncertainty_73 (fun H locs Z => ?_)
          refine lv_aload_n hx hb dX7_setUncertainty_76 rfl (lv_at hl 1 rfl) ?_
          refine lv_iload_n hx hb dX7_setUncertainty_77 rfl (lv_at hl 2 rfl) ?_
          refine lv_aload_n hx hb dX7_setUncertainty_78 rfl (lv_at hl 1 rfl) ?_
          refine g_get (j := 0) (v := .ref (G.1 1)) X Z oX7 (iB7 _) rfl (by decide) rfl (List.mem_cons_of_mem _ mB602) rfl dX7_setUncertainty_79 ?_
          refine lv_iconst (v := 0) hx hb dX7_setUncertainty_82 (by decide) ?_
          obtain ⟨b28, hm⟩ := sIdx_some hm
          refine g_iald X Z aM1 b28 dX7_setUncertainty_83 ?_
          obtain ⟨r31, e29, hm⟩ := sBi_some hm
          refine g_callVI (n := 2) (As := [.int x1, .int (g27 1 (0 : Int32).toNatClampNeg)]) (rest := []) sameM X Z (cX7_uncertainty_c l e29) oX7 rfl (gooV mB634 mB635 mB636 mB614 mB629) rfl (by decide +kernel) rfl ⟨Nat.le_of_ble_eq_true rfl, Nat.le_of_ble_eq_true rfl⟩ ⟨Nat.le_of_ble_eq_true rfl, Nat.le_of_ble_eq_true rfl⟩ hl.1 rfl (Nat.le_of_ble_eq_true rfl) dX7_setUncertainty_84 (fun w30 H locs Z => ?_)
          obtain rfl := Option.some.inj hm
          exact kI _ _ _ _ dX7_setUncertainty_87 Z (vp_nar_int _)
        · replace hm := (if_neg c18).symm.trans hm
          refine lv_iconst (v := 0) hx hb dX7_setUncertainty_56 (by decide) ?_
          obtain rfl := Option.some.inj hm
          exact kI _ _ _ _ dX7_setUncertainty_57 Z (vp_nar_int _)
      · replace hm := (if_pos c12).symm.trans hm
        refine lv_iconst (v := 1) hx hb dX7_setUncertainty_36 (by decide) ?_
        refine lv_goto (tgt := 50) hx hb dX7_setUncertainty_37 (by decide) ?_
        obtain ⟨r34, g35, e32, hm⟩ := sBi2_some hm
        refine g_callVI (n := 1) (As := [.int 1]) (rest := []) sameM X Z (cX7_throwsAt_c l e32) oX7 rfl (gooV mB745 mB746 mB747 mB614 mB609) rfl (by decide +kernel) rfl ⟨Nat.le_of_ble_eq_true rfl, Nat.le_of_ble_eq_true rfl⟩ ⟨Nat.le_of_ble_eq_true rfl, Nat.le_of_ble_eq_true rfl⟩ hl.1 rfl (Nat.le_of_ble_eq_true rfl) dX7_setUncertainty_50 (fun w33 H locs Z => ?_)
        refine lv_if_eq (tgt := 58) hx hb dX7_setUncertainty_53 (by decide) (fun c36 => ?_) (fun c36 => ?_)
        · replace hm := (if_pos c36).symm.trans hm
          refine lv_aload_n hx hb dX7_setUncertainty_58 rfl (lv_at hl 1 rfl) ?_
          obtain ⟨g39, e37, hm⟩ := sBi_some hm
          refine g_callVV (n := 0) (As := []) (rest := []) sameM X Z (cX7_saves_c l e37) oX7 rfl (gooV mB748 mB749 mB750 mB614 mB618) rfl (by decide +kernel) rfl ⟨Nat.le_of_ble_eq_true rfl, Nat.le_of_ble_eq_true rfl⟩ ⟨Nat.le_of_ble_eq_true rfl, Nat.le_of_ble_eq_true rfl⟩ hl.1 rfl (Nat.le_of_ble_eq_true rfl) dX7_setUncertainty_59 (fun H locs Z => ?_)
          refine lv_aload_n hx hb dX7_setUncertainty_62 rfl (lv_at hl 1 rfl) ?_
          refine lv_iload_n hx hb dX7_setUncertainty_63 rfl (lv_at hl 2 rfl) ?_
          refine lv_iconst (v := 3) hx hb dX7_setUncertainty_64 (by decide) ?_
          refine lv_iload_n hx hb dX7_setUncertainty_65 rfl (lv_at hl 3 rfl) ?_
          obtain ⟨g42, e40, hm⟩ := sBi_some hm
          refine g_callVV (n := 3) (As := [.int x1, .int 3, .int x2]) (rest := []) sameM X Z (cX7_sets_c l e40) oX7 rfl (gooV mB739 mB740 mB741 mB614 mB622) rfl (by decide +kernel) rfl ⟨Nat.le_of_ble_eq_true rfl, Nat.le_of_ble_eq_true rfl⟩ ⟨Nat.le_of_ble_eq_true rfl, Nat.le_of_ble_eq_true rfl⟩ hl.1 rfl (Nat.le_of_ble_eq_true rfl) dX7_setUncertainty_66 (fun H locs Z => ?_)
          refine lv_aload_n hx hb dX7_setUncertainty_69 rfl (lv_at hl 1 rfl) ?_
          refine lv_iload_n hx hb dX7_setUncertainty_70 rfl (lv_at hl 2 rfl) ?_
          refine lv_iconst (v := 4) hx hb dX7_setUncertainty_71 (by decide) ?_
          refine lv_iload_n hx hb dX7_setUncertainty_72 rfl (lv_at hl 4 rfl) ?_
          obtain ⟨g45, e43, hm⟩ := sBi_some hm
          refine g_callVV (n := 3) (As := [.int x1, .int 4, .int x3]) (rest := []) sameM X Z (cX7_sets_c l e43) oX7 rfl (gooV mB739 mB740 mB741 mB614 mB622) rfl (by decide +kernel) rfl ⟨Nat.le_of_ble_eq_true rfl, Nat.le_of_ble_eq_true rfl⟩ ⟨Nat.le_of_ble_eq_true rfl, Nat.le_of_ble_eq_true rfl⟩ hl.1 rfl (Nat.le_of_ble_eq_true rfl) dX7_setUncertainty_73 (fun H locs Z => ?_)
          refine lv_aload_n hx hb dX7_setUncertainty_76 rfl (lv_at hl 1 rfl) ?_
          refine lv_iload_n hx hb dX7_setUncertainty_77 rfl (lv_at hl 2 rfl) ?_
          refine lv_aload_n hx hb dX7_setUncertainty_78 rfl (lv_at hl 1 rfl) ?_
          refine g_get (j := 0) (v := .ref (G.1 1)) X Z oX7 (iB7 _) rfl (by decide) rfl (List.mem_cons_of_mem _ mB602) rfl dX7_setUncertainty_79 ?_
          refine lv_iconst (v := 0) hx hb dX7_setUncertainty_82 (by decide) ?_
          obtain ⟨b46, hm⟩ := sIdx_some hm
          refine g_iald X Z aM1 b46 dX7_setUncertainty_83 ?_
          obtain ⟨r49, e47, hm⟩ := sBi_some hm
          refine g_callVI (n := 2) (As := [.int x1, .int (g45 1 (0 : Int32).toNatClampNeg)]) (rest := []) sameM X Z (cX7_uncertainty_c l e47) oX7 rfl (gooV mB634 mB635 mB636 mB614 mB629) rfl (by decide +kernel) rfl ⟨Nat.le_of_ble_eq_true rfl, Nat.le_of_ble_eq_true rfl⟩ ⟨Nat.le_of_ble_eq_true rfl, Nat.le_of_ble_eq_true rfl⟩ hl.1 rfl (Nat.le_of_ble_eq_true rfl) dX7_setUncertainty_84 (fun w48 H locs Z => ?_)
          obtain rfl := Option.some.inj hm
          exact kI _ _ _ _ dX7_setUncertainty_87 Z (vp_nar_int _)
        · replace hm := (if_neg c36).symm.trans hm
          refine lv_iconst (v := 0) hx hb dX7_setUncertainty_56 (by decide) ?_
          obtain rfl := Option.some.inj hm
          exact kI _ _ _ _ dX7_setUncertainty_57 Z (vp_nar_int _)
theorem cX7_setUncertainty_c (l : Launch) {G : LY} {g : Mem} {n : Nat} {x1 : Int32} {x2 : Int32} {x3 : Int32} {r : Int32 × Mem} (hm : sX7_setUncertainty n g x1 x2 x3 = some r) : cI l yX7_setUncertainty wmX7_setUncertainty 2 44 .int wM G [.ref (G.1 0), .int x1, .int x2, .int x3] g r.1 r.2 :=
  mk_cI sameM (by decide +kernel) rfl (Nat.le_of_ble_eq_true rfl) (fun p e s m args below meth c A Q ls X kI hl Z => bX7_setUncertainty_0 X kI g x1 x2 x3 _ _ ls Z hl hm)
abbrev wmX7_safe : List Cond := Cond.code yX7_safe cX7_safe 5 (some .int) :: wA0
set_option maxHeartbeats 4000000 in
set_option maxRecDepth 100000 in
theorem bX7_safe_5 (X : gC p s m args meth c cX7_safe 5 wmX7_safe yX7_safe.cls (some .int) G A) {n : Nat} {g : Mem} {r : Int32} (kI : ∀ (pc : Nat) (ls : Array Slot) (H : Heap) (locs : List Loc), decode cX7_safe pc = .ok (.ireturn, 1) → WS wM G g A s.heap H locs → narrow .int (.int r) = .int r → W p l e { frames := 4, cells := 0, slots := 0, locals := 89 } s m args below meth c H locs 0 0 Q (F0 m pc ls [.int r])) : ∀ (f : Nat), ∀ (x1 : Int32) (x2 : Int32) (x3 : Int32) (H : Heap) (locs : List Loc) (ls : Array Slot), WS wM G g A s.heap H locs → lv_has ls 5 [(0, .ref (G.1 0)), (1, .int x1), (2, .int x2), (3, .int x3)] → sX7_safe_5 n g f x1 x2 x3 = some r → W p l e { frames := 4, cells := 0, slots := 0, locals := 89 } s m args below meth c H locs 0 0 Q (F0 m 5 ls []) := by
  have hx := X.1
  have hb := X.2.1
  intro f
  induction f with
  | zero =>
    intro x1 x2 x3 H locs ls Z hl hm
    cases hm
  | succ f ih =>
    intro x1 x2 x3 H locs ls Z hl hm
    unfold sX7_safe_5 at hm
    refine lv_iload_n hx hb dX7_safe_5 rfl (lv_at hl 3 rfl) ?_
    refine lv_iconst (v := 3) hx hb dX7_safe_6 (by decide) ?_
    refine lv_icmp_ge (tgt := 39) hx hb dX7_safe_7 (by decide) (fun c1 => ?_) (fun c1 => ?_)
    · replace hm := (if_pos c1).symm.trans hm
      refine lv_iload_n hx hb dX7_safe_39 rfl (lv_at hl 2 rfl) ?_
      obtain rfl := Option.some.inj hm
      exact kI _ _ _ _ dX7_safe_40 Z (vp_nar_int _)
    · replace hm := (if_neg c1).symm.trans hm
      refine lv_aload_n hx hb dX7_safe_10 rfl (lv_at hl 0 rfl) ?_
      refine lv_iload_n hx hb dX7_safe_11 rfl (lv_at hl 3 rfl) ?_
      refine lv_iload_n hx hb dX7_safe_12 rfl (lv_at hl 1 rfl) ?_
      obtain ⟨r4, e2, hm⟩ := sBi_some hm
      refine g_callVI (n := 2) (As := [.int x3, .int x1]) (rest := []) sameM X Z (cX7_next_c l e2) oX7 rfl (gooV mB687 mB688 mB689 mB614 mB686) rfl (by decide +kernel) rfl ⟨Nat.le_of_ble_eq_true rfl, Nat.le_of_ble_eq_true rfl⟩ ⟨Nat.le_of_ble_eq_true rfl, Nat.le_of_ble_eq_true rfl⟩ hl.1 rfl (Nat.le_of_ble_eq_true rfl) dX7_safe_13 (fun w3 H locs Z => ?_)
      refine lv_iconst (v := 1) hx hb dX7_safe_16 (by decide) ?_
      refine lv_isub hx hb dX7_safe_17 ?_
      refine lv_istore (lv' := [(4, .int (r4 - (1 : Int32))), (0, .ref (G.1 0)), (1, .int x1), (2, .int x2), (3, .int x3)]) hx hb dX7_safe_18 hl (by decide) rfl (fun ls hl => ?_)
      refine lv_iload hx hb dX7_safe_20 (lv_at hl 0 rfl) ?_
      refine lv_iload_n hx hb dX7_safe_22 rfl (lv_at hl 3 rfl) ?_
      refine lv_icmp_ge (tgt := 31) hx hb dX7_safe_23 (by decide) (fun c5 => ?_) (fun c5 => ?_)
      · replace hm := (if_pos c5).symm.trans hm
        refine lv_iload_n hx hb dX7_safe_31 rfl (lv_at hl 3 rfl) ?_
        refine lv_istore_n (lv' := [(2, .int x2), (4, .int (r4 - (1 : Int32))), (0, .ref (G.1 0)), (1, .int x1), (3, .int x3)]) hx hb dX7_safe_32 rfl hl (by decide) rfl (fun ls hl => ?_)
        refine lv_iinc (v := (x3 + (1 : Int32))) (lv' := [(3, .int (x3 + (1 : Int32))), (2, .int x2), (4, .int (r4 - (1 : Int32))), (0, .ref (G.1 0)), (1, .int x1)]) hx hb dX7_safe_33 hl (k := 4) rfl rfl (by decide) rfl (fun ls hl => ?_)
        refine lv_goto (tgt := 5) hx hb dX7_safe_36 (by decide) ?_
        exact ih x1 x2 (x3 + (1 : Int32)) _ _ _ Z (lv_sub hl [3, 4, 1, 0] rfl) hm
      · replace hm := (if_neg c5).symm.trans hm
        refine lv_iload hx hb dX7_safe_26 (lv_at hl 0 rfl) ?_
        refine lv_goto (tgt := 32) hx hb dX7_safe_28 (by decide) ?_
        refine lv_istore_n (lv' := [(2, .int (r4 - (1 : Int32))), (4, .int (r4 - (1 : Int32))), (0, .ref (G.1 0)), (1, .int x1), (3, .int x3)]) hx hb dX7_safe_32 rfl hl (by decide) rfl (fun ls hl => ?_)
        refine lv_iinc (v := (x3 + (1 : Int32))) (lv' := [(3, .int (x3 + (1 : Int32))), (2, .int (r4 - (1 : Int32))), (4, .int (r4 - (1 : Int32))), (0, .ref (G.1 0)), (1, .int x1)]) hx hb dX7_safe_33 hl (k := 4) rfl rfl (by decide) rfl (fun ls hl => ?_)
        refine lv_goto (tgt := 5) hx hb dX7_safe_36 (by decide) ?_
        exact ih x1 (r4 - (1 : Int32)) (x3 + (1 : Int32)) _ _ _ Z (lv_sub hl [3, 4, 1, 0] rfl) hm
set_option maxHeartbeats 4000000 in
set_option maxRecDepth 100000 in
theorem bX7_safe_0 (X : gC p s m args meth c cX7_safe 5 wmX7_safe yX7_safe.cls (some .int) G A) {n : Nat} {g : Mem} {r : Int32} (kI : ∀ (pc : Nat) (ls : Array Slot) (H : Heap) (locs : List Loc), decode cX7_safe pc = .ok (.ireturn, 1) → WS wM G g A s.heap H locs → narrow .int (.int r) = .int r → W p l e { frames := 4, cells := 0, slots := 0, locals := 89 } s m args below meth c H locs 0 0 Q (F0 m pc ls [.int r])) : ∀ (x1 : Int32) (H : Heap) (locs : List Loc) (ls : Array Slot), WS wM G g A s.heap H locs → lv_has ls 5 [(0, .ref (G.1 0)), (1, .int x1)] → sX7_safe n g x1 = some r → W p l e { frames := 4, cells := 0, slots := 0, locals := 89 } s m args below meth c H locs 0 0 Q (F0 m 0 ls []) := by
  have hx := X.1
  have hb := X.2.1
  intro x1 H locs ls Z hl hm
  unfold sX7_safe at hm
  refine lv_ldc (v := 2000000000) hx hb X.2.2.2.1 (X.2.2.2.2.1 _ (List.mem_cons_of_mem _ mB670)) dX7_safe_0 ?_
  refine lv_istore_n (lv' := [(2, .int 2000000000), (0, .ref (G.1 0)), (1, .int x1)]) hx hb dX7_safe_2 rfl hl (by decide) rfl (fun ls hl => ?_)
  refine lv_iconst (v := 0) hx hb dX7_safe_3 (by decide) ?_
  refine lv_istore_n (lv' := [(3, .int 0), (2, .int 2000000000), (0, .ref (G.1 0)), (1, .int x1)]) hx hb dX7_safe_4 rfl hl (by decide) rfl (fun ls hl => ?_)
  exact bX7_safe_5 X kI n x1 (2000000000 : Int32) (0 : Int32) _ _ _ Z (lv_sub hl [2, 3, 1, 0] rfl) hm
theorem cX7_safe_c (l : Launch) {G : LY} {g : Mem} {n : Nat} {x1 : Int32} {r : Int32} (hm : sX7_safe n g x1 = some r) : cI l yX7_safe wmX7_safe 4 89 .int wM G [.ref (G.1 0), .int x1] g r g :=
  mk_cI sameM (by decide +kernel) rfl (Nat.le_of_ble_eq_true rfl) (fun p e s m args below meth c A Q ls X kI hl Z => bX7_safe_0 X kI x1 _ _ ls Z hl hm)
abbrev wmX7_safeNow : List Cond := Cond.code yX7_safeNow cX7_safeNow 3 (some .int) :: wA0
set_option maxHeartbeats 4000000 in
set_option maxRecDepth 100000 in
theorem bX7_safeNow_13 (X : gC p s m args meth c cX7_safeNow 3 wmX7_safeNow yX7_safeNow.cls (some .int) G A) {n : Nat} {g : Mem} {r : Int32} (kI : ∀ (pc : Nat) (ls : Array Slot) (H : Heap) (locs : List Loc), decode cX7_safeNow pc = .ok (.ireturn, 1) → WS wM G g A s.heap H locs → narrow .int (.int r) = .int r → W p l e { frames := 5, cells := 0, slots := 0, locals := 113 } s m args below meth c H locs 0 0 Q (F0 m pc ls [.int r])) : ∀ (f : Nat), ∀ (x1 : Int32) (x2 : Int32) (H : Heap) (locs : List Loc) (ls : Array Slot), WS wM G g A s.heap H locs → lv_has ls 3 [(0, .ref (G.1 0)), (1, .int x1), (2, .int x2)] → sX7_safeNow_13 n g f x1 x2 = some r → W p l e { frames := 5, cells := 0, slots := 0, locals := 113 } s m args below meth c H locs 0 0 Q (F0 m 13 ls []) := by
  have hx := X.1
  have hb := X.2.1
  intro f
  induction f with
  | zero =>
    intro x1 x2 H locs ls Z hl hm
    cases hm
  | succ f ih =>
    intro x1 x2 H locs ls Z hl hm
    unfold sX7_safeNow_13 at hm
    refine lv_iload_n hx hb dX7_safeNow_13 rfl (lv_at hl 2 rfl) ?_
    refine lv_aload_n hx hb dX7_safeNow_14 rfl (lv_at hl 0 rfl) ?_
    refine g_get (j := 0) (v := .ref (G.1 1)) X Z oX7 (iB7 _) rfl (by decide) rfl (List.mem_cons_of_mem _ mB602) rfl dX7_safeNow_15 ?_
    refine lv_iconst (v := 3) hx hb dX7_safeNow_18 (by decide) ?_
    obtain ⟨b1, hm⟩ := sIdx_some hm
    refine g_iald X Z aM1 b1 dX7_safeNow_19 ?_
    refine lv_icmp_ge (tgt := 64) hx hb dX7_safeNow_20 (by decide) (fun c2 => ?_) (fun c2 => ?_)
    · replace hm := (if_pos c2).symm.trans hm
      refine lv_iload_n hx hb dX7_safeNow_64 rfl (lv_at hl 1 rfl) ?_
      obtain rfl := Option.some.inj hm
      exact kI _ _ _ _ dX7_safeNow_65 Z (vp_nar_int _)
    · replace hm := (if_neg c2).symm.trans hm
      refine lv_aload_n hx hb dX7_safeNow_23 rfl (lv_at hl 0 rfl) ?_
      refine lv_iload_n hx hb dX7_safeNow_24 rfl (lv_at hl 2 rfl) ?_
      refine lv_iconst (v := 1) hx hb dX7_safeNow_25 (by decide) ?_
      obtain ⟨r5, e3, hm⟩ := sBi_some hm
      refine g_callVI (n := 2) (As := [.int x2, .int 1]) (rest := []) sameM X Z (cX7_of_c l e3) oX7 rfl (gooV mB652 mB653 mB654 mB614 mB649) rfl (by decide +kernel) rfl ⟨Nat.le_of_ble_eq_true rfl, Nat.le_of_ble_eq_true rfl⟩ ⟨Nat.le_of_ble_eq_true rfl, Nat.le_of_ble_eq_true rfl⟩ hl.1 rfl (Nat.le_of_ble_eq_true rfl) dX7_safeNow_26 (fun w4 H locs Z => ?_)
      refine lv_iconst (v := 1) hx hb dX7_safeNow_29 (by decide) ?_
      refine lv_icmp_ne (tgt := 56) hx hb dX7_safeNow_30 (by decide) (fun c6 => ?_) (fun c6 => ?_)
      · replace hm := (if_neg c6).symm.trans hm
        refine lv_iload_n hx hb dX7_safeNow_56 rfl (lv_at hl 1 rfl) ?_
        refine lv_istore_n (lv' := [(1, .int x1), (0, .ref (G.1 0)), (2, .int x2)]) hx hb dX7_safeNow_57 rfl hl (by decide) rfl (fun ls hl => ?_)
        refine lv_iinc (v := (x2 + (1 : Int32))) (lv' := [(2, .int (x2 + (1 : Int32))), (1, .int x1), (0, .ref (G.1 0))]) hx hb dX7_safeNow_58 hl (k := 2) rfl rfl (by decide) rfl (fun ls hl => ?_)
        refine lv_goto (tgt := 13) hx hb dX7_safeNow_61 (by decide) ?_
        exact ih x1 (x2 + (1 : Int32)) _ _ _ Z (lv_sub hl [2, 1, 0] rfl) hm
      · replace hm := (if_pos c6).symm.trans hm
        refine lv_aload_n hx hb dX7_safeNow_33 rfl (lv_at hl 0 rfl) ?_
        refine lv_iload_n hx hb dX7_safeNow_34 rfl (lv_at hl 2 rfl) ?_
        refine lv_iconst (v := 2) hx hb dX7_safeNow_35 (by decide) ?_
        obtain ⟨r9, e7, hm⟩ := sBi_some hm
        refine g_callVI (n := 2) (As := [.int x2, .int 2]) (rest := []) sameM X Z (cX7_of_c l e7) oX7 rfl (gooV mB652 mB653 mB654 mB614 mB649) rfl (by decide +kernel) rfl ⟨Nat.le_of_ble_eq_true rfl, Nat.le_of_ble_eq_true rfl⟩ ⟨Nat.le_of_ble_eq_true rfl, Nat.le_of_ble_eq_true rfl⟩ hl.1 rfl (Nat.le_of_ble_eq_true rfl) dX7_safeNow_36 (fun w8 H locs Z => ?_)
        refine lv_iconst (v := 1) hx hb dX7_safeNow_39 (by decide) ?_
        refine lv_isub hx hb dX7_safeNow_40 ?_
        refine lv_iload_n hx hb dX7_safeNow_41 rfl (lv_at hl 1 rfl) ?_
        refine lv_icmp_ge (tgt := 56) hx hb dX7_safeNow_42 (by decide) (fun c10 => ?_) (fun c10 => ?_)
        · replace hm := (if_pos c10).symm.trans hm
          refine lv_iload_n hx hb dX7_safeNow_56 rfl (lv_at hl 1 rfl) ?_
          refine lv_istore_n (lv' := [(1, .int x1), (0, .ref (G.1 0)), (2, .int x2)]) hx hb dX7_safeNow_57 rfl hl (by decide) rfl (fun ls hl => ?_)
          refine lv_iinc (v := (x2 + (1 : Int32))) (lv' := [(2, .int (x2 + (1 : Int32))), (1, .int x1), (0, .ref (G.1 0))]) hx hb dX7_safeNow_58 hl (k := 2) rfl rfl (by decide) rfl (fun ls hl => ?_)
          refine lv_goto (tgt := 13) hx hb dX7_safeNow_61 (by decide) ?_
          exact ih x1 (x2 + (1 : Int32)) _ _ _ Z (lv_sub hl [2, 1, 0] rfl) hm
        · replace hm := (if_neg c10).symm.trans hm
          refine lv_aload_n hx hb dX7_safeNow_45 rfl (lv_at hl 0 rfl) ?_
          refine lv_iload_n hx hb dX7_safeNow_46 rfl (lv_at hl 2 rfl) ?_
          refine lv_iconst (v := 2) hx hb dX7_safeNow_47 (by decide) ?_
          obtain ⟨r13, e11, hm⟩ := sBi_some hm
          refine g_callVI (n := 2) (As := [.int x2, .int 2]) (rest := []) sameM X Z (cX7_of_c l e11) oX7 rfl (gooV mB652 mB653 mB654 mB614 mB649) rfl (by decide +kernel) rfl ⟨Nat.le_of_ble_eq_true rfl, Nat.le_of_ble_eq_true rfl⟩ ⟨Nat.le_of_ble_eq_true rfl, Nat.le_of_ble_eq_true rfl⟩ hl.1 rfl (Nat.le_of_ble_eq_true rfl) dX7_safeNow_48 (fun w12 H locs Z => ?_)
          refine lv_iconst (v := 1) hx hb dX7_safeNow_51 (by decide) ?_
          refine lv_isub hx hb dX7_safeNow_52 ?_
          refine lv_goto (tgt := 57) hx hb dX7_safeNow_53 (by decide) ?_
          refine lv_istore_n (lv' := [(1, .int (r13 - (1 : Int32))), (0, .ref (G.1 0)), (2, .int x2)]) hx hb dX7_safeNow_57 rfl hl (by decide) rfl (fun ls hl => ?_)
          refine lv_iinc (v := (x2 + (1 : Int32))) (lv' := [(2, .int (x2 + (1 : Int32))), (1, .int (r13 - (1 : Int32))), (0, .ref (G.1 0))]) hx hb dX7_safeNow_58 hl (k := 2) rfl rfl (by decide) rfl (fun ls hl => ?_)
          refine lv_goto (tgt := 13) hx hb dX7_safeNow_61 (by decide) ?_
          exact ih (r13 - (1 : Int32)) (x2 + (1 : Int32)) _ _ _ Z (lv_sub hl [2, 1, 0] rfl) hm
set_option maxHeartbeats 4000000 in
set_option maxRecDepth 100000 in
theorem bX7_safeNow_0 (X : gC p s m args meth c cX7_safeNow 3 wmX7_safeNow yX7_safeNow.cls (some .int) G A) {n : Nat} {g : Mem} {r : Int32} (kI : ∀ (pc : Nat) (ls : Array Slot) (H : Heap) (locs : List Loc), decode cX7_safeNow pc = .ok (.ireturn, 1) → WS wM G g A s.heap H locs → narrow .int (.int r) = .int r → W p l e { frames := 5, cells := 0, slots := 0, locals := 113 } s m args below meth c H locs 0 0 Q (F0 m pc ls [.int r])) : ∀ (H : Heap) (locs : List Loc) (ls : Array Slot), WS wM G g A s.heap H locs → lv_has ls 3 [(0, .ref (G.1 0))] → sX7_safeNow n g = some r → W p l e { frames := 5, cells := 0, slots := 0, locals := 113 } s m args below meth c H locs 0 0 Q (F0 m 0 ls []) := by
  have hx := X.1
  have hb := X.2.1
  intro H locs ls Z hl hm
  unfold sX7_safeNow at hm
  refine lv_aload_n hx hb dX7_safeNow_0 rfl (lv_at hl 0 rfl) ?_
  refine lv_aload_n hx hb dX7_safeNow_1 rfl (lv_at hl 0 rfl) ?_
  refine g_get (j := 0) (v := .ref (G.1 1)) X Z oX7 (iB7 _) rfl (by decide) rfl (List.mem_cons_of_mem _ mB602) rfl dX7_safeNow_2 ?_
  refine lv_iconst (v := 0) hx hb dX7_safeNow_5 (by decide) ?_
  obtain ⟨b1, hm⟩ := sIdx_some hm
  refine g_iald X Z aM1 b1 dX7_safeNow_6 ?_
  obtain ⟨r4, e2, hm⟩ := sBi_some hm
  refine g_callVI (n := 1) (As := [.int (g 1 (0 : Int32).toNatClampNeg)]) (rest := []) sameM X Z (cX7_safe_c l e2) oX7 rfl (gooV mB794 mB795 mB796 mB614 mB793) rfl (by decide +kernel) rfl ⟨Nat.le_of_ble_eq_true rfl, Nat.le_of_ble_eq_true rfl⟩ ⟨Nat.le_of_ble_eq_true rfl, Nat.le_of_ble_eq_true rfl⟩ hl.1 rfl (Nat.le_of_ble_eq_true rfl) dX7_safeNow_7 (fun w3 H locs Z => ?_)
  refine lv_istore_n (lv' := [(1, .int r4), (0, .ref (G.1 0))]) hx hb dX7_safeNow_10 rfl hl (by decide) rfl (fun ls hl => ?_)
  refine lv_iconst (v := 0) hx hb dX7_safeNow_11 (by decide) ?_
  refine lv_istore_n (lv' := [(2, .int 0), (1, .int r4), (0, .ref (G.1 0))]) hx hb dX7_safeNow_12 rfl hl (by decide) rfl (fun ls hl => ?_)
  exact bX7_safeNow_13 X kI n r4 (0 : Int32) _ _ _ Z (lv_sub hl [2, 1, 0] rfl) hm
theorem cX7_safeNow_c (l : Launch) {G : LY} {g : Mem} {n : Nat} {r : Int32} (hm : sX7_safeNow n g = some r) : cI l yX7_safeNow wmX7_safeNow 5 113 .int wM G [.ref (G.1 0)] g r g :=
  mk_cI sameM (by decide +kernel) rfl (Nat.le_of_ble_eq_true rfl) (fun p e s m args below meth c A Q ls X kI hl Z => bX7_safeNow_0 X kI  _ _ ls Z hl hm)
abbrev wmX7_snapshotRead : List Cond := Cond.code yX7_snapshotRead cX7_snapshotRead 3 (some .int) :: wA0
set_option maxHeartbeats 4000000 in
set_option maxRecDepth 100000 in
theorem bX7_snapshotRead_0 (X : gC p s m args meth c cX7_snapshotRead 3 wmX7_snapshotRead yX7_snapshotRead.cls (some .int) G A) {n : Nat} {r : Int32 × Mem} (kI : ∀ (pc : Nat) (ls : Array Slot) (H : Heap) (locs : List Loc), decode cX7_snapshotRead pc = .ok (.ireturn, 1) → WS wM G r.2 A s.heap H locs → narrow .int (.int r.1) = .int r.1 → W p l e { frames := 6, cells := 0, slots := 0, locals := 135 } s m args below meth c H locs 0 0 Q (F0 m pc ls [.int r.1])) : ∀ (g : Mem) (x1 : Int32) (x2 : Int32) (H : Heap) (locs : List Loc) (ls : Array Slot), WS wM G g A s.heap H locs → lv_has ls 3 [(0, .ref (G.1 0)), (1, .int x1), (2, .int x2)] → sX7_snapshotRead n g x1 x2 = some r → W p l e { frames := 6, cells := 0, slots := 0, locals := 135 } s m args below meth c H locs 0 0 Q (F0 m 0 ls []) := by
  have hx := X.1
  have hb := X.2.1
  intro g x1 x2 H locs ls Z hl hm
  unfold sX7_snapshotRead at hm
  refine lv_aload_n hx hb dX7_snapshotRead_0 rfl (lv_at hl 0 rfl) ?_
  refine lv_iload_n hx hb dX7_snapshotRead_1 rfl (lv_at hl 1 rfl) ?_
  obtain ⟨r3, e1, hm⟩ := sBi_some hm
  refine g_callSI (n := 1) (As := [.int x1]) (rest := [.ref (G.1 0)]) sameM X Z (cX7_isKey_c l e1) (gooS mB712 mB713 mB614 mB615) rfl (by decide +kernel) rfl ⟨Nat.le_of_ble_eq_true rfl, Nat.le_of_ble_eq_true rfl⟩ ⟨Nat.le_of_ble_eq_true rfl, Nat.le_of_ble_eq_true rfl⟩ hl.1 rfl (Nat.le_of_ble_eq_true rfl) dX7_snapshotRead_2 (fun w2 H locs Z => ?_)
  refine lv_if_ne (tgt := 12) hx hb dX7_snapshotRead_5 (by decide) (fun c4 => ?_) (fun c4 => ?_)
  · replace hm := (if_neg c4).symm.trans hm
    refine lv_iload_n hx hb dX7_snapshotRead_12 rfl (lv_at hl 2 rfl) ?_
    refine lv_if_ge (tgt := 20) hx hb dX7_snapshotRead_13 (by decide) (fun c5 => ?_) (fun c5 => ?_)
    · replace hm := (if_pos c5).symm.trans hm
      refine lv_iload_n hx hb dX7_snapshotRead_20 rfl (lv_at hl 2 rfl) ?_
      refine lv_aload_n hx hb dX7_snapshotRead_21 rfl (lv_at hl 0 rfl) ?_
      obtain ⟨r8, e6, hm⟩ := sBi_some hm
      refine g_callVI (n := 0) (As := []) (rest := [.int x2, .ref (G.1 0)]) sameM X Z (cX7_safeNow_c l e6) oX7 rfl (gooV mB798 mB799 mB800 mB614 mB797) rfl (by decide +kernel) rfl ⟨Nat.le_of_ble_eq_true rfl, Nat.le_of_ble_eq_true rfl⟩ ⟨Nat.le_of_ble_eq_true rfl, Nat.le_of_ble_eq_true rfl⟩ hl.1 rfl (Nat.le_of_ble_eq_true rfl) dX7_snapshotRead_22 (fun w7 H locs Z => ?_)
      refine lv_icmp_le (tgt := 32) hx hb dX7_snapshotRead_25 (by decide) (fun c9 => ?_) (fun c9 => ?_)
      · replace hm := (if_pos c9).symm.trans hm
        refine lv_iconst (v := 0) hx hb dX7_snapshotRead_32 (by decide) ?_
        obtain ⟨r12, g13, e10, hm⟩ := sBi2_some hm
        refine g_callVI (n := 1) (As := [.int 0]) (rest := []) sameM X Z (cX7_throwsAt_c l e10) oX7 rfl (gooV mB745 mB746 mB747 mB614 mB609) rfl (by decide +kernel) rfl ⟨Nat.le_of_ble_eq_true rfl, Nat.le_of_ble_eq_true rfl⟩ ⟨Nat.le_of_ble_eq_true rfl, Nat.le_of_ble_eq_true rfl⟩ hl.1 rfl (Nat.le_of_ble_eq_true rfl) dX7_snapshotRead_33 (fun w11 H locs Z => ?_)
        refine lv_if_eq (tgt := 41) hx hb dX7_snapshotRead_36 (by decide) (fun c14 => ?_) (fun c14 => ?_)
        · replace hm := (if_pos c14).symm.trans hm
          refine lv_aload_n hx hb dX7_snapshotRead_41 rfl (lv_at hl 0 rfl) ?_
          obtain ⟨g17, e15, hm⟩ := sBi_some hm
          refine g_callVV (n := 0) (As := []) (rest := []) sameM X Z (cX7_saves_c l e15) oX7 rfl (gooV mB748 mB749 mB750 mB614 mB618) rfl (by decide +kernel) rfl ⟨Nat.le_of_ble_eq_true rfl, Nat.le_of_ble_eq_true rfl⟩ ⟨Nat.le_of_ble_eq_true rfl, Nat.le_of_ble_eq_true rfl⟩ hl.1 rfl (Nat.le_of_ble_eq_true rfl) dX7_snapshotRead_42 (fun H locs Z => ?_)
          refine lv_aload_n hx hb dX7_snapshotRead_45 rfl (lv_at hl 0 rfl) ?_
          refine g_get (j := 0) (v := .ref (G.1 1)) X Z oX7 (iB7 _) rfl (by decide) rfl (List.mem_cons_of_mem _ mB602) rfl dX7_snapshotRead_46 ?_
          refine lv_iconst (v := 1) hx hb dX7_snapshotRead_49 (by decide) ?_
          refine lv_aload_n hx hb dX7_snapshotRead_50 rfl (lv_at hl 0 rfl) ?_
          refine g_get (j := 0) (v := .ref (G.1 1)) X Z oX7 (iB7 _) rfl (by decide) rfl (List.mem_cons_of_mem _ mB602) rfl dX7_snapshotRead_51 ?_
          refine lv_iconst (v := 1) hx hb dX7_snapshotRead_54 (by decide) ?_
          obtain ⟨b18, hm⟩ := sIdx_some hm
          refine g_iald X Z aM1 b18 dX7_snapshotRead_55 ?_
          refine lv_iload_n hx hb dX7_snapshotRead_56 rfl (lv_at hl 2 rfl) ?_
          obtain ⟨r21, e19, hm⟩ := sBi_some hm
          refine g_callSI (n := 2) (As := [.int (g17 1 (1 : Int32).toNatClampNeg), .int x2]) (rest := [.int 1, .ref (G.1 1)]) sameM X Z (cX7_greater_c l e19) (gooS mB675 mB676 mB614 mB617) rfl (by decide +kernel) rfl ⟨Nat.le_of_ble_eq_true rfl, Nat.le_of_ble_eq_true rfl⟩ ⟨Nat.le_of_ble_eq_true rfl, Nat.le_of_ble_eq_true rfl⟩ hl.1 rfl (Nat.le_of_ble_eq_true rfl) dX7_snapshotRead_57 (fun w20 H locs Z => ?_)
          obtain ⟨b22, hm⟩ := sIdx_some hm
          obtain ⟨g23, eg23, hm⟩ := sLet_some hm
          refine g_iast eg23 X Z aM1 b22 dX7_snapshotRead_60 (fun H locs Z => ?_)
          refine lv_aload_n hx hb dX7_snapshotRead_61 rfl (lv_at hl 0 rfl) ?_
          refine lv_iload_n hx hb dX7_snapshotRead_62 rfl (lv_at hl 1 rfl) ?_
          refine lv_iload_n hx hb dX7_snapshotRead_63 rfl (lv_at hl 2 rfl) ?_
          obtain ⟨r26, e24, hm⟩ := sBi_some hm
          refine g_callVI (n := 2) (As := [.int x1, .int x2]) (rest := []) sameM X Z (cX7_value_c l e24) oX7 rfl (gooV mB725 mB726 mB727 mB614 mB665) rfl (by decide +kernel) rfl ⟨Nat.le_of_ble_eq_true rfl, Nat.le_of_ble_eq_true rfl⟩ ⟨Nat.le_of_ble_eq_true rfl, Nat.le_of_ble_eq_true rfl⟩ hl.1 rfl (Nat.le_of_ble_eq_true rfl) dX7_snapshotRead_64 (fun w25 H locs Z => ?_)
          obtain rfl := Option.some.inj hm
          exact kI _ _ _ _ dX7_snapshotRead_67 Z (vp_nar_int _)
        · replace hm := (if_neg c14).symm.trans hm
          refine lv_iconst (v := 0) hx hb dX7_snapshotRead_39 (by decide) ?_
          obtain rfl := Option.some.inj hm
          exact kI _ _ _ _ dX7_snapshotRead_40 Z (vp_nar_int _)
      · replace hm := (if_neg c9).symm.trans hm
        refine lv_iconst (v := 3) hx hb dX7_snapshotRead_28 (by decide) ?_
        refine lv_goto (tgt := 33) hx hb dX7_snapshotRead_29 (by decide) ?_
        obtain ⟨r29, g30, e27, hm⟩ := sBi2_some hm
        refine g_callVI (n := 1) (As := [.int 3]) (rest := []) sameM X Z (cX7_throwsAt_c l e27) oX7 rfl (gooV mB745 mB746 mB747 mB614 mB609) rfl (by decide +kernel) rfl ⟨Nat.le_of_ble_eq_true rfl, Nat.le_of_ble_eq_true rfl⟩ ⟨Nat.le_of_ble_eq_true rfl, Nat.le_of_ble_eq_true rfl⟩ hl.1 rfl (Nat.le_of_ble_eq_true rfl) dX7_snapshotRead_33 (fun w28 H locs Z => ?_)
        refine lv_if_eq (tgt := 41) hx hb dX7_snapshotRead_36 (by decide) (fun c31 => ?_) (fun c31 => ?_)
        · replace hm := (if_pos c31).symm.trans hm
          refine lv_aload_n hx hb dX7_snapshotRead_41 rfl (lv_at hl 0 rfl) ?_
          obtain ⟨g34, e32, hm⟩ := sBi_some hm
          refine g_callVV (n := 0) (As := []) (rest := []) sameM X Z (cX7_saves_c l e32) oX7 rfl (gooV mB748 mB749 mB750 mB614 mB618) rfl (by decide +kernel) rfl ⟨Nat.le_of_ble_eq_true rfl, Nat.le_of_ble_eq_true rfl⟩ ⟨Nat.le_of_ble_eq_true rfl, Nat.le_of_ble_eq_true rfl⟩ hl.1 rfl (Nat.le_of_ble_eq_true rfl) dX7_snapshotRead_42 (fun H locs Z => ?_)
          refine lv_aload_n hx hb dX7_snapshotRead_45 rfl (lv_at hl 0 rfl) ?_
          refine g_get (j := 0) (v := .ref (G.1 1)) X Z oX7 (iB7 _) rfl (by decide) rfl (List.mem_cons_of_mem _ mB602) rfl dX7_snapshotRead_46 ?_
          refine lv_iconst (v := 1) hx hb dX7_snapshotRead_49 (by decide) ?_
          refine lv_aload_n hx hb dX7_snapshotRead_50 rfl (lv_at hl 0 rfl) ?_
          refine g_get (j := 0) (v := .ref (G.1 1)) X Z oX7 (iB7 _) rfl (by decide) rfl (List.mem_cons_of_mem _ mB602) rfl dX7_snapshotRead_51 ?_
          refine lv_iconst (v := 1) hx hb dX7_snapshotRead_54 (by decide) ?_
          obtain ⟨b35, hm⟩ := sIdx_some hm
          refine g_iald X Z aM1 b35 dX7_snapshotRead_55 ?_
          refine lv_iload_n hx hb dX7_snapshotRead_56 rfl (lv_at hl 2 rfl) ?_
          obtain ⟨r38, e36, hm⟩ := sBi_some hm
          refine g_callSI (n := 2) (As := [.int (g34 1 (1 : Int32).toNatClampNeg), .int x2]) (rest := [.int 1, .ref (G.1 1)]) sameM X Z (cX7_greater_c l e36) (gooS mB675 mB676 mB614 mB617) rfl (by decide +kernel) rfl ⟨Nat.le_of_ble_eq_true rfl, Nat.le_of_ble_eq_true rfl⟩ ⟨Nat.le_of_ble_eq_true rfl, Nat.le_of_ble_eq_true rfl⟩ hl.1 rfl (Nat.le_of_ble_eq_true rfl) dX7_snapshotRead_57 (fun w37 H locs Z => ?_)
          obtain ⟨b39, hm⟩ := sIdx_some hm
          obtain ⟨g40, eg40, hm⟩ := sLet_some hm
          refine g_iast eg40 X Z aM1 b39 dX7_snapshotRead_60 (fun H locs Z => ?_)
          refine lv_aload_n hx hb dX7_snapshotRead_61 rfl (lv_at hl 0 rfl) ?_
          refine lv_iload_n hx hb dX7_snapshotRead_62 rfl (lv_at hl 1 rfl) ?_
          refine lv_iload_n hx hb dX7_snapshotRead_63 rfl (lv_at hl 2 rfl) ?_
          obtain ⟨r43, e41, hm⟩ := sBi_some hm
          refine g_callVI (n := 2) (As := [.int x1, .int x2]) (rest := []) sameM X Z (cX7_value_c l e41) oX7 rfl (gooV mB725 mB726 mB727 mB614 mB665) rfl (by decide +kernel) rfl ⟨Nat.le_of_ble_eq_true rfl, Nat.le_of_ble_eq_true rfl⟩ ⟨Nat.le_of_ble_eq_true rfl, Nat.le_of_ble_eq_true rfl⟩ hl.1 rfl (Nat.le_of_ble_eq_true rfl) dX7_snapshotRead_64 (fun w42 H locs Z => ?_)
          obtain rfl := Option.some.inj hm
          exact kI _ _ _ _ dX7_snapshotRead_67 Z (vp_nar_int _)
        · replace hm := (if_neg c31).symm.trans hm
          refine lv_iconst (v := 0) hx hb dX7_snapshotRead_39 (by decide) ?_
          obtain rfl := Option.some.inj hm
          exact kI _ _ _ _ dX7_snapshotRead_40 Z (vp_nar_int _)
    · replace hm := (if_neg c5).symm.trans hm
      refine lv_iconst (v := 2) hx hb dX7_snapshotRead_16 (by decide) ?_
      refine lv_goto (tgt := 33) hx hb dX7_snapshotRead_17 (by decide) ?_
      obtain ⟨r46, g47, e44, hm⟩ := sBi2_some hm
      refine g_callVI (n := 1) (As := [.int 2]) (rest := []) sameM X Z (cX7_throwsAt_c l e44) oX7 rfl (gooV mB745 mB746 mB747 mB614 mB609) rfl (by decide +kernel) rfl ⟨Nat.le_of_ble_eq_true rfl, Nat.le_of_ble_eq_true rfl⟩ ⟨Nat.le_of_ble_eq_true rfl, Nat.le_of_ble_eq_true rfl⟩ hl.1 rfl (Nat.le_of_ble_eq_true rfl) dX7_snapshotRead_33 (fun w45 H locs Z => ?_)
      refine lv_if_eq (tgt := 41) hx hb dX7_snapshotRead_36 (by decide) (fun c48 => ?_) (fun c48 => ?_)
      · replace hm := (if_pos c48).symm.trans hm
        refine lv_aload_n hx hb dX7_snapshotRead_41 rfl (lv_at hl 0 rfl) ?_
        obtain ⟨g51, e49, hm⟩ := sBi_some hm
        refine g_callVV (n := 0) (As := []) (rest := []) sameM X Z (cX7_saves_c l e49) oX7 rfl (gooV mB748 mB749 mB750 mB614 mB618) rfl (by decide +kernel) rfl ⟨Nat.le_of_ble_eq_true rfl, Nat.le_of_ble_eq_true rfl⟩ ⟨Nat.le_of_ble_eq_true rfl, Nat.le_of_ble_eq_true rfl⟩ hl.1 rfl (Nat.le_of_ble_eq_true rfl) dX7_snapshotRead_42 (fun H locs Z => ?_)
        refine lv_aload_n hx hb dX7_snapshotRead_45 rfl (lv_at hl 0 rfl) ?_
        refine g_get (j := 0) (v := .ref (G.1 1)) X Z oX7 (iB7 _) rfl (by decide) rfl (List.mem_cons_of_mem _ mB602) rfl dX7_snapshotRead_46 ?_
        refine lv_iconst (v := 1) hx hb dX7_snapshotRead_49 (by decide) ?_
        refine lv_aload_n hx hb dX7_snapshotRead_50 rfl (lv_at hl 0 rfl) ?_
        refine g_get (j := 0) (v := .ref (G.1 1)) X Z oX7 (iB7 _) rfl (by decide) rfl (List.mem_cons_of_mem _ mB602) rfl dX7_snapshotRead_51 ?_
        refine lv_iconst (v := 1) hx hb dX7_snapshotRead_54 (by decide) ?_
        obtain ⟨b52, hm⟩ := sIdx_some hm
        refine g_iald X Z aM1 b52 dX7_snapshotRead_55 ?_
        refine lv_iload_n hx hb dX7_snapshotRead_56 rfl (lv_at hl 2 rfl) ?_
        obtain ⟨r55, e53, hm⟩ := sBi_some hm
        refine g_callSI (n := 2) (As := [.int (g51 1 (1 : Int32).toNatClampNeg), .int x2]) (rest := [.int 1, .ref (G.1 1)]) sameM X Z (cX7_greater_c l e53) (gooS mB675 mB676 mB614 mB617) rfl (by decide +kernel) rfl ⟨Nat.le_of_ble_eq_true rfl, Nat.le_of_ble_eq_true rfl⟩ ⟨Nat.le_of_ble_eq_true rfl, Nat.le_of_ble_eq_true rfl⟩ hl.1 rfl (Nat.le_of_ble_eq_true rfl) dX7_snapshotRead_57 (fun w54 H locs Z => ?_)
        obtain ⟨b56, hm⟩ := sIdx_some hm
        obtain ⟨g57, eg57, hm⟩ := sLet_some hm
        refine g_iast eg57 X Z aM1 b56 dX7_snapshotRead_60 (fun H locs Z => ?_)
        refine lv_aload_n hx hb dX7_snapshotRead_61 rfl (lv_at hl 0 rfl) ?_
        refine lv_iload_n hx hb dX7_snapshotRead_62 rfl (lv_at hl 1 rfl) ?_
        refine lv_iload_n hx hb dX7_snapshotRead_63 rfl (lv_at hl 2 rfl) ?_
        obtain ⟨r60, e58, hm⟩ := sBi_some hm
        refine g_callVI (n := 2) (As := [.int x1, .int x2]) (rest := []) sameM X Z (cX7_value_c l e58) oX7 rfl (gooV mB725 mB726 mB727 mB614 mB665) rfl (by decide +kernel) rfl ⟨Nat.le_of_ble_eq_true rfl, Nat.le_of_ble_eq_true rfl⟩ ⟨Nat.le_of_ble_eq_true rfl, Nat.le_of_ble_eq_true rfl⟩ hl.1 rfl (Nat.le_of_ble_eq_true rfl) dX7_snapshotRead_64 (fun w59 H locs Z => ?_)
        obtain rfl := Option.some.inj hm
        exact kI _ _ _ _ dX7_snapshotRead_67 Z (vp_nar_int _)
      · replace hm := (if_neg c48).symm.trans hm
        refine lv_iconst (v := 0) hx hb dX7_snapshotRead_39 (by decide) ?_
        obtain rfl := Option.some.inj hm
        exact kI _ _ _ _ dX7_snapshotRead_40 Z (vp_nar_int _)
  · replace hm := (if_pos c4).symm.trans hm
    refine lv_iconst (v := 1) hx hb dX7_snapshotRead_8 (by decide) ?_
    refine lv_goto (tgt := 33) hx hb dX7_snapshotRead_9 (by decide) ?_
    obtain ⟨r63, g64, e61, hm⟩ := sBi2_some hm
    refine g_callVI (n := 1) (As := [.int 1]) (rest := []) sameM X Z (cX7_throwsAt_c l e61) oX7 rfl (gooV mB745 mB746 mB747 mB614 mB609) rfl (by decide +kernel) rfl ⟨Nat.le_of_ble_eq_true rfl, Nat.le_of_ble_eq_true rfl⟩ ⟨Nat.le_of_ble_eq_true rfl, Nat.le_of_ble_eq_true rfl⟩ hl.1 rfl (Nat.le_of_ble_eq_true rfl) dX7_snapshotRead_33 (fun w62 H locs Z => ?_)
    refine lv_if_eq (tgt := 41) hx hb dX7_snapshotRead_36 (by decide) (fun c65 => ?_) (fun c65 => ?_)
    · replace hm := (if_pos c65).symm.trans hm
      refine lv_aload_n hx hb dX7_snapshotRead_41 rfl (lv_at hl 0 rfl) ?_
      obtain ⟨g68, e66, hm⟩ := sBi_some hm
      refine g_callVV (n := 0) (As := []) (rest := []) sameM X Z (cX7_saves_c l e66) oX7 rfl (gooV mB748 mB749 mB750 mB614 mB618) rfl (by decide +kernel) rfl ⟨Nat.le_of_ble_eq_true rfl, Nat.le_of_ble_eq_true rfl⟩ ⟨Nat.le_of_ble_eq_true rfl, Nat.le_of_ble_eq_true rfl⟩ hl.1 rfl (Nat.le_of_ble_eq_true rfl) dX7_snapshotRead_42 (fun H locs Z => ?_)
      refine lv_aload_n hx hb dX7_snapshotRead_45 rfl (lv_at hl 0 rfl) ?_
      refine g_get (j := 0) (v := .ref (G.1 1)) X Z oX7 (iB7 _) rfl (by decide) rfl (List.mem_cons_of_mem _ mB602) rfl dX7_snapshotRead_46 ?_
      refine lv_iconst (v := 1) hx hb dX7_snapshotRead_49 (by decide) ?_
      refine lv_aload_n hx hb dX7_snapshotRead_50 rfl (lv_at hl 0 rfl) ?_
      refine g_get (j := 0) (v := .ref (G.1 1)) X Z oX7 (iB7 _) rfl (by decide) rfl (List.mem_cons_of_mem _ mB602) rfl dX7_snapshotRead_51 ?_
      refine lv_iconst (v := 1) hx hb dX7_snapshotRead_54 (by decide) ?_
      obtain ⟨b69, hm⟩ := sIdx_some hm
      refine g_iald X Z aM1 b69 dX7_snapshotRead_55 ?_
      refine lv_iload_n hx hb dX7_snapshotRead_56 rfl (lv_at hl 2 rfl) ?_
      obtain ⟨r72, e70, hm⟩ := sBi_some hm
      refine g_callSI (n := 2) (As := [.int (g68 1 (1 : Int32).toNatClampNeg), .int x2]) (rest := [.int 1, .ref (G.1 1)]) sameM X Z (cX7_greater_c l e70) (gooS mB675 mB676 mB614 mB617) rfl (by decide +kernel) rfl ⟨Nat.le_of_ble_eq_true rfl, Nat.le_of_ble_eq_true rfl⟩ ⟨Nat.le_of_ble_eq_true rfl, Nat.le_of_ble_eq_true rfl⟩ hl.1 rfl (Nat.le_of_ble_eq_true rfl) dX7_snapshotRead_57 (fun w71 H locs Z => ?_)
      obtain ⟨b73, hm⟩ := sIdx_some hm
      obtain ⟨g74, eg74, hm⟩ := sLet_some hm
      refine g_iast eg74 X Z aM1 b73 dX7_snapshotRead_60 (fun H locs Z => ?_)
      refine lv_aload_n hx hb dX7_snapshotRead_61 rfl (lv_at hl 0 rfl) ?_
      refine lv_iload_n hx hb dX7_snapshotRead_62 rfl (lv_at hl 1 rfl) ?_
      refine lv_iload_n hx hb dX7_snapshotRead_63 rfl (lv_at hl 2 rfl) ?_
      obtain ⟨r77, e75, hm⟩ := sBi_some hm
      refine g_callVI (n := 2) (As := [.int x1, .int x2]) (rest := []) sameM X Z (cX7_value_c l e75) oX7 rfl (gooV mB725 mB726 mB727 mB614 mB665) rfl (by decide +kernel) rfl ⟨Nat.le_of_ble_eq_true rfl, Nat.le_of_ble_eq_true rfl⟩ ⟨Nat.le_of_ble_eq_true rfl, Nat.le_of_ble_eq_true rfl⟩ hl.1 rfl (Nat.le_of_ble_eq_true rfl) dX7_snapshotRead_64 (fun w76 H locs Z => ?_)
      obtain rfl := Option.some.inj hm
      exact kI _ _ _ _ dX7_snapshotRead_67 Z (vp_nar_int _)
    · replace hm := (if_neg c65).symm.trans hm
      refine lv_iconst (v := 0) hx hb dX7_snapshotRead_39 (by decide) ?_
      obtain rfl := Option.some.inj hm
      exact kI _ _ _ _ dX7_snapshotRead_40 Z (vp_nar_int _)
theorem cX7_snapshotRead_c (l : Launch) {G : LY} {g : Mem} {n : Nat} {x1 : Int32} {x2 : Int32} {r : Int32 × Mem} (hm : sX7_snapshotRead n g x1 x2 = some r) : cI l yX7_snapshotRead wmX7_snapshotRead 6 135 .int wM G [.ref (G.1 0), .int x1, .int x2] g r.1 r.2 :=
  mk_cI sameM (by decide +kernel) rfl (Nat.le_of_ble_eq_true rfl) (fun p e s m args below meth c A Q ls X kI hl Z => bX7_snapshotRead_0 X kI g x1 x2 _ _ ls Z hl hm)
abbrev wmX7_appendText : List Cond := Cond.code yX7_appendText cX7_appendText 2 (some .int) :: wA0
set_option maxHeartbeats 4000000 in
set_option maxRecDepth 100000 in
theorem bX7_appendText_0 (X : gC p s m args meth c cX7_appendText 2 wmX7_appendText yX7_appendText.cls (some .int) G A) {r : Int32 × Mem} (kI : ∀ (pc : Nat) (ls : Array Slot) (H : Heap) (locs : List Loc), decode cX7_appendText pc = .ok (.ireturn, 1) → WS wM G r.2 A s.heap H locs → narrow .int (.int r.1) = .int r.1 → W p l e { frames := 1, cells := 0, slots := 0, locals := 22 } s m args below meth c H locs 0 0 Q (F0 m pc ls [.int r.1])) : ∀ (g : Mem) (x1 : Int32) (H : Heap) (locs : List Loc) (ls : Array Slot), WS wM G g A s.heap H locs → lv_has ls 2 [(0, .ref (G.1 0)), (1, .int x1)] → sX7_appendText g x1 = some r → W p l e { frames := 1, cells := 0, slots := 0, locals := 22 } s m args below meth c H locs 0 0 Q (F0 m 0 ls []) := by
  have hx := X.1
  have hb := X.2.1
  intro g x1 H locs ls Z hl hm
  unfold sX7_appendText at hm
  refine lv_aload_n hx hb dX7_appendText_0 rfl (lv_at hl 0 rfl) ?_
  refine lv_iload_n hx hb dX7_appendText_1 rfl (lv_at hl 1 rfl) ?_
  refine lv_bipush (v := 32) hx hb dX7_appendText_2 (by decide) ?_
  refine lv_bipush (v := 126) hx hb dX7_appendText_4 (by decide) ?_
  obtain ⟨r3, e1, hm⟩ := sBi_some hm
  refine g_callSI (n := 3) (As := [.int x1, .int 32, .int 126]) (rest := [.ref (G.1 0)]) sameM X Z (cX7_in_c l e1) (gooS mB612 mB613 mB614 mB610) rfl (by decide +kernel) rfl ⟨Nat.le_of_ble_eq_true rfl, Nat.le_of_ble_eq_true rfl⟩ ⟨Nat.le_of_ble_eq_true rfl, Nat.le_of_ble_eq_true rfl⟩ hl.1 rfl (Nat.le_of_ble_eq_true rfl) dX7_appendText_6 (fun w2 H locs Z => ?_)
  refine lv_if_ne (tgt := 16) hx hb dX7_appendText_9 (by decide) (fun c4 => ?_) (fun c4 => ?_)
  · replace hm := (if_neg c4).symm.trans hm
    refine lv_aload_n hx hb dX7_appendText_16 rfl (lv_at hl 0 rfl) ?_
    refine g_get (j := 6) (v := .int (g 0 6)) X Z oX7 (iB7 _) rfl (by decide) rfl (List.mem_cons_of_mem _ mB803) rfl dX7_appendText_17 ?_
    refine lv_bipush (v := 80) hx hb dX7_appendText_20 (by decide) ?_
    refine lv_icmp_ne (tgt := 29) hx hb dX7_appendText_22 (by decide) (fun c5 => ?_) (fun c5 => ?_)
    · replace hm := (if_neg c5).symm.trans hm
      refine lv_iconst (v := 0) hx hb dX7_appendText_29 (by decide) ?_
      obtain ⟨r8, g9, e6, hm⟩ := sBi2_some hm
      refine g_callVI (n := 1) (As := [.int 0]) (rest := []) sameM X Z (cX7_throwsAt_c l e6) oX7 rfl (gooV mB745 mB746 mB747 mB614 mB609) rfl (by decide +kernel) rfl ⟨Nat.le_of_ble_eq_true rfl, Nat.le_of_ble_eq_true rfl⟩ ⟨Nat.le_of_ble_eq_true rfl, Nat.le_of_ble_eq_true rfl⟩ hl.1 rfl (Nat.le_of_ble_eq_true rfl) dX7_appendText_30 (fun w7 H locs Z => ?_)
      refine lv_if_eq (tgt := 38) hx hb dX7_appendText_33 (by decide) (fun c10 => ?_) (fun c10 => ?_)
      · replace hm := (if_pos c10).symm.trans hm
        refine lv_aload_n hx hb dX7_appendText_38 rfl (lv_at hl 0 rfl) ?_
        refine g_get (j := 5) (v := .ref (G.1 5)) X Z oX7 (iB7 _) rfl (by decide) rfl (List.mem_cons_of_mem _ mB606) rfl dX7_appendText_39 ?_
        refine lv_aload_n hx hb dX7_appendText_42 rfl (lv_at hl 0 rfl) ?_
        refine g_get (j := 6) (v := .int (g9 0 6)) X Z oX7 (iB7 _) rfl (by decide) rfl (List.mem_cons_of_mem _ mB803) rfl dX7_appendText_43 ?_
        refine lv_iload_n hx hb dX7_appendText_46 rfl (lv_at hl 1 rfl) ?_
        obtain ⟨b11, hm⟩ := sIdx_some hm
        obtain ⟨g12, eg12, hm⟩ := sLet_some hm
        refine g_iast eg12 X Z aM5 b11 dX7_appendText_47 (fun H locs Z => ?_)
        refine lv_aload_n hx hb dX7_appendText_48 rfl (lv_at hl 0 rfl) ?_
        refine lv_dup hx hb dX7_appendText_49 rfl ?_
        refine g_get (j := 6) (v := .int (g12 0 6)) X Z oX7 (iB7 _) rfl (by decide) rfl (List.mem_cons_of_mem _ mB803) rfl dX7_appendText_50 ?_
        refine lv_iconst (v := 1) hx hb dX7_appendText_53 (by decide) ?_
        refine lv_iadd hx hb dX7_appendText_54 ?_
        obtain ⟨g13, eg13, hm⟩ := sLet_some hm
        refine g_put (j := 6) eg13 X Z oX7 (iB7 _) rfl tyX7_ok nmX7 (by decide) rfl rfl (Nat.le_of_ble_eq_true rfl) (p7_6 G g12 ((g12 0 6) + (1 : Int32))) rfl (List.mem_cons_of_mem _ mB803) dX7_appendText_55 (fun H locs Z => ?_)
        refine lv_aload_n hx hb dX7_appendText_58 rfl (lv_at hl 0 rfl) ?_
        refine g_get (j := 6) (v := .int (g13 0 6)) X Z oX7 (iB7 _) rfl (by decide) rfl (List.mem_cons_of_mem _ mB803) rfl dX7_appendText_59 ?_
        obtain rfl := Option.some.inj hm
        exact kI _ _ _ _ dX7_appendText_62 Z (vp_nar_int _)
      · replace hm := (if_neg c10).symm.trans hm
        refine lv_iconst (v := 0) hx hb dX7_appendText_36 (by decide) ?_
        obtain rfl := Option.some.inj hm
        exact kI _ _ _ _ dX7_appendText_37 Z (vp_nar_int _)
    · replace hm := (if_pos c5).symm.trans hm
      refine lv_iconst (v := 2) hx hb dX7_appendText_25 (by decide) ?_
      refine lv_goto (tgt := 30) hx hb dX7_appendText_26 (by decide) ?_
      obtain ⟨r16, g17, e14, hm⟩ := sBi2_some hm
      refine g_callVI (n := 1) (As := [.int 2]) (rest := []) sameM X Z (cX7_throwsAt_c l e14) oX7 rfl (gooV mB745 mB746 mB747 mB614 mB609) rfl (by decide +kernel) rfl ⟨Nat.le_of_ble_eq_true rfl, Nat.le_of_ble_eq_true rfl⟩ ⟨Nat.le_of_ble_eq_true rfl, Nat.le_of_ble_eq_true rfl⟩ hl.1 rfl (Nat.le_of_ble_eq_true rfl) dX7_appendText_30 (fun w15 H locs Z => ?_)
      refine lv_if_eq (tgt := 38) hx hb dX7_appendText_33 (by decide) (fun c18 => ?_) (fun c18 => ?_)
      · replace hm := (if_pos c18).symm.trans hm
        refine lv_aload_n hx hb dX7_appendText_38 rfl (lv_at hl 0 rfl) ?_
        refine g_get (j := 5) (v := .ref (G.1 5)) X Z oX7 (iB7 _) rfl (by decide) rfl (List.mem_cons_of_mem _ mB606) rfl dX7_appendText_39 ?_
        refine lv_aload_n hx hb dX7_appendText_42 rfl (lv_at hl 0 rfl) ?_
        refine g_get (j := 6) (v := .int (g17 0 6)) X Z oX7 (iB7 _) rfl (by decide) rfl (List.mem_cons_of_mem _ mB803) rfl dX7_appendText_43 ?_
        refine lv_iload_n hx hb dX7_appendText_46 rfl (lv_at hl 1 rfl) ?_
        obtain ⟨b19, hm⟩ := sIdx_some hm
        obtain ⟨g20, eg20, hm⟩ := sLet_some hm
        refine g_iast eg20 X Z aM5 b19 dX7_appendText_47 (fun H locs Z => ?_)
        refine lv_aload_n hx hb dX7_appendText_48 rfl (lv_at hl 0 rfl) ?_
        refine lv_dup hx hb dX7_appendText_49 rfl ?_
        refine g_get (j := 6) (v := .int (g20 0 6)) X Z oX7 (iB7 _) rfl (by decide) rfl (List.mem_cons_of_mem _ mB803) rfl dX7_appendText_50 ?_
        refine lv_iconst (v := 1) hx hb dX7_appendText_53 (by decide) ?_
        refine lv_iadd hx hb dX7_appendText_54 ?_
        obtain ⟨g21, eg21, hm⟩ := sLet_some hm
        refine g_put (j := 6) eg21 X Z oX7 (iB7 _) rfl tyX7_ok nmX7 (by decide) rfl rfl (Nat.le_of_ble_eq_true rfl) (p7_6 G g20 ((g20 0 6) + (1 : Int32))) rfl (List.mem_cons_of_mem _ mB803) dX7_appendText_55 (fun H locs Z => ?_)
        refine lv_aload_n hx hb dX7_appendText_58 rfl (lv_at hl 0 rfl) ?_
        refine g_get (j := 6) (v := .int (g21 0 6)) X Z oX7 (iB7 _) rfl (by decide) rfl (List.mem_cons_of_mem _ mB803) rfl dX7_appendText_59 ?_
        obtain rfl := Option.some.inj hm
        exact kI _ _ _ _ dX7_appendText_62 Z (vp_nar_int _)
      · replace hm := (if_neg c18).symm.trans hm
        refine lv_iconst (v := 0) hx hb dX7_appendText_36 (by decide) ?_
        obtain rfl := Option.some.inj hm
        exact kI _ _ _ _ dX7_appendText_37 Z (vp_nar_int _)
  · replace hm := (if_pos c4).symm.trans hm
    refine lv_iconst (v := 1) hx hb dX7_appendText_12 (by decide) ?_
    refine lv_goto (tgt := 30) hx hb dX7_appendText_13 (by decide) ?_
    obtain ⟨r24, g25, e22, hm⟩ := sBi2_some hm
    refine g_callVI (n := 1) (As := [.int 1]) (rest := []) sameM X Z (cX7_throwsAt_c l e22) oX7 rfl (gooV mB745 mB746 mB747 mB614 mB609) rfl (by decide +kernel) rfl ⟨Nat.le_of_ble_eq_true rfl, Nat.le_of_ble_eq_true rfl⟩ ⟨Nat.le_of_ble_eq_true rfl, Nat.le_of_ble_eq_true rfl⟩ hl.1 rfl (Nat.le_of_ble_eq_true rfl) dX7_appendText_30 (fun w23 H locs Z => ?_)
    refine lv_if_eq (tgt := 38) hx hb dX7_appendText_33 (by decide) (fun c26 => ?_) (fun c26 => ?_)
    · replace hm := (if_pos c26).symm.trans hm
      refine lv_aload_n hx hb dX7_appendText_38 rfl (lv_at hl 0 rfl) ?_
      refine g_get (j := 5) (v := .ref (G.1 5)) X Z oX7 (iB7 _) rfl (by decide) rfl (List.mem_cons_of_mem _ mB606) rfl dX7_appendText_39 ?_
      refine lv_aload_n hx hb dX7_appendText_42 rfl (lv_at hl 0 rfl) ?_
      refine g_get (j := 6) (v := .int (g25 0 6)) X Z oX7 (iB7 _) rfl (by decide) rfl (List.mem_cons_of_mem _ mB803) rfl dX7_appendText_43 ?_
      refine lv_iload_n hx hb dX7_appendText_46 rfl (lv_at hl 1 rfl) ?_
      obtain ⟨b27, hm⟩ := sIdx_some hm
      obtain ⟨g28, eg28, hm⟩ := sLet_some hm
      refine g_iast eg28 X Z aM5 b27 dX7_appendText_47 (fun H locs Z => ?_)
      refine lv_aload_n hx hb dX7_appendText_48 rfl (lv_at hl 0 rfl) ?_
      refine lv_dup hx hb dX7_appendText_49 rfl ?_
      refine g_get (j := 6) (v := .int (g28 0 6)) X Z oX7 (iB7 _) rfl (by decide) rfl (List.mem_cons_of_mem _ mB803) rfl dX7_appendText_50 ?_
      refine lv_iconst (v := 1) hx hb dX7_appendText_53 (by decide) ?_
      refine lv_iadd hx hb dX7_appendText_54 ?_
      obtain ⟨g29, eg29, hm⟩ := sLet_some hm
      refine g_put (j := 6) eg29 X Z oX7 (iB7 _) rfl tyX7_ok nmX7 (by decide) rfl rfl (Nat.le_of_ble_eq_true rfl) (p7_6 G g28 ((g28 0 6) + (1 : Int32))) rfl (List.mem_cons_of_mem _ mB803) dX7_appendText_55 (fun H locs Z => ?_)
      refine lv_aload_n hx hb dX7_appendText_58 rfl (lv_at hl 0 rfl) ?_
      refine g_get (j := 6) (v := .int (g29 0 6)) X Z oX7 (iB7 _) rfl (by decide) rfl (List.mem_cons_of_mem _ mB803) rfl dX7_appendText_59 ?_
      obtain rfl := Option.some.inj hm
      exact kI _ _ _ _ dX7_appendText_62 Z (vp_nar_int _)
    · replace hm := (if_neg c26).symm.trans hm
      refine lv_iconst (v := 0) hx hb dX7_appendText_36 (by decide) ?_
      obtain rfl := Option.some.inj hm
      exact kI _ _ _ _ dX7_appendText_37 Z (vp_nar_int _)
theorem cX7_appendText_c (l : Launch) {G : LY} {g : Mem} {x1 : Int32} {r : Int32 × Mem} (hm : sX7_appendText g x1 = some r) : cI l yX7_appendText wmX7_appendText 1 22 .int wM G [.ref (G.1 0), .int x1] g r.1 r.2 :=
  mk_cI sameM (by decide +kernel) rfl (Nat.le_of_ble_eq_true rfl) (fun p e s m args below meth c A Q ls X kI hl Z => bX7_appendText_0 X kI g x1 _ _ ls Z hl hm)
abbrev wmX7_clearText : List Cond := Cond.code yX7_clearText cX7_clearText 2 (some .int) :: wA0
set_option maxHeartbeats 4000000 in
set_option maxRecDepth 100000 in
theorem bX7_clearText_0 (X : gC p s m args meth c cX7_clearText 2 wmX7_clearText yX7_clearText.cls (some .int) G A) {r : Int32 × Mem} (kI : ∀ (pc : Nat) (ls : Array Slot) (H : Heap) (locs : List Loc), decode cX7_clearText pc = .ok (.ireturn, 1) → WS wM G r.2 A s.heap H locs → narrow .int (.int r.1) = .int r.1 → W p l e { frames := 0, cells := 0, slots := 0, locals := 0 } s m args below meth c H locs 0 0 Q (F0 m pc ls [.int r.1])) : ∀ (g : Mem) (H : Heap) (locs : List Loc) (ls : Array Slot), WS wM G g A s.heap H locs → lv_has ls 2 [(0, .ref (G.1 0))] → sX7_clearText g = some r → W p l e { frames := 0, cells := 0, slots := 0, locals := 0 } s m args below meth c H locs 0 0 Q (F0 m 0 ls []) := by
  have hx := X.1
  have hb := X.2.1
  intro g H locs ls Z hl hm
  unfold sX7_clearText at hm
  refine lv_aload_n hx hb dX7_clearText_0 rfl (lv_at hl 0 rfl) ?_
  refine lv_iconst (v := 0) hx hb dX7_clearText_1 (by decide) ?_
  obtain ⟨g1, eg1, hm⟩ := sLet_some hm
  refine g_put (j := 7) eg1 X Z oX7 (iB7 _) rfl tyX7_ok nmX7 (by decide) rfl rfl (Nat.le_of_ble_eq_true rfl) (p7_7 G g (0 : Int32)) rfl (List.mem_cons_of_mem _ mB608) dX7_clearText_2 (fun H locs Z => ?_)
  refine lv_aload_n hx hb dX7_clearText_5 rfl (lv_at hl 0 rfl) ?_
  refine g_get (j := 6) (v := .int (g1 0 6)) X Z oX7 (iB7 _) rfl (by decide) rfl (List.mem_cons_of_mem _ mB803) rfl dX7_clearText_6 ?_
  refine lv_istore_n (lv' := [(1, .int (g1 0 6)), (0, .ref (G.1 0))]) hx hb dX7_clearText_9 rfl hl (by decide) rfl (fun ls hl => ?_)
  refine lv_aload_n hx hb dX7_clearText_10 rfl (lv_at hl 1 rfl) ?_
  refine lv_iconst (v := 0) hx hb dX7_clearText_11 (by decide) ?_
  obtain ⟨g2, eg2, hm⟩ := sLet_some hm
  refine g_put (j := 6) eg2 X Z oX7 (iB7 _) rfl tyX7_ok nmX7 (by decide) rfl rfl (Nat.le_of_ble_eq_true rfl) (p7_6 G g1 (0 : Int32)) rfl (List.mem_cons_of_mem _ mB803) dX7_clearText_12 (fun H locs Z => ?_)
  refine lv_iload_n hx hb dX7_clearText_15 rfl (lv_at hl 0 rfl) ?_
  obtain rfl := Option.some.inj hm
  exact kI _ _ _ _ dX7_clearText_16 Z (vp_nar_int _)
theorem cX7_clearText_c (l : Launch) {G : LY} {g : Mem} {r : Int32 × Mem} (hm : sX7_clearText g = some r) : cI l yX7_clearText wmX7_clearText 0 0 .int wM G [.ref (G.1 0)] g r.1 r.2 :=
  mk_cI sameM (by decide +kernel) rfl (Nat.le_of_ble_eq_true rfl) (fun p e s m args below meth c A Q ls X kI hl Z => bX7_clearText_0 X kI g  _ _ ls Z hl hm)
abbrev wmX7_sign : List Cond := Cond.code yX7_sign cX7_sign 2 (some .int) :: wA0
set_option maxHeartbeats 4000000 in
set_option maxRecDepth 100000 in
theorem bX7_sign_0 (X : gC p s m args meth c cX7_sign 2 wmX7_sign yX7_sign.cls (some .int) G A) {g : Mem} {r : Int32} (kI : ∀ (pc : Nat) (ls : Array Slot) (H : Heap) (locs : List Loc), decode cX7_sign pc = .ok (.ireturn, 1) → WS wM G g A s.heap H locs → narrow .int (.int r) = .int r → W p l e { frames := 0, cells := 0, slots := 0, locals := 0 } s m args below meth c H locs 0 0 Q (F0 m pc ls [.int r])) : ∀ (x1 : Int32) (H : Heap) (locs : List Loc) (ls : Array Slot), WS wM G g A s.heap H locs → lv_has ls 2 [(0, .ref (G.1 0)), (1, .int x1)] → sX7_sign g x1 = some r → W p l e { frames := 0, cells := 0, slots := 0, locals := 0 } s m args below meth c H locs 0 0 Q (F0 m 0 ls []) := by
  have hx := X.1
  have hb := X.2.1
  intro x1 H locs ls Z hl hm
  unfold sX7_sign at hm
  refine lv_iload_n hx hb dX7_sign_0 rfl (lv_at hl 1 rfl) ?_
  refine lv_aload_n hx hb dX7_sign_1 rfl (lv_at hl 0 rfl) ?_
  refine g_get (j := 6) (v := .int (g 0 6)) X Z oX7 (iB7 _) rfl (by decide) rfl (List.mem_cons_of_mem _ mB803) rfl dX7_sign_2 ?_
  refine lv_icmp_ge (tgt := 17) hx hb dX7_sign_5 (by decide) (fun c1 => ?_) (fun c1 => ?_)
  · replace hm := (if_pos c1).symm.trans hm
    refine lv_iconst (v := (-1)) hx hb dX7_sign_17 (by decide) ?_
    obtain rfl := Option.some.inj hm
    exact kI _ _ _ _ dX7_sign_18 Z (vp_nar_int _)
  · replace hm := (if_neg c1).symm.trans hm
    refine lv_aload_n hx hb dX7_sign_8 rfl (lv_at hl 0 rfl) ?_
    refine g_get (j := 5) (v := .ref (G.1 5)) X Z oX7 (iB7 _) rfl (by decide) rfl (List.mem_cons_of_mem _ mB606) rfl dX7_sign_9 ?_
    refine lv_iload_n hx hb dX7_sign_12 rfl (lv_at hl 1 rfl) ?_
    obtain ⟨b2, hm⟩ := sIdx_some hm
    refine g_iald X Z aM5 b2 dX7_sign_13 ?_
    refine lv_goto (tgt := 18) hx hb dX7_sign_14 (by decide) ?_
    obtain rfl := Option.some.inj hm
    exact kI _ _ _ _ dX7_sign_18 Z (vp_nar_int _)
theorem cX7_sign_c (l : Launch) {G : LY} {g : Mem} {x1 : Int32} {r : Int32} (hm : sX7_sign g x1 = some r) : cI l yX7_sign wmX7_sign 0 0 .int wM G [.ref (G.1 0), .int x1] g r g :=
  mk_cI sameM (by decide +kernel) rfl (Nat.le_of_ble_eq_true rfl) (fun p e s m args below meth c A Q ls X kI hl Z => bX7_sign_0 X kI x1 _ _ ls Z hl hm)
abbrev wmX7_digit : List Cond := Cond.code yX7_digit cX7_digit 2 (some .int) :: wA0
set_option maxHeartbeats 4000000 in
set_option maxRecDepth 100000 in
theorem bX7_digit_0 (X : gC p s m args meth c cX7_digit 2 wmX7_digit yX7_digit.cls (some .int) G A) {g : Mem} {r : Int32} (kI : ∀ (pc : Nat) (ls : Array Slot) (H : Heap) (locs : List Loc), decode cX7_digit pc = .ok (.ireturn, 1) → WS wM G g A s.heap H locs → narrow .int (.int r) = .int r → W p l e { frames := 1, cells := 0, slots := 0, locals := 22 } s m args below meth c H locs 0 0 Q (F0 m pc ls [.int r])) : ∀ (x1 : Int32) (H : Heap) (locs : List Loc) (ls : Array Slot), WS wM G g A s.heap H locs → lv_has ls 2 [(0, .ref (G.1 0)), (1, .int x1)] → sX7_digit g x1 = some r → W p l e { frames := 1, cells := 0, slots := 0, locals := 22 } s m args below meth c H locs 0 0 Q (F0 m 0 ls []) := by
  have hx := X.1
  have hb := X.2.1
  intro x1 H locs ls Z hl hm
  unfold sX7_digit at hm
  refine lv_aload_n hx hb dX7_digit_0 rfl (lv_at hl 0 rfl) ?_
  refine lv_iload_n hx hb dX7_digit_1 rfl (lv_at hl 1 rfl) ?_
  obtain ⟨r3, e1, hm⟩ := sBi_some hm
  refine g_callVI (n := 1) (As := [.int x1]) (rest := []) sameM X Z (cX7_sign_c l e1) oX7 rfl (gooV mB807 mB808 mB809 mB614 mB805) rfl (by decide +kernel) rfl ⟨Nat.le_of_ble_eq_true rfl, Nat.le_of_ble_eq_true rfl⟩ ⟨Nat.le_of_ble_eq_true rfl, Nat.le_of_ble_eq_true rfl⟩ hl.1 rfl (Nat.le_of_ble_eq_true rfl) dX7_digit_2 (fun w2 H locs Z => ?_)
  refine lv_bipush (v := 48) hx hb dX7_digit_5 (by decide) ?_
  refine lv_bipush (v := 57) hx hb dX7_digit_7 (by decide) ?_
  obtain ⟨r6, e4, hm⟩ := sBi_some hm
  refine g_callSI (n := 3) (As := [.int r3, .int 48, .int 57]) (rest := []) sameM X Z (cX7_in_c l e4) (gooS mB612 mB613 mB614 mB610) rfl (by decide +kernel) rfl ⟨Nat.le_of_ble_eq_true rfl, Nat.le_of_ble_eq_true rfl⟩ ⟨Nat.le_of_ble_eq_true rfl, Nat.le_of_ble_eq_true rfl⟩ hl.1 rfl (Nat.le_of_ble_eq_true rfl) dX7_digit_9 (fun w5 H locs Z => ?_)
  refine lv_if_eq (tgt := 26) hx hb dX7_digit_12 (by decide) (fun c7 => ?_) (fun c7 => ?_)
  · replace hm := (if_pos c7).symm.trans hm
    refine lv_iconst (v := (-1)) hx hb dX7_digit_26 (by decide) ?_
    obtain rfl := Option.some.inj hm
    exact kI _ _ _ _ dX7_digit_27 Z (vp_nar_int _)
  · replace hm := (if_neg c7).symm.trans hm
    refine lv_aload_n hx hb dX7_digit_15 rfl (lv_at hl 0 rfl) ?_
    refine lv_iload_n hx hb dX7_digit_16 rfl (lv_at hl 1 rfl) ?_
    obtain ⟨r10, e8, hm⟩ := sBi_some hm
    refine g_callVI (n := 1) (As := [.int x1]) (rest := []) sameM X Z (cX7_sign_c l e8) oX7 rfl (gooV mB807 mB808 mB809 mB614 mB805) rfl (by decide +kernel) rfl ⟨Nat.le_of_ble_eq_true rfl, Nat.le_of_ble_eq_true rfl⟩ ⟨Nat.le_of_ble_eq_true rfl, Nat.le_of_ble_eq_true rfl⟩ hl.1 rfl (Nat.le_of_ble_eq_true rfl) dX7_digit_17 (fun w9 H locs Z => ?_)
    refine lv_bipush (v := 48) hx hb dX7_digit_20 (by decide) ?_
    refine lv_isub hx hb dX7_digit_22 ?_
    refine lv_goto (tgt := 27) hx hb dX7_digit_23 (by decide) ?_
    obtain rfl := Option.some.inj hm
    exact kI _ _ _ _ dX7_digit_27 Z (vp_nar_int _)
theorem cX7_digit_c (l : Launch) {G : LY} {g : Mem} {x1 : Int32} {r : Int32} (hm : sX7_digit g x1 = some r) : cI l yX7_digit wmX7_digit 1 22 .int wM G [.ref (G.1 0), .int x1] g r g :=
  mk_cI sameM (by decide +kernel) rfl (Nat.le_of_ble_eq_true rfl) (fun p e s m args below meth c A Q ls X kI hl Z => bX7_digit_0 X kI x1 _ _ ls Z hl hm)
abbrev wmX7_numberEnd : List Cond := Cond.code yX7_numberEnd cX7_numberEnd 6 (some .int) :: wA0
set_option maxHeartbeats 4000000 in
set_option maxRecDepth 100000 in
theorem bX7_numberEnd_34 (X : gC p s m args meth c cX7_numberEnd 6 wmX7_numberEnd yX7_numberEnd.cls (some .int) G A) {n : Nat} {g : Mem} {r : Int32} (kI : ∀ (pc : Nat) (ls : Array Slot) (H : Heap) (locs : List Loc), decode cX7_numberEnd pc = .ok (.ireturn, 1) → WS wM G g A s.heap H locs → narrow .int (.int r) = .int r → W p l e { frames := 2, cells := 0, slots := 0, locals := 43 } s m args below meth c H locs 0 0 Q (F0 m pc ls [.int r])) : ∀ (f : Nat), ∀ (x3 : Int32) (x4 : Int32) (x5 : Int32) (H : Heap) (locs : List Loc) (ls : Array Slot), WS wM G g A s.heap H locs → lv_has ls 6 [(0, .ref (G.1 0)), (3, .int x3), (4, .int x4), (5, .int x5)] → sX7_numberEnd_34 n g f x3 x4 x5 = some r → W p l e { frames := 2, cells := 0, slots := 0, locals := 43 } s m args below meth c H locs 0 0 Q (F0 m 34 ls []) := by
  have hx := X.1
  have hb := X.2.1
  intro f
  induction f with
  | zero =>
    intro x3 x4 x5 H locs ls Z hl hm
    cases hm
  | succ f ih =>
    intro x3 x4 x5 H locs ls Z hl hm
    unfold sX7_numberEnd_34 at hm
    refine lv_iload hx hb dX7_numberEnd_34 (lv_at hl 2 rfl) ?_
    refine lv_if_le (tgt := 84) hx hb dX7_numberEnd_36 (by decide) (fun c1 => ?_) (fun c1 => ?_)
    · replace hm := (if_pos c1).symm.trans hm
      refine lv_iload hx hb dX7_numberEnd_84 (lv_at hl 3 rfl) ?_
      obtain rfl := Option.some.inj hm
      exact kI _ _ _ _ dX7_numberEnd_86 Z (vp_nar_int _)
    · replace hm := (if_neg c1).symm.trans hm
      refine lv_aload_n hx hb dX7_numberEnd_39 rfl (lv_at hl 0 rfl) ?_
      refine lv_iload hx hb dX7_numberEnd_40 (lv_at hl 3 rfl) ?_
      obtain ⟨r4, e2, hm⟩ := sBi_some hm
      refine g_callVI (n := 1) (As := [.int x5]) (rest := []) sameM X Z (cX7_digit_c l e2) oX7 rfl (gooV mB811 mB812 mB813 mB614 mB806) rfl (by decide +kernel) rfl ⟨Nat.le_of_ble_eq_true rfl, Nat.le_of_ble_eq_true rfl⟩ ⟨Nat.le_of_ble_eq_true rfl, Nat.le_of_ble_eq_true rfl⟩ hl.1 rfl (Nat.le_of_ble_eq_true rfl) dX7_numberEnd_42 (fun w3 H locs Z => ?_)
      refine lv_if_lt (tgt := 84) hx hb dX7_numberEnd_45 (by decide) (fun c5 => ?_) (fun c5 => ?_)
      · replace hm := (if_pos c5).symm.trans hm
        refine lv_iload hx hb dX7_numberEnd_84 (lv_at hl 3 rfl) ?_
        obtain rfl := Option.some.inj hm
        exact kI _ _ _ _ dX7_numberEnd_86 Z (vp_nar_int _)
      · replace hm := (if_neg c5).symm.trans hm
        refine lv_bipush (v := 10) hx hb dX7_numberEnd_48 (by decide) ?_
        refine lv_iload hx hb dX7_numberEnd_50 (lv_at hl 2 rfl) ?_
        refine lv_imul hx hb dX7_numberEnd_52 ?_
        refine lv_aload_n hx hb dX7_numberEnd_53 rfl (lv_at hl 0 rfl) ?_
        refine lv_iload hx hb dX7_numberEnd_54 (lv_at hl 3 rfl) ?_
        obtain ⟨r8, e6, hm⟩ := sBi_some hm
        refine g_callVI (n := 1) (As := [.int x5]) (rest := [.int ((10 : Int32) * x4)]) sameM X Z (cX7_digit_c l e6) oX7 rfl (gooV mB811 mB812 mB813 mB614 mB806) rfl (by decide +kernel) rfl ⟨Nat.le_of_ble_eq_true rfl, Nat.le_of_ble_eq_true rfl⟩ ⟨Nat.le_of_ble_eq_true rfl, Nat.le_of_ble_eq_true rfl⟩ hl.1 rfl (Nat.le_of_ble_eq_true rfl) dX7_numberEnd_56 (fun w7 H locs Z => ?_)
        refine lv_iadd hx hb dX7_numberEnd_59 ?_
        refine lv_iload_n hx hb dX7_numberEnd_60 rfl (lv_at hl 1 rfl) ?_
        refine lv_icmp_gt (tgt := 84) hx hb dX7_numberEnd_61 (by decide) (fun c9 => ?_) (fun c9 => ?_)
        · replace hm := (if_pos c9).symm.trans hm
          refine lv_iload hx hb dX7_numberEnd_84 (lv_at hl 3 rfl) ?_
          obtain rfl := Option.some.inj hm
          exact kI _ _ _ _ dX7_numberEnd_86 Z (vp_nar_int _)
        · replace hm := (if_neg c9).symm.trans hm
          refine lv_bipush (v := 10) hx hb dX7_numberEnd_64 (by decide) ?_
          refine lv_iload hx hb dX7_numberEnd_66 (lv_at hl 2 rfl) ?_
          refine lv_imul hx hb dX7_numberEnd_68 ?_
          refine lv_aload_n hx hb dX7_numberEnd_69 rfl (lv_at hl 0 rfl) ?_
          refine lv_iload hx hb dX7_numberEnd_70 (lv_at hl 3 rfl) ?_
          obtain ⟨r12, e10, hm⟩ := sBi_some hm
          refine g_callVI (n := 1) (As := [.int x5]) (rest := [.int ((10 : Int32) * x4)]) sameM X Z (cX7_digit_c l e10) oX7 rfl (gooV mB811 mB812 mB813 mB614 mB806) rfl (by decide +kernel) rfl ⟨Nat.le_of_ble_eq_true rfl, Nat.le_of_ble_eq_true rfl⟩ ⟨Nat.le_of_ble_eq_true rfl, Nat.le_of_ble_eq_true rfl⟩ hl.1 rfl (Nat.le_of_ble_eq_true rfl) dX7_numberEnd_72 (fun w11 H locs Z => ?_)
          refine lv_iadd hx hb dX7_numberEnd_75 ?_
          refine lv_istore (lv' := [(4, .int (((10 : Int32) * x4) + r12)), (0, .ref (G.1 0)), (3, .int x3), (5, .int x5)]) hx hb dX7_numberEnd_76 hl (by decide) rfl (fun ls hl => ?_)
          refine lv_iinc (v := (x5 + (1 : Int32))) (lv' := [(5, .int (x5 + (1 : Int32))), (4, .int (((10 : Int32) * x4) + r12)), (0, .ref (G.1 0)), (3, .int x3)]) hx hb dX7_numberEnd_78 hl (k := 3) rfl rfl (by decide) rfl (fun ls hl => ?_)
          refine lv_goto (tgt := 34) hx hb dX7_numberEnd_81 (by decide) ?_
          exact ih x3 (((10 : Int32) * x4) + r12) (x5 + (1 : Int32)) _ _ _ Z (lv_sub hl [2, 3, 1, 0] rfl) hm
set_option maxHeartbeats 4000000 in
set_option maxRecDepth 100000 in
theorem bX7_numberEnd_0 (X : gC p s m args meth c cX7_numberEnd 6 wmX7_numberEnd yX7_numberEnd.cls (some .int) G A) {n : Nat} {g : Mem} {r : Int32} (kI : ∀ (pc : Nat) (ls : Array Slot) (H : Heap) (locs : List Loc), decode cX7_numberEnd pc = .ok (.ireturn, 1) → WS wM G g A s.heap H locs → narrow .int (.int r) = .int r → W p l e { frames := 2, cells := 0, slots := 0, locals := 43 } s m args below meth c H locs 0 0 Q (F0 m pc ls [.int r])) : ∀ (x1 : Int32) (x2 : Int32) (x3 : Int32) (H : Heap) (locs : List Loc) (ls : Array Slot), WS wM G g A s.heap H locs → lv_has ls 6 [(0, .ref (G.1 0)), (1, .int x1), (2, .int x2), (3, .int x3)] → sX7_numberEnd n g x1 x2 x3 = some r → W p l e { frames := 2, cells := 0, slots := 0, locals := 43 } s m args below meth c H locs 0 0 Q (F0 m 0 ls []) := by
  have hx := X.1
  have hb := X.2.1
  intro x1 x2 x3 H locs ls Z hl hm
  unfold sX7_numberEnd at hm
  refine lv_iload_n hx hb dX7_numberEnd_0 rfl (lv_at hl 1 rfl) ?_
  refine lv_if_ge (tgt := 6) hx hb dX7_numberEnd_1 (by decide) (fun c1 => ?_) (fun c1 => ?_)
  · replace hm := (if_pos c1).symm.trans hm
    refine lv_aload_n hx hb dX7_numberEnd_6 rfl (lv_at hl 0 rfl) ?_
    refine lv_iload_n hx hb dX7_numberEnd_7 rfl (lv_at hl 1 rfl) ?_
    obtain ⟨r4, e2, hm⟩ := sBi_some hm
    refine g_callVI (n := 1) (As := [.int x1]) (rest := []) sameM X Z (cX7_digit_c l e2) oX7 rfl (gooV mB811 mB812 mB813 mB614 mB806) rfl (by decide +kernel) rfl ⟨Nat.le_of_ble_eq_true rfl, Nat.le_of_ble_eq_true rfl⟩ ⟨Nat.le_of_ble_eq_true rfl, Nat.le_of_ble_eq_true rfl⟩ hl.1 rfl (Nat.le_of_ble_eq_true rfl) dX7_numberEnd_8 (fun w3 H locs Z => ?_)
    refine lv_istore (lv' := [(4, .int r4), (0, .ref (G.1 0)), (1, .int x1), (2, .int x2), (3, .int x3)]) hx hb dX7_numberEnd_11 hl (by decide) rfl (fun ls hl => ?_)
    refine lv_iload hx hb dX7_numberEnd_13 (lv_at hl 0 rfl) ?_
    refine lv_iload_n hx hb dX7_numberEnd_15 rfl (lv_at hl 3 rfl) ?_
    refine lv_icmp_lt (tgt := 25) hx hb dX7_numberEnd_16 (by decide) (fun c5 => ?_) (fun c5 => ?_)
    · replace hm := (if_pos c5).symm.trans hm
      refine lv_iconst (v := (-1)) hx hb dX7_numberEnd_25 (by decide) ?_
      refine lv_iload_n hx hb dX7_numberEnd_26 rfl (lv_at hl 2 rfl) ?_
      refine lv_isub hx hb dX7_numberEnd_27 ?_
      obtain rfl := Option.some.inj hm
      exact kI _ _ _ _ dX7_numberEnd_28 Z (vp_nar_int _)
    · replace hm := (if_neg c5).symm.trans hm
      refine lv_iload hx hb dX7_numberEnd_19 (lv_at hl 0 rfl) ?_
      refine lv_iload_n hx hb dX7_numberEnd_21 rfl (lv_at hl 4 rfl) ?_
      refine lv_icmp_le (tgt := 29) hx hb dX7_numberEnd_22 (by decide) (fun c6 => ?_) (fun c6 => ?_)
      · replace hm := (if_pos c6).symm.trans hm
        refine lv_iload_n hx hb dX7_numberEnd_29 rfl (lv_at hl 2 rfl) ?_
        refine lv_iconst (v := 1) hx hb dX7_numberEnd_30 (by decide) ?_
        refine lv_iadd hx hb dX7_numberEnd_31 ?_
        refine lv_istore (lv' := [(5, .int (x1 + (1 : Int32))), (4, .int r4), (0, .ref (G.1 0)), (1, .int x1), (2, .int x2), (3, .int x3)]) hx hb dX7_numberEnd_32 hl (by decide) rfl (fun ls hl => ?_)
        exact bX7_numberEnd_34 X kI n x3 r4 (x1 + (1 : Int32)) _ _ _ Z (lv_sub hl [2, 5, 1, 0] rfl) hm
      · replace hm := (if_neg c6).symm.trans hm
        refine lv_iconst (v := (-1)) hx hb dX7_numberEnd_25 (by decide) ?_
        refine lv_iload_n hx hb dX7_numberEnd_26 rfl (lv_at hl 2 rfl) ?_
        refine lv_isub hx hb dX7_numberEnd_27 ?_
        obtain rfl := Option.some.inj hm
        exact kI _ _ _ _ dX7_numberEnd_28 Z (vp_nar_int _)
  · replace hm := (if_neg c1).symm.trans hm
    refine lv_iload_n hx hb dX7_numberEnd_4 rfl (lv_at hl 1 rfl) ?_
    obtain rfl := Option.some.inj hm
    exact kI _ _ _ _ dX7_numberEnd_5 Z (vp_nar_int _)
theorem cX7_numberEnd_c (l : Launch) {G : LY} {g : Mem} {n : Nat} {x1 : Int32} {x2 : Int32} {x3 : Int32} {r : Int32} (hm : sX7_numberEnd n g x1 x2 x3 = some r) : cI l yX7_numberEnd wmX7_numberEnd 2 43 .int wM G [.ref (G.1 0), .int x1, .int x2, .int x3] g r g :=
  mk_cI sameM (by decide +kernel) rfl (Nat.le_of_ble_eq_true rfl) (fun p e s m args below meth c A Q ls X kI hl Z => bX7_numberEnd_0 X kI x1 x2 x3 _ _ ls Z hl hm)
abbrev wmX7_behind : List Cond := Cond.code yX7_behind cX7_behind 3 (some .int) :: wA0
set_option maxHeartbeats 4000000 in
set_option maxRecDepth 100000 in
theorem bX7_behind_0 (X : gC p s m args meth c cX7_behind 3 wmX7_behind yX7_behind.cls (some .int) G A) {g : Mem} {r : Int32} (kI : ∀ (pc : Nat) (ls : Array Slot) (H : Heap) (locs : List Loc), decode cX7_behind pc = .ok (.ireturn, 1) → WS wM G g A s.heap H locs → narrow .int (.int r) = .int r → W p l e { frames := 1, cells := 0, slots := 0, locals := 21 } s m args below meth c H locs 0 0 Q (F0 m pc ls [.int r])) : ∀ (x1 : Int32) (x2 : Int32) (H : Heap) (locs : List Loc) (ls : Array Slot), WS wM G g A s.heap H locs → lv_has ls 3 [(0, .ref (G.1 0)), (1, .int x1), (2, .int x2)] → sX7_behind g x1 x2 = some r → W p l e { frames := 1, cells := 0, slots := 0, locals := 21 } s m args below meth c H locs 0 0 Q (F0 m 0 ls []) := by
  have hx := X.1
  have hb := X.2.1
  intro x1 x2 H locs ls Z hl hm
  unfold sX7_behind at hm
  refine lv_iload_n hx hb dX7_behind_0 rfl (lv_at hl 1 rfl) ?_
  refine lv_if_ge (tgt := 8) hx hb dX7_behind_1 (by decide) (fun c1 => ?_) (fun c1 => ?_)
  · replace hm := (if_pos c1).symm.trans hm
    refine lv_aload_n hx hb dX7_behind_8 rfl (lv_at hl 0 rfl) ?_
    refine lv_iload_n hx hb dX7_behind_9 rfl (lv_at hl 1 rfl) ?_
    obtain ⟨r4, e2, hm⟩ := sBi_some hm
    refine g_callVI (n := 1) (As := [.int x1]) (rest := []) sameM X Z (cX7_sign_c l e2) oX7 rfl (gooV mB807 mB808 mB809 mB614 mB805) rfl (by decide +kernel) rfl ⟨Nat.le_of_ble_eq_true rfl, Nat.le_of_ble_eq_true rfl⟩ ⟨Nat.le_of_ble_eq_true rfl, Nat.le_of_ble_eq_true rfl⟩ hl.1 rfl (Nat.le_of_ble_eq_true rfl) dX7_behind_10 (fun w3 H locs Z => ?_)
    refine lv_iload_n hx hb dX7_behind_13 rfl (lv_at hl 2 rfl) ?_
    refine lv_icmp_ne (tgt := 23) hx hb dX7_behind_14 (by decide) (fun c5 => ?_) (fun c5 => ?_)
    · replace hm := (if_neg c5).symm.trans hm
      refine lv_iconst (v := (-1)) hx hb dX7_behind_23 (by decide) ?_
      refine lv_iload_n hx hb dX7_behind_24 rfl (lv_at hl 1 rfl) ?_
      refine lv_isub hx hb dX7_behind_25 ?_
      obtain rfl := Option.some.inj hm
      exact kI _ _ _ _ dX7_behind_26 Z (vp_nar_int _)
    · replace hm := (if_pos c5).symm.trans hm
      refine lv_iload_n hx hb dX7_behind_17 rfl (lv_at hl 1 rfl) ?_
      refine lv_iconst (v := 1) hx hb dX7_behind_18 (by decide) ?_
      refine lv_iadd hx hb dX7_behind_19 ?_
      refine lv_goto (tgt := 26) hx hb dX7_behind_20 (by decide) ?_
      obtain rfl := Option.some.inj hm
      exact kI _ _ _ _ dX7_behind_26 Z (vp_nar_int _)
  · replace hm := (if_neg c1).symm.trans hm
    refine lv_iload_n hx hb dX7_behind_4 rfl (lv_at hl 1 rfl) ?_
    refine lv_goto (tgt := 26) hx hb dX7_behind_5 (by decide) ?_
    obtain rfl := Option.some.inj hm
    exact kI _ _ _ _ dX7_behind_26 Z (vp_nar_int _)
theorem cX7_behind_c (l : Launch) {G : LY} {g : Mem} {x1 : Int32} {x2 : Int32} {r : Int32} (hm : sX7_behind g x1 x2 = some r) : cI l yX7_behind wmX7_behind 1 21 .int wM G [.ref (G.1 0), .int x1, .int x2] g r g :=
  mk_cI sameM (by decide +kernel) rfl (Nat.le_of_ble_eq_true rfl) (fun p e s m args below meth c A Q ls X kI hl Z => bX7_behind_0 X kI x1 x2 _ _ ls Z hl hm)
abbrev wmX7_numberBehind : List Cond := Cond.code yX7_numberBehind cX7_numberBehind 3 (some .int) :: wA0
set_option maxHeartbeats 4000000 in
set_option maxRecDepth 100000 in
theorem bX7_numberBehind_0 (X : gC p s m args meth c cX7_numberBehind 3 wmX7_numberBehind yX7_numberBehind.cls (some .int) G A) {n : Nat} {g : Mem} {r : Int32} (kI : ∀ (pc : Nat) (ls : Array Slot) (H : Heap) (locs : List Loc), decode cX7_numberBehind pc = .ok (.ireturn, 1) → WS wM G g A s.heap H locs → narrow .int (.int r) = .int r → W p l e { frames := 3, cells := 0, slots := 0, locals := 68 } s m args below meth c H locs 0 0 Q (F0 m pc ls [.int r])) : ∀ (x1 : Int32) (x2 : Int32) (H : Heap) (locs : List Loc) (ls : Array Slot), WS wM G g A s.heap H locs → lv_has ls 3 [(0, .ref (G.1 0)), (1, .int x1), (2, .int x2)] → sX7_numberBehind n g x1 x2 = some r → W p l e { frames := 3, cells := 0, slots := 0, locals := 68 } s m args below meth c H locs 0 0 Q (F0 m 0 ls []) := by
  have hx := X.1
  have hb := X.2.1
  intro x1 x2 H locs ls Z hl hm
  unfold sX7_numberBehind at hm
  refine lv_aload_n hx hb dX7_numberBehind_0 rfl (lv_at hl 0 rfl) ?_
  refine lv_aload_n hx hb dX7_numberBehind_1 rfl (lv_at hl 0 rfl) ?_
  refine lv_iload_n hx hb dX7_numberBehind_2 rfl (lv_at hl 1 rfl) ?_
  refine lv_bipush (v := 44) hx hb dX7_numberBehind_3 (by decide) ?_
  obtain ⟨r3, e1, hm⟩ := sBi_some hm
  refine g_callVI (n := 2) (As := [.int x1, .int 44]) (rest := [.ref (G.1 0)]) sameM X Z (cX7_behind_c l e1) oX7 rfl (gooV mB816 mB817 mB818 mB614 mB814) rfl (by decide +kernel) rfl ⟨Nat.le_of_ble_eq_true rfl, Nat.le_of_ble_eq_true rfl⟩ ⟨Nat.le_of_ble_eq_true rfl, Nat.le_of_ble_eq_true rfl⟩ hl.1 rfl (Nat.le_of_ble_eq_true rfl) dX7_numberBehind_5 (fun w2 H locs Z => ?_)
  refine lv_iconst (v := 0) hx hb dX7_numberBehind_8 (by decide) ?_
  refine lv_iload_n hx hb dX7_numberBehind_9 rfl (lv_at hl 2 rfl) ?_
  obtain ⟨r6, e4, hm⟩ := sBi_some hm
  refine g_callVI (n := 3) (As := [.int r3, .int 0, .int x2]) (rest := []) sameM X Z (cX7_numberEnd_c l e4) oX7 rfl (gooV mB819 mB820 mB821 mB614 mB810) rfl (by decide +kernel) rfl ⟨Nat.le_of_ble_eq_true rfl, Nat.le_of_ble_eq_true rfl⟩ ⟨Nat.le_of_ble_eq_true rfl, Nat.le_of_ble_eq_true rfl⟩ hl.1 rfl (Nat.le_of_ble_eq_true rfl) dX7_numberBehind_10 (fun w5 H locs Z => ?_)
  obtain rfl := Option.some.inj hm
  exact kI _ _ _ _ dX7_numberBehind_13 Z (vp_nar_int _)
theorem cX7_numberBehind_c (l : Launch) {G : LY} {g : Mem} {n : Nat} {x1 : Int32} {x2 : Int32} {r : Int32} (hm : sX7_numberBehind n g x1 x2 = some r) : cI l yX7_numberBehind wmX7_numberBehind 3 68 .int wM G [.ref (G.1 0), .int x1, .int x2] g r g :=
  mk_cI sameM (by decide +kernel) rfl (Nat.le_of_ble_eq_true rfl) (fun p e s m args below meth c A Q ls X kI hl Z => bX7_numberBehind_0 X kI x1 x2 _ _ ls Z hl hm)
abbrev wmX7_offsetEnd : List Cond := Cond.code yX7_offsetEnd cX7_offsetEnd 4 (some .int) :: wA0
set_option maxHeartbeats 4000000 in
set_option maxRecDepth 100000 in
theorem bX7_offsetEnd_26 (X : gC p s m args meth c cX7_offsetEnd 4 wmX7_offsetEnd yX7_offsetEnd.cls (some .int) G A) {n : Nat} {g : Mem} {r : Int32} (kI : ∀ (pc : Nat) (ls : Array Slot) (H : Heap) (locs : List Loc), decode cX7_offsetEnd pc = .ok (.ireturn, 1) → WS wM G g A s.heap H locs → narrow .int (.int r) = .int r → W p l e { frames := 3, cells := 0, slots := 0, locals := 68 } s m args below meth c H locs 0 0 Q (F0 m pc ls [.int r])) : ∀ (x2 : Int32) (H : Heap) (locs : List Loc) (ls : Array Slot), WS wM G g A s.heap H locs → lv_has ls 4 [(0, .ref (G.1 0)), (2, .int x2)] → sX7_offsetEnd_26 n g x2 = some r → W p l e { frames := 3, cells := 0, slots := 0, locals := 68 } s m args below meth c H locs 0 0 Q (F0 m 26 ls []) := by
  have hx := X.1
  have hb := X.2.1
  intro x2 H locs ls Z hl hm
  unfold sX7_offsetEnd_26 at hm
  refine lv_iconst (v := 0) hx hb dX7_offsetEnd_26 (by decide) ?_
  refine lv_istore_n (lv' := [(3, .int 0), (0, .ref (G.1 0)), (2, .int x2)]) hx hb dX7_offsetEnd_27 rfl hl (by decide) rfl (fun ls hl => ?_)
  refine lv_aload_n hx hb dX7_offsetEnd_28 rfl (lv_at hl 1 rfl) ?_
  refine lv_iload_n hx hb dX7_offsetEnd_29 rfl (lv_at hl 0 rfl) ?_
  refine lv_if_eq (tgt := 39) hx hb dX7_offsetEnd_30 (by decide) (fun c1 => ?_) (fun c1 => ?_)
  rotate_left
  · first | exact absurd c1 (by decide) | exact absurd (by decide) c1
  refine lv_iload_n hx hb dX7_offsetEnd_39 rfl (lv_at hl 2 rfl) ?_
  refine lv_iload_n hx hb dX7_offsetEnd_40 rfl (lv_at hl 0 rfl) ?_
  refine lv_if_eq (tgt := 48) hx hb dX7_offsetEnd_41 (by decide) (fun c2 => ?_) (fun c2 => ?_)
  rotate_left
  · first | exact absurd c2 (by decide) | exact absurd (by decide) c2
  refine lv_iconst (v := 0) hx hb dX7_offsetEnd_48 (by decide) ?_
  refine lv_sipush (v := 500) hx hb dX7_offsetEnd_49 (by decide) ?_
  obtain ⟨r5, e3, hm⟩ := sBi_some hm
  refine g_callVI (n := 3) (As := [.int x2, .int 0, .int 500]) (rest := []) sameM X Z (cX7_numberEnd_c l e3) oX7 rfl (gooV mB819 mB820 mB821 mB614 mB810) rfl (by decide +kernel) rfl ⟨Nat.le_of_ble_eq_true rfl, Nat.le_of_ble_eq_true rfl⟩ ⟨Nat.le_of_ble_eq_true rfl, Nat.le_of_ble_eq_true rfl⟩ hl.1 rfl (Nat.le_of_ble_eq_true rfl) dX7_offsetEnd_52 (fun w4 H locs Z => ?_)
  obtain rfl := Option.some.inj hm
  exact kI _ _ _ _ dX7_offsetEnd_55 Z (vp_nar_int _)
set_option maxHeartbeats 4000000 in
set_option maxRecDepth 100000 in
theorem bX7_offsetEnd_0 (X : gC p s m args meth c cX7_offsetEnd 4 wmX7_offsetEnd yX7_offsetEnd.cls (some .int) G A) {n : Nat} {g : Mem} {r : Int32} (kI : ∀ (pc : Nat) (ls : Array Slot) (H : Heap) (locs : List Loc), decode cX7_offsetEnd pc = .ok (.ireturn, 1) → WS wM G g A s.heap H locs → narrow .int (.int r) = .int r → W p l e { frames := 3, cells := 0, slots := 0, locals := 68 } s m args below meth c H locs 0 0 Q (F0 m pc ls [.int r])) : ∀ (x1 : Int32) (H : Heap) (locs : List Loc) (ls : Array Slot), WS wM G g A s.heap H locs → lv_has ls 4 [(0, .ref (G.1 0)), (1, .int x1)] → sX7_offsetEnd n g x1 = some r → W p l e { frames := 3, cells := 0, slots := 0, locals := 68 } s m args below meth c H locs 0 0 Q (F0 m 0 ls []) := by
  have hx := X.1
  have hb := X.2.1
  intro x1 H locs ls Z hl hm
  unfold sX7_offsetEnd at hm
  refine lv_aload_n hx hb dX7_offsetEnd_0 rfl (lv_at hl 0 rfl) ?_
  refine lv_iload_n hx hb dX7_offsetEnd_1 rfl (lv_at hl 1 rfl) ?_
  refine lv_bipush (v := 44) hx hb dX7_offsetEnd_2 (by decide) ?_
  obtain ⟨r3, e1, hm⟩ := sBi_some hm
  refine g_callVI (n := 2) (As := [.int x1, .int 44]) (rest := []) sameM X Z (cX7_behind_c l e1) oX7 rfl (gooV mB816 mB817 mB818 mB614 mB814) rfl (by decide +kernel) rfl ⟨Nat.le_of_ble_eq_true rfl, Nat.le_of_ble_eq_true rfl⟩ ⟨Nat.le_of_ble_eq_true rfl, Nat.le_of_ble_eq_true rfl⟩ hl.1 rfl (Nat.le_of_ble_eq_true rfl) dX7_offsetEnd_4 (fun w2 H locs Z => ?_)
  refine lv_istore_n (lv' := [(2, .int r3), (0, .ref (G.1 0)), (1, .int x1)]) hx hb dX7_offsetEnd_7 rfl hl (by decide) rfl (fun ls hl => ?_)
  refine lv_iload_n hx hb dX7_offsetEnd_8 rfl (lv_at hl 0 rfl) ?_
  refine lv_if_lt (tgt := 26) hx hb dX7_offsetEnd_9 (by decide) (fun c4 => ?_) (fun c4 => ?_)
  · replace hm := (if_pos c4).symm.trans hm
    exact bX7_offsetEnd_26 X kI r3 _ _ _ Z (lv_sub hl [1, 0] rfl) hm
  · replace hm := (if_neg c4).symm.trans hm
    refine lv_aload_n hx hb dX7_offsetEnd_12 rfl (lv_at hl 1 rfl) ?_
    refine lv_iload_n hx hb dX7_offsetEnd_13 rfl (lv_at hl 0 rfl) ?_
    obtain ⟨r7, e5, hm⟩ := sBi_some hm
    refine g_callVI (n := 1) (As := [.int r3]) (rest := []) sameM X Z (cX7_sign_c l e5) oX7 rfl (gooV mB807 mB808 mB809 mB614 mB805) rfl (by decide +kernel) rfl ⟨Nat.le_of_ble_eq_true rfl, Nat.le_of_ble_eq_true rfl⟩ ⟨Nat.le_of_ble_eq_true rfl, Nat.le_of_ble_eq_true rfl⟩ hl.1 rfl (Nat.le_of_ble_eq_true rfl) dX7_offsetEnd_14 (fun w6 H locs Z => ?_)
    refine lv_bipush (v := 45) hx hb dX7_offsetEnd_17 (by decide) ?_
    refine lv_icmp_ne (tgt := 26) hx hb dX7_offsetEnd_19 (by decide) (fun c8 => ?_) (fun c8 => ?_)
    · replace hm := (if_neg c8).symm.trans hm
      exact bX7_offsetEnd_26 X kI r3 _ _ _ Z (lv_sub hl [1, 0] rfl) hm
    · replace hm := (if_pos c8).symm.trans hm
      refine lv_iconst (v := 1) hx hb dX7_offsetEnd_22 (by decide) ?_
      refine lv_goto (tgt := 27) hx hb dX7_offsetEnd_23 (by decide) ?_
      refine lv_istore_n (lv' := [(3, .int 1), (2, .int r3), (0, .ref (G.1 0)), (1, .int x1)]) hx hb dX7_offsetEnd_27 rfl hl (by decide) rfl (fun ls hl => ?_)
      refine lv_aload_n hx hb dX7_offsetEnd_28 rfl (lv_at hl 2 rfl) ?_
      refine lv_iload_n hx hb dX7_offsetEnd_29 rfl (lv_at hl 0 rfl) ?_
      refine lv_if_eq (tgt := 39) hx hb dX7_offsetEnd_30 (by decide) (fun c9 => ?_) (fun c9 => ?_)
      · first | exact absurd c9 (by decide) | exact absurd (by decide) c9
      refine lv_iload_n hx hb dX7_offsetEnd_33 rfl (lv_at hl 1 rfl) ?_
      refine lv_iconst (v := 1) hx hb dX7_offsetEnd_34 (by decide) ?_
      refine lv_iadd hx hb dX7_offsetEnd_35 ?_
      refine lv_goto (tgt := 40) hx hb dX7_offsetEnd_36 (by decide) ?_
      refine lv_iload_n hx hb dX7_offsetEnd_40 rfl (lv_at hl 0 rfl) ?_
      refine lv_if_eq (tgt := 48) hx hb dX7_offsetEnd_41 (by decide) (fun c10 => ?_) (fun c10 => ?_)
      · first | exact absurd c10 (by decide) | exact absurd (by decide) c10
      refine lv_iconst (v := 1) hx hb dX7_offsetEnd_44 (by decide) ?_
      refine lv_goto (tgt := 49) hx hb dX7_offsetEnd_45 (by decide) ?_
      refine lv_sipush (v := 500) hx hb dX7_offsetEnd_49 (by decide) ?_
      obtain ⟨r13, e11, hm⟩ := sBi_some hm
      refine g_callVI (n := 3) (As := [.int (r3 + (1 : Int32)), .int 1, .int 500]) (rest := []) sameM X Z (cX7_numberEnd_c l e11) oX7 rfl (gooV mB819 mB820 mB821 mB614 mB810) rfl (by decide +kernel) rfl ⟨Nat.le_of_ble_eq_true rfl, Nat.le_of_ble_eq_true rfl⟩ ⟨Nat.le_of_ble_eq_true rfl, Nat.le_of_ble_eq_true rfl⟩ hl.1 rfl (Nat.le_of_ble_eq_true rfl) dX7_offsetEnd_52 (fun w12 H locs Z => ?_)
      obtain rfl := Option.some.inj hm
      exact kI _ _ _ _ dX7_offsetEnd_55 Z (vp_nar_int _)
theorem cX7_offsetEnd_c (l : Launch) {G : LY} {g : Mem} {n : Nat} {x1 : Int32} {r : Int32} (hm : sX7_offsetEnd n g x1 = some r) : cI l yX7_offsetEnd wmX7_offsetEnd 3 68 .int wM G [.ref (G.1 0), .int x1] g r g :=
  mk_cI sameM (by decide +kernel) rfl (Nat.le_of_ble_eq_true rfl) (fun p e s m args below meth c A Q ls X kI hl Z => bX7_offsetEnd_0 X kI x1 _ _ ls Z hl hm)
abbrev wmX7_commandEnd : List Cond := Cond.code yX7_commandEnd cX7_commandEnd 3 (some .int) :: wA0
set_option maxHeartbeats 4000000 in
set_option maxRecDepth 100000 in
theorem bX7_commandEnd_0 (X : gC p s m args meth c cX7_commandEnd 3 wmX7_commandEnd yX7_commandEnd.cls (some .int) G A) {n : Nat} {g : Mem} {r : Int32} (kI : ∀ (pc : Nat) (ls : Array Slot) (H : Heap) (locs : List Loc), decode cX7_commandEnd pc = .ok (.ireturn, 1) → WS wM G g A s.heap H locs → narrow .int (.int r) = .int r → W p l e { frames := 4, cells := 0, slots := 0, locals := 91 } s m args below meth c H locs 0 0 Q (F0 m pc ls [.int r])) : ∀ (x1 : Int32) (H : Heap) (locs : List Loc) (ls : Array Slot), WS wM G g A s.heap H locs → lv_has ls 3 [(0, .ref (G.1 0)), (1, .int x1)] → sX7_commandEnd n g x1 = some r → W p l e { frames := 4, cells := 0, slots := 0, locals := 91 } s m args below meth c H locs 0 0 Q (F0 m 0 ls []) := by
  have hx := X.1
  have hb := X.2.1
  intro x1 H locs ls Z hl hm
  unfold sX7_commandEnd at hm
  refine lv_aload_n hx hb dX7_commandEnd_0 rfl (lv_at hl 0 rfl) ?_
  refine lv_iload_n hx hb dX7_commandEnd_1 rfl (lv_at hl 1 rfl) ?_
  obtain ⟨r3, e1, hm⟩ := sBi_some hm
  refine g_callVI (n := 1) (As := [.int x1]) (rest := []) sameM X Z (cX7_sign_c l e1) oX7 rfl (gooV mB807 mB808 mB809 mB614 mB805) rfl (by decide +kernel) rfl ⟨Nat.le_of_ble_eq_true rfl, Nat.le_of_ble_eq_true rfl⟩ ⟨Nat.le_of_ble_eq_true rfl, Nat.le_of_ble_eq_true rfl⟩ hl.1 rfl (Nat.le_of_ble_eq_true rfl) dX7_commandEnd_2 (fun w2 H locs Z => ?_)
  by_cases c4 : r3 = 97
  · replace hm := (if_pos c4).symm.trans hm
    refine lv_tableIn (tgt := 165) hx hb dX7_commandEnd_5 (by rw [c4]; decide) (by rw [c4]; decide) (by rw [c4]; rfl) (by decide) ?_
    refine lv_aload_n hx hb dX7_commandEnd_165 rfl (lv_at hl 0 rfl) ?_
    refine lv_iload_n hx hb dX7_commandEnd_166 rfl (lv_at hl 1 rfl) ?_
    refine lv_iconst (v := 1) hx hb dX7_commandEnd_167 (by decide) ?_
    refine lv_iadd hx hb dX7_commandEnd_168 ?_
    refine lv_iconst (v := 0) hx hb dX7_commandEnd_169 (by decide) ?_
    refine lv_bipush (v := 39) hx hb dX7_commandEnd_170 (by decide) ?_
    obtain ⟨r7, e5, hm⟩ := sBi_some hm
    refine g_callVI (n := 3) (As := [.int (x1 + (1 : Int32)), .int 0, .int 39]) (rest := []) sameM X Z (cX7_numberEnd_c l e5) oX7 rfl (gooV mB819 mB820 mB821 mB614 mB810) rfl (by decide +kernel) rfl ⟨Nat.le_of_ble_eq_true rfl, Nat.le_of_ble_eq_true rfl⟩ ⟨Nat.le_of_ble_eq_true rfl, Nat.le_of_ble_eq_true rfl⟩ hl.1 rfl (Nat.le_of_ble_eq_true rfl) dX7_commandEnd_172 (fun w6 H locs Z => ?_)
    obtain rfl := Option.some.inj hm
    exact kI _ _ _ _ dX7_commandEnd_175 Z (vp_nar_int _)
  replace hm := (if_neg c4).symm.trans hm
  by_cases c8 : r3 = 98
  · replace hm := (if_pos c8).symm.trans hm
    refine lv_tableIn (tgt := 112) hx hb dX7_commandEnd_5 (by rw [c8]; decide) (by rw [c8]; decide) (by rw [c8]; rfl) (by decide) ?_
    refine lv_aload_n hx hb dX7_commandEnd_112 rfl (lv_at hl 0 rfl) ?_
    refine lv_iload_n hx hb dX7_commandEnd_113 rfl (lv_at hl 1 rfl) ?_
    refine lv_iconst (v := 1) hx hb dX7_commandEnd_114 (by decide) ?_
    refine lv_iadd hx hb dX7_commandEnd_115 ?_
    refine lv_iconst (v := 0) hx hb dX7_commandEnd_116 (by decide) ?_
    refine lv_iconst (v := 2) hx hb dX7_commandEnd_117 (by decide) ?_
    obtain ⟨r11, e9, hm⟩ := sBi_some hm
    refine g_callVI (n := 3) (As := [.int (x1 + (1 : Int32)), .int 0, .int 2]) (rest := []) sameM X Z (cX7_numberEnd_c l e9) oX7 rfl (gooV mB819 mB820 mB821 mB614 mB810) rfl (by decide +kernel) rfl ⟨Nat.le_of_ble_eq_true rfl, Nat.le_of_ble_eq_true rfl⟩ ⟨Nat.le_of_ble_eq_true rfl, Nat.le_of_ble_eq_true rfl⟩ hl.1 rfl (Nat.le_of_ble_eq_true rfl) dX7_commandEnd_118 (fun w10 H locs Z => ?_)
    obtain rfl := Option.some.inj hm
    exact kI _ _ _ _ dX7_commandEnd_121 Z (vp_nar_int _)
  replace hm := (if_neg c8).symm.trans hm
  by_cases c12 : r3 = 99
  · replace hm := (if_pos c12).symm.trans hm
    refine lv_tableIn (tgt := 165) hx hb dX7_commandEnd_5 (by rw [c12]; decide) (by rw [c12]; decide) (by rw [c12]; rfl) (by decide) ?_
    refine lv_aload_n hx hb dX7_commandEnd_165 rfl (lv_at hl 0 rfl) ?_
    refine lv_iload_n hx hb dX7_commandEnd_166 rfl (lv_at hl 1 rfl) ?_
    refine lv_iconst (v := 1) hx hb dX7_commandEnd_167 (by decide) ?_
    refine lv_iadd hx hb dX7_commandEnd_168 ?_
    refine lv_iconst (v := 0) hx hb dX7_commandEnd_169 (by decide) ?_
    refine lv_bipush (v := 39) hx hb dX7_commandEnd_170 (by decide) ?_
    obtain ⟨r15, e13, hm⟩ := sBi_some hm
    refine g_callVI (n := 3) (As := [.int (x1 + (1 : Int32)), .int 0, .int 39]) (rest := []) sameM X Z (cX7_numberEnd_c l e13) oX7 rfl (gooV mB819 mB820 mB821 mB614 mB810) rfl (by decide +kernel) rfl ⟨Nat.le_of_ble_eq_true rfl, Nat.le_of_ble_eq_true rfl⟩ ⟨Nat.le_of_ble_eq_true rfl, Nat.le_of_ble_eq_true rfl⟩ hl.1 rfl (Nat.le_of_ble_eq_true rfl) dX7_commandEnd_172 (fun w14 H locs Z => ?_)
    obtain rfl := Option.some.inj hm
    exact kI _ _ _ _ dX7_commandEnd_175 Z (vp_nar_int _)
  replace hm := (if_neg c12).symm.trans hm
  by_cases c16 : r3 = 114
  · replace hm := (if_pos c16).symm.trans hm
    refine lv_tableIn (tgt := 122) hx hb dX7_commandEnd_5 (by rw [c16]; decide) (by rw [c16]; decide) (by rw [c16]; rfl) (by decide) ?_
    refine lv_aload_n hx hb dX7_commandEnd_122 rfl (lv_at hl 0 rfl) ?_
    refine lv_aload_n hx hb dX7_commandEnd_123 rfl (lv_at hl 0 rfl) ?_
    refine lv_iload_n hx hb dX7_commandEnd_124 rfl (lv_at hl 1 rfl) ?_
    refine lv_iconst (v := 1) hx hb dX7_commandEnd_125 (by decide) ?_
    refine lv_iadd hx hb dX7_commandEnd_126 ?_
    refine lv_iconst (v := 0) hx hb dX7_commandEnd_127 (by decide) ?_
    refine lv_bipush (v := 39) hx hb dX7_commandEnd_128 (by decide) ?_
    obtain ⟨r19, e17, hm⟩ := sBi_some hm
    refine g_callVI (n := 3) (As := [.int (x1 + (1 : Int32)), .int 0, .int 39]) (rest := [.ref (G.1 0)]) sameM X Z (cX7_numberEnd_c l e17) oX7 rfl (gooV mB819 mB820 mB821 mB614 mB810) rfl (by decide +kernel) rfl ⟨Nat.le_of_ble_eq_true rfl, Nat.le_of_ble_eq_true rfl⟩ ⟨Nat.le_of_ble_eq_true rfl, Nat.le_of_ble_eq_true rfl⟩ hl.1 rfl (Nat.le_of_ble_eq_true rfl) dX7_commandEnd_130 (fun w18 H locs Z => ?_)
    refine lv_bipush (v := 7) hx hb dX7_commandEnd_133 (by decide) ?_
    obtain ⟨r22, e20, hm⟩ := sBi_some hm
    refine g_callVI (n := 2) (As := [.int r19, .int 7]) (rest := []) sameM X Z (cX7_numberBehind_c l e20) oX7 rfl (gooV mB823 mB824 mB825 mB614 mB815) rfl (by decide +kernel) rfl ⟨Nat.le_of_ble_eq_true rfl, Nat.le_of_ble_eq_true rfl⟩ ⟨Nat.le_of_ble_eq_true rfl, Nat.le_of_ble_eq_true rfl⟩ hl.1 rfl (Nat.le_of_ble_eq_true rfl) dX7_commandEnd_135 (fun w21 H locs Z => ?_)
    obtain rfl := Option.some.inj hm
    exact kI _ _ _ _ dX7_commandEnd_138 Z (vp_nar_int _)
  replace hm := (if_neg c16).symm.trans hm
  by_cases c23 : r3 = 115
  · replace hm := (if_pos c23).symm.trans hm
    refine lv_tableIn (tgt := 188) hx hb dX7_commandEnd_5 (by rw [c23]; decide) (by rw [c23]; decide) (by rw [c23]; rfl) (by decide) ?_
    refine lv_aload_n hx hb dX7_commandEnd_188 rfl (lv_at hl 0 rfl) ?_
    refine lv_aload_n hx hb dX7_commandEnd_189 rfl (lv_at hl 0 rfl) ?_
    refine lv_iload_n hx hb dX7_commandEnd_190 rfl (lv_at hl 1 rfl) ?_
    refine lv_iconst (v := 1) hx hb dX7_commandEnd_191 (by decide) ?_
    refine lv_iadd hx hb dX7_commandEnd_192 ?_
    refine lv_iconst (v := 0) hx hb dX7_commandEnd_193 (by decide) ?_
    refine lv_iconst (v := 2) hx hb dX7_commandEnd_194 (by decide) ?_
    obtain ⟨r26, e24, hm⟩ := sBi_some hm
    refine g_callVI (n := 3) (As := [.int (x1 + (1 : Int32)), .int 0, .int 2]) (rest := [.ref (G.1 0)]) sameM X Z (cX7_numberEnd_c l e24) oX7 rfl (gooV mB819 mB820 mB821 mB614 mB810) rfl (by decide +kernel) rfl ⟨Nat.le_of_ble_eq_true rfl, Nat.le_of_ble_eq_true rfl⟩ ⟨Nat.le_of_ble_eq_true rfl, Nat.le_of_ble_eq_true rfl⟩ hl.1 rfl (Nat.le_of_ble_eq_true rfl) dX7_commandEnd_195 (fun w25 H locs Z => ?_)
    obtain ⟨r29, e27, hm⟩ := sBi_some hm
    refine g_callVI (n := 1) (As := [.int r26]) (rest := []) sameM X Z (cX7_offsetEnd_c l e27) oX7 rfl (gooV mB826 mB827 mB828 mB614 mB822) rfl (by decide +kernel) rfl ⟨Nat.le_of_ble_eq_true rfl, Nat.le_of_ble_eq_true rfl⟩ ⟨Nat.le_of_ble_eq_true rfl, Nat.le_of_ble_eq_true rfl⟩ hl.1 rfl (Nat.le_of_ble_eq_true rfl) dX7_commandEnd_198 (fun w28 H locs Z => ?_)
    obtain rfl := Option.some.inj hm
    exact kI _ _ _ _ dX7_commandEnd_201 Z (vp_nar_int _)
  replace hm := (if_neg c23).symm.trans hm
  by_cases c30 : r3 = 116
  · replace hm := (if_pos c30).symm.trans hm
    refine lv_tableIn (tgt := 176) hx hb dX7_commandEnd_5 (by rw [c30]; decide) (by rw [c30]; decide) (by rw [c30]; rfl) (by decide) ?_
    refine lv_aload_n hx hb dX7_commandEnd_176 rfl (lv_at hl 0 rfl) ?_
    refine lv_iload_n hx hb dX7_commandEnd_177 rfl (lv_at hl 1 rfl) ?_
    refine lv_iconst (v := 1) hx hb dX7_commandEnd_178 (by decide) ?_
    refine lv_iadd hx hb dX7_commandEnd_179 ?_
    refine lv_iconst (v := 1) hx hb dX7_commandEnd_180 (by decide) ?_
    refine lv_sipush (v := 1000) hx hb dX7_commandEnd_181 (by decide) ?_
    obtain ⟨r33, e31, hm⟩ := sBi_some hm
    refine g_callVI (n := 3) (As := [.int (x1 + (1 : Int32)), .int 1, .int 1000]) (rest := []) sameM X Z (cX7_numberEnd_c l e31) oX7 rfl (gooV mB819 mB820 mB821 mB614 mB810) rfl (by decide +kernel) rfl ⟨Nat.le_of_ble_eq_true rfl, Nat.le_of_ble_eq_true rfl⟩ ⟨Nat.le_of_ble_eq_true rfl, Nat.le_of_ble_eq_true rfl⟩ hl.1 rfl (Nat.le_of_ble_eq_true rfl) dX7_commandEnd_184 (fun w32 H locs Z => ?_)
    obtain rfl := Option.some.inj hm
    exact kI _ _ _ _ dX7_commandEnd_187 Z (vp_nar_int _)
  replace hm := (if_neg c30).symm.trans hm
  by_cases c34 : r3 = 119
  · replace hm := (if_pos c34).symm.trans hm
    refine lv_tableIn (tgt := 139) hx hb dX7_commandEnd_5 (by rw [c34]; decide) (by rw [c34]; decide) (by rw [c34]; rfl) (by decide) ?_
    refine lv_aload_n hx hb dX7_commandEnd_139 rfl (lv_at hl 0 rfl) ?_
    refine lv_aload_n hx hb dX7_commandEnd_140 rfl (lv_at hl 0 rfl) ?_
    refine lv_iload_n hx hb dX7_commandEnd_141 rfl (lv_at hl 1 rfl) ?_
    refine lv_iconst (v := 1) hx hb dX7_commandEnd_142 (by decide) ?_
    refine lv_iadd hx hb dX7_commandEnd_143 ?_
    refine lv_iconst (v := 0) hx hb dX7_commandEnd_144 (by decide) ?_
    refine lv_bipush (v := 39) hx hb dX7_commandEnd_145 (by decide) ?_
    obtain ⟨r37, e35, hm⟩ := sBi_some hm
    refine g_callVI (n := 3) (As := [.int (x1 + (1 : Int32)), .int 0, .int 39]) (rest := [.ref (G.1 0)]) sameM X Z (cX7_numberEnd_c l e35) oX7 rfl (gooV mB819 mB820 mB821 mB614 mB810) rfl (by decide +kernel) rfl ⟨Nat.le_of_ble_eq_true rfl, Nat.le_of_ble_eq_true rfl⟩ ⟨Nat.le_of_ble_eq_true rfl, Nat.le_of_ble_eq_true rfl⟩ hl.1 rfl (Nat.le_of_ble_eq_true rfl) dX7_commandEnd_147 (fun w36 H locs Z => ?_)
    refine lv_bipush (v := 7) hx hb dX7_commandEnd_150 (by decide) ?_
    obtain ⟨r40, e38, hm⟩ := sBi_some hm
    refine g_callVI (n := 2) (As := [.int r37, .int 7]) (rest := []) sameM X Z (cX7_numberBehind_c l e38) oX7 rfl (gooV mB823 mB824 mB825 mB614 mB815) rfl (by decide +kernel) rfl ⟨Nat.le_of_ble_eq_true rfl, Nat.le_of_ble_eq_true rfl⟩ ⟨Nat.le_of_ble_eq_true rfl, Nat.le_of_ble_eq_true rfl⟩ hl.1 rfl (Nat.le_of_ble_eq_true rfl) dX7_commandEnd_152 (fun w39 H locs Z => ?_)
    refine lv_istore_n (lv' := [(2, .int r40), (0, .ref (G.1 0)), (1, .int x1)]) hx hb dX7_commandEnd_155 rfl hl (by decide) rfl (fun ls hl => ?_)
    refine lv_aload_n hx hb dX7_commandEnd_156 rfl (lv_at hl 1 rfl) ?_
    refine lv_iload_n hx hb dX7_commandEnd_157 rfl (lv_at hl 0 rfl) ?_
    refine lv_sipush (v := 9999) hx hb dX7_commandEnd_158 (by decide) ?_
    obtain ⟨r43, e41, hm⟩ := sBi_some hm
    refine g_callVI (n := 2) (As := [.int r40, .int 9999]) (rest := []) sameM X Z (cX7_numberBehind_c l e41) oX7 rfl (gooV mB823 mB824 mB825 mB614 mB815) rfl (by decide +kernel) rfl ⟨Nat.le_of_ble_eq_true rfl, Nat.le_of_ble_eq_true rfl⟩ ⟨Nat.le_of_ble_eq_true rfl, Nat.le_of_ble_eq_true rfl⟩ hl.1 rfl (Nat.le_of_ble_eq_true rfl) dX7_commandEnd_161 (fun w42 H locs Z => ?_)
    obtain rfl := Option.some.inj hm
    exact kI _ _ _ _ dX7_commandEnd_164 Z (vp_nar_int _)
  replace hm := (if_neg c34).symm.trans hm
  refine g_tbl (tgt := 202) [97, 98, 99, 114, 115, 116, 119] hx hb dX7_commandEnd_5 (by decide) (by decide +kernel) (List.forall_mem_cons.mpr ⟨c4, (List.forall_mem_cons.mpr ⟨c8, (List.forall_mem_cons.mpr ⟨c12, (List.forall_mem_cons.mpr ⟨c16, (List.forall_mem_cons.mpr ⟨c23, (List.forall_mem_cons.mpr ⟨c30, (List.forall_mem_cons.mpr ⟨c34, (fun _ h => absurd h List.not_mem_nil)⟩)⟩)⟩)⟩)⟩)⟩)⟩) ?_
  refine lv_iconst (v := (-1)) hx hb dX7_commandEnd_202 (by decide) ?_
  refine lv_iload_n hx hb dX7_commandEnd_203 rfl (lv_at hl 1 rfl) ?_
  refine lv_isub hx hb dX7_commandEnd_204 ?_
  obtain rfl := Option.some.inj hm
  exact kI _ _ _ _ dX7_commandEnd_205 Z (vp_nar_int _)
theorem cX7_commandEnd_c (l : Launch) {G : LY} {g : Mem} {n : Nat} {x1 : Int32} {r : Int32} (hm : sX7_commandEnd n g x1 = some r) : cI l yX7_commandEnd wmX7_commandEnd 4 91 .int wM G [.ref (G.1 0), .int x1] g r g :=
  mk_cI sameM (by decide +kernel) rfl (Nat.le_of_ble_eq_true rfl) (fun p e s m args below meth c A Q ls X kI hl Z => bX7_commandEnd_0 X kI x1 _ _ ls Z hl hm)
abbrev wmX7_error : List Cond := Cond.code yX7_error cX7_error 4 (some .int) :: wA0
set_option maxHeartbeats 4000000 in
set_option maxRecDepth 100000 in
theorem bX7_error_4 (X : gC p s m args meth c cX7_error 4 wmX7_error yX7_error.cls (some .int) G A) {n : Nat} {g : Mem} {r : Int32} (kI : ∀ (pc : Nat) (ls : Array Slot) (H : Heap) (locs : List Loc), decode cX7_error pc = .ok (.ireturn, 1) → WS wM G g A s.heap H locs → narrow .int (.int r) = .int r → W p l e { frames := 5, cells := 0, slots := 0, locals := 113 } s m args below meth c H locs 0 0 Q (F0 m pc ls [.int r])) : ∀ (f : Nat), ∀ (x1 : Int32) (x2 : Int32) (H : Heap) (locs : List Loc) (ls : Array Slot), WS wM G g A s.heap H locs → lv_has ls 4 [(0, .ref (G.1 0)), (1, .int x1), (2, .int x2)] → sX7_error_4 n g f x1 x2 = some r → W p l e { frames := 5, cells := 0, slots := 0, locals := 113 } s m args below meth c H locs 0 0 Q (F0 m 4 ls []) := by
  have hx := X.1
  have hb := X.2.1
  intro f
  induction f with
  | zero =>
    intro x1 x2 H locs ls Z hl hm
    cases hm
  | succ f ih =>
    intro x1 x2 H locs ls Z hl hm
    unfold sX7_error_4 at hm
    refine lv_iload_n hx hb dX7_error_4 rfl (lv_at hl 2 rfl) ?_
    refine lv_bipush (v := 80) hx hb dX7_error_5 (by decide) ?_
    refine lv_icmp_ge (tgt := 56) hx hb dX7_error_7 (by decide) (fun c1 => ?_) (fun c1 => ?_)
    · replace hm := (if_pos c1).symm.trans hm
      refine lv_iconst (v := (-1)) hx hb dX7_error_56 (by decide) ?_
      obtain rfl := Option.some.inj hm
      exact kI _ _ _ _ dX7_error_57 Z (vp_nar_int _)
    · replace hm := (if_neg c1).symm.trans hm
      refine lv_aload_n hx hb dX7_error_10 rfl (lv_at hl 0 rfl) ?_
      refine lv_iload_n hx hb dX7_error_11 rfl (lv_at hl 1 rfl) ?_
      obtain ⟨r4, e2, hm⟩ := sBi_some hm
      refine g_callVI (n := 1) (As := [.int x1]) (rest := []) sameM X Z (cX7_commandEnd_c l e2) oX7 rfl (gooV mB830 mB831 mB832 mB614 mB829) rfl (by decide +kernel) rfl ⟨Nat.le_of_ble_eq_true rfl, Nat.le_of_ble_eq_true rfl⟩ ⟨Nat.le_of_ble_eq_true rfl, Nat.le_of_ble_eq_true rfl⟩ hl.1 rfl (Nat.le_of_ble_eq_true rfl) dX7_error_12 (fun w3 H locs Z => ?_)
      refine lv_istore_n (lv' := [(3, .int r4), (0, .ref (G.1 0)), (1, .int x1), (2, .int x2)]) hx hb dX7_error_15 rfl hl (by decide) rfl (fun ls hl => ?_)
      refine lv_iload_n hx hb dX7_error_16 rfl (lv_at hl 0 rfl) ?_
      refine lv_if_ge (tgt := 24) hx hb dX7_error_17 (by decide) (fun c5 => ?_) (fun c5 => ?_)
      · replace hm := (if_pos c5).symm.trans hm
        refine lv_iload_n hx hb dX7_error_24 rfl (lv_at hl 0 rfl) ?_
        refine lv_aload_n hx hb dX7_error_25 rfl (lv_at hl 1 rfl) ?_
        refine g_get (j := 6) (v := .int (g 0 6)) X Z oX7 (iB7 _) rfl (by decide) rfl (List.mem_cons_of_mem _ mB803) rfl dX7_error_26 ?_
        refine lv_icmp_ne (tgt := 34) hx hb dX7_error_29 (by decide) (fun c6 => ?_) (fun c6 => ?_)
        · replace hm := (if_neg c6).symm.trans hm
          refine lv_aload_n hx hb dX7_error_34 rfl (lv_at hl 1 rfl) ?_
          refine lv_iload_n hx hb dX7_error_35 rfl (lv_at hl 0 rfl) ?_
          obtain ⟨r9, e7, hm⟩ := sBi_some hm
          refine g_callVI (n := 1) (As := [.int r4]) (rest := []) sameM X Z (cX7_sign_c l e7) oX7 rfl (gooV mB807 mB808 mB809 mB614 mB805) rfl (by decide +kernel) rfl ⟨Nat.le_of_ble_eq_true rfl, Nat.le_of_ble_eq_true rfl⟩ ⟨Nat.le_of_ble_eq_true rfl, Nat.le_of_ble_eq_true rfl⟩ hl.1 rfl (Nat.le_of_ble_eq_true rfl) dX7_error_36 (fun w8 H locs Z => ?_)
          refine lv_bipush (v := 59) hx hb dX7_error_39 (by decide) ?_
          refine lv_icmp_eq (tgt := 46) hx hb dX7_error_41 (by decide) (fun c10 => ?_) (fun c10 => ?_)
          · replace hm := (if_pos c10).symm.trans hm
            refine lv_iload_n hx hb dX7_error_46 rfl (lv_at hl 0 rfl) ?_
            refine lv_iconst (v := 1) hx hb dX7_error_47 (by decide) ?_
            refine lv_iadd hx hb dX7_error_48 ?_
            refine lv_istore_n (lv' := [(1, .int (r4 + (1 : Int32))), (3, .int r4), (0, .ref (G.1 0)), (2, .int x2)]) hx hb dX7_error_49 rfl hl (by decide) rfl (fun ls hl => ?_)
            refine lv_iinc (v := (x2 + (1 : Int32))) (lv' := [(2, .int (x2 + (1 : Int32))), (1, .int (r4 + (1 : Int32))), (3, .int r4), (0, .ref (G.1 0))]) hx hb dX7_error_50 hl (k := 3) rfl rfl (by decide) rfl (fun ls hl => ?_)
            refine lv_goto (tgt := 4) hx hb dX7_error_53 (by decide) ?_
            exact ih (r4 + (1 : Int32)) (x2 + (1 : Int32)) _ _ _ Z (lv_sub hl [3, 1, 0] rfl) hm
          · replace hm := (if_neg c10).symm.trans hm
            refine lv_iload_n hx hb dX7_error_44 rfl (lv_at hl 0 rfl) ?_
            obtain rfl := Option.some.inj hm
            exact kI _ _ _ _ dX7_error_45 Z (vp_nar_int _)
        · replace hm := (if_pos c6).symm.trans hm
          refine lv_iconst (v := (-1)) hx hb dX7_error_32 (by decide) ?_
          obtain rfl := Option.some.inj hm
          exact kI _ _ _ _ dX7_error_33 Z (vp_nar_int _)
      · replace hm := (if_neg c5).symm.trans hm
        refine lv_iconst (v := (-1)) hx hb dX7_error_20 (by decide) ?_
        refine lv_iload_n hx hb dX7_error_21 rfl (lv_at hl 0 rfl) ?_
        refine lv_isub hx hb dX7_error_22 ?_
        obtain rfl := Option.some.inj hm
        exact kI _ _ _ _ dX7_error_23 Z (vp_nar_int _)
set_option maxHeartbeats 4000000 in
set_option maxRecDepth 100000 in
theorem bX7_error_0 (X : gC p s m args meth c cX7_error 4 wmX7_error yX7_error.cls (some .int) G A) {n : Nat} {g : Mem} {r : Int32} (kI : ∀ (pc : Nat) (ls : Array Slot) (H : Heap) (locs : List Loc), decode cX7_error pc = .ok (.ireturn, 1) → WS wM G g A s.heap H locs → narrow .int (.int r) = .int r → W p l e { frames := 5, cells := 0, slots := 0, locals := 113 } s m args below meth c H locs 0 0 Q (F0 m pc ls [.int r])) : ∀ (H : Heap) (locs : List Loc) (ls : Array Slot), WS wM G g A s.heap H locs → lv_has ls 4 [(0, .ref (G.1 0))] → sX7_error n g = some r → W p l e { frames := 5, cells := 0, slots := 0, locals := 113 } s m args below meth c H locs 0 0 Q (F0 m 0 ls []) := by
  have hx := X.1
  have hb := X.2.1
  intro H locs ls Z hl hm
  unfold sX7_error at hm
  refine lv_iconst (v := 0) hx hb dX7_error_0 (by decide) ?_
  refine lv_istore_n (lv' := [(1, .int 0), (0, .ref (G.1 0))]) hx hb dX7_error_1 rfl hl (by decide) rfl (fun ls hl => ?_)
  refine lv_iconst (v := 0) hx hb dX7_error_2 (by decide) ?_
  refine lv_istore_n (lv' := [(2, .int 0), (1, .int 0), (0, .ref (G.1 0))]) hx hb dX7_error_3 rfl hl (by decide) rfl (fun ls hl => ?_)
  exact bX7_error_4 X kI n (0 : Int32) (0 : Int32) _ _ _ Z (lv_sub hl [2, 1, 0] rfl) hm
theorem cX7_error_c (l : Launch) {G : LY} {g : Mem} {n : Nat} {r : Int32} (hm : sX7_error n g = some r) : cI l yX7_error wmX7_error 5 113 .int wM G [.ref (G.1 0)] g r g :=
  mk_cI sameM (by decide +kernel) rfl (Nat.le_of_ble_eq_true rfl) (fun p e s m args below meth c A Q ls X kI hl Z => bX7_error_0 X kI  _ _ ls Z hl hm)
abbrev wmX7_errorPosition : List Cond := Cond.code yX7_errorPosition cX7_errorPosition 1 (some .int) :: wA0
set_option maxHeartbeats 4000000 in
set_option maxRecDepth 100000 in
theorem bX7_errorPosition_0 (X : gC p s m args meth c cX7_errorPosition 1 wmX7_errorPosition yX7_errorPosition.cls (some .int) G A) {n : Nat} {r : Int32 × Mem} (kI : ∀ (pc : Nat) (ls : Array Slot) (H : Heap) (locs : List Loc), decode cX7_errorPosition pc = .ok (.ireturn, 1) → WS wM G r.2 A s.heap H locs → narrow .int (.int r.1) = .int r.1 → W p l e { frames := 6, cells := 0, slots := 0, locals := 136 } s m args below meth c H locs 0 0 Q (F0 m pc ls [.int r.1])) : ∀ (g : Mem) (H : Heap) (locs : List Loc) (ls : Array Slot), WS wM G g A s.heap H locs → lv_has ls 1 [(0, .ref (G.1 0))] → sX7_errorPosition n g = some r → W p l e { frames := 6, cells := 0, slots := 0, locals := 136 } s m args below meth c H locs 0 0 Q (F0 m 0 ls []) := by
  have hx := X.1
  have hb := X.2.1
  intro g H locs ls Z hl hm
  unfold sX7_errorPosition at hm
  refine lv_aload_n hx hb dX7_errorPosition_0 rfl (lv_at hl 0 rfl) ?_
  refine lv_iconst (v := 0) hx hb dX7_errorPosition_1 (by decide) ?_
  obtain ⟨g1, eg1, hm⟩ := sLet_some hm
  refine g_put (j := 7) eg1 X Z oX7 (iB7 _) rfl tyX7_ok nmX7 (by decide) rfl rfl (Nat.le_of_ble_eq_true rfl) (p7_7 G g (0 : Int32)) rfl (List.mem_cons_of_mem _ mB608) dX7_errorPosition_2 (fun H locs Z => ?_)
  refine lv_aload_n hx hb dX7_errorPosition_5 rfl (lv_at hl 0 rfl) ?_
  obtain ⟨r4, e2, hm⟩ := sBi_some hm
  refine g_callVI (n := 0) (As := []) (rest := []) sameM X Z (cX7_error_c l e2) oX7 rfl (gooV mB834 mB835 mB836 mB614 mB833) rfl (by decide +kernel) rfl ⟨Nat.le_of_ble_eq_true rfl, Nat.le_of_ble_eq_true rfl⟩ ⟨Nat.le_of_ble_eq_true rfl, Nat.le_of_ble_eq_true rfl⟩ hl.1 rfl (Nat.le_of_ble_eq_true rfl) dX7_errorPosition_6 (fun w3 H locs Z => ?_)
  obtain rfl := Option.some.inj hm
  exact kI _ _ _ _ dX7_errorPosition_9 Z (vp_nar_int _)
theorem cX7_errorPosition_c (l : Launch) {G : LY} {g : Mem} {n : Nat} {r : Int32 × Mem} (hm : sX7_errorPosition n g = some r) : cI l yX7_errorPosition wmX7_errorPosition 6 136 .int wM G [.ref (G.1 0)] g r.1 r.2 :=
  mk_cI sameM (by decide +kernel) rfl (Nat.le_of_ble_eq_true rfl) (fun p e s m args below meth c A Q ls X kI hl Z => bX7_errorPosition_0 X kI g  _ _ ls Z hl hm)
abbrev wmX7_numberAt : List Cond := Cond.code yX7_numberAt cX7_numberAt 5 (some .int) :: wA0
set_option maxHeartbeats 4000000 in
set_option maxRecDepth 100000 in
theorem bX7_numberAt_31 (X : gC p s m args meth c cX7_numberAt 5 wmX7_numberAt yX7_numberAt.cls (some .int) G A) {n : Nat} {g : Mem} {r : Int32} (kI : ∀ (pc : Nat) (ls : Array Slot) (H : Heap) (locs : List Loc), decode cX7_numberAt pc = .ok (.ireturn, 1) → WS wM G g A s.heap H locs → narrow .int (.int r) = .int r → W p l e { frames := 2, cells := 0, slots := 0, locals := 43 } s m args below meth c H locs 0 0 Q (F0 m pc ls [.int r])) : ∀ (f : Nat), ∀ (x2 : Int32) (x3 : Int32) (x4 : Int32) (H : Heap) (locs : List Loc) (ls : Array Slot), WS wM G g A s.heap H locs → lv_has ls 5 [(0, .ref (G.1 0)), (2, .int x2), (3, .int x3), (4, .int x4)] → sX7_numberAt_31 n g f x2 x3 x4 = some r → W p l e { frames := 2, cells := 0, slots := 0, locals := 43 } s m args below meth c H locs 0 0 Q (F0 m 31 ls []) := by
  have hx := X.1
  have hb := X.2.1
  intro f
  induction f with
  | zero =>
    intro x2 x3 x4 H locs ls Z hl hm
    cases hm
  | succ f ih =>
    intro x2 x3 x4 H locs ls Z hl hm
    unfold sX7_numberAt_31 at hm
    refine lv_aload_n hx hb dX7_numberAt_31 rfl (lv_at hl 0 rfl) ?_
    refine lv_iload hx hb dX7_numberAt_32 (lv_at hl 3 rfl) ?_
    obtain ⟨r3, e1, hm⟩ := sBi_some hm
    refine g_callVI (n := 1) (As := [.int x4]) (rest := []) sameM X Z (cX7_digit_c l e1) oX7 rfl (gooV mB811 mB812 mB813 mB614 mB806) rfl (by decide +kernel) rfl ⟨Nat.le_of_ble_eq_true rfl, Nat.le_of_ble_eq_true rfl⟩ ⟨Nat.le_of_ble_eq_true rfl, Nat.le_of_ble_eq_true rfl⟩ hl.1 rfl (Nat.le_of_ble_eq_true rfl) dX7_numberAt_34 (fun w2 H locs Z => ?_)
    refine lv_if_lt (tgt := 58) hx hb dX7_numberAt_37 (by decide) (fun c4 => ?_) (fun c4 => ?_)
    · replace hm := (if_pos c4).symm.trans hm
      refine lv_iload_n hx hb dX7_numberAt_58 rfl (lv_at hl 1 rfl) ?_
      refine lv_if_eq (tgt := 67) hx hb dX7_numberAt_59 (by decide) (fun c5 => ?_) (fun c5 => ?_)
      · replace hm := (if_pos c5).symm.trans hm
        refine lv_iload_n hx hb dX7_numberAt_67 rfl (lv_at hl 2 rfl) ?_
        obtain rfl := Option.some.inj hm
        exact kI _ _ _ _ dX7_numberAt_68 Z (vp_nar_int _)
      · replace hm := (if_neg c5).symm.trans hm
        refine lv_iload_n hx hb dX7_numberAt_62 rfl (lv_at hl 2 rfl) ?_
        refine lv_ineg hx hb dX7_numberAt_63 ?_
        refine lv_goto (tgt := 68) hx hb dX7_numberAt_64 (by decide) ?_
        obtain rfl := Option.some.inj hm
        exact kI _ _ _ _ dX7_numberAt_68 Z (vp_nar_int _)
    · replace hm := (if_neg c4).symm.trans hm
      refine lv_bipush (v := 10) hx hb dX7_numberAt_40 (by decide) ?_
      refine lv_iload_n hx hb dX7_numberAt_42 rfl (lv_at hl 2 rfl) ?_
      refine lv_imul hx hb dX7_numberAt_43 ?_
      refine lv_aload_n hx hb dX7_numberAt_44 rfl (lv_at hl 0 rfl) ?_
      refine lv_iload hx hb dX7_numberAt_45 (lv_at hl 3 rfl) ?_
      obtain ⟨r8, e6, hm⟩ := sBi_some hm
      refine g_callVI (n := 1) (As := [.int x4]) (rest := [.int ((10 : Int32) * x3)]) sameM X Z (cX7_digit_c l e6) oX7 rfl (gooV mB811 mB812 mB813 mB614 mB806) rfl (by decide +kernel) rfl ⟨Nat.le_of_ble_eq_true rfl, Nat.le_of_ble_eq_true rfl⟩ ⟨Nat.le_of_ble_eq_true rfl, Nat.le_of_ble_eq_true rfl⟩ hl.1 rfl (Nat.le_of_ble_eq_true rfl) dX7_numberAt_47 (fun w7 H locs Z => ?_)
      refine lv_iadd hx hb dX7_numberAt_50 ?_
      refine lv_istore_n (lv' := [(3, .int (((10 : Int32) * x3) + r8)), (0, .ref (G.1 0)), (2, .int x2), (4, .int x4)]) hx hb dX7_numberAt_51 rfl hl (by decide) rfl (fun ls hl => ?_)
      refine lv_iinc (v := (x4 + (1 : Int32))) (lv' := [(4, .int (x4 + (1 : Int32))), (3, .int (((10 : Int32) * x3) + r8)), (0, .ref (G.1 0)), (2, .int x2)]) hx hb dX7_numberAt_52 hl (k := 3) rfl rfl (by decide) rfl (fun ls hl => ?_)
      refine lv_goto (tgt := 31) hx hb dX7_numberAt_55 (by decide) ?_
      exact ih x2 (((10 : Int32) * x3) + r8) (x4 + (1 : Int32)) _ _ _ Z (lv_sub hl [2, 3, 1, 0] rfl) hm
set_option maxHeartbeats 4000000 in
set_option maxRecDepth 100000 in
theorem bX7_numberAt_0 (X : gC p s m args meth c cX7_numberAt 5 wmX7_numberAt yX7_numberAt.cls (some .int) G A) {n : Nat} {g : Mem} {r : Int32} (kI : ∀ (pc : Nat) (ls : Array Slot) (H : Heap) (locs : List Loc), decode cX7_numberAt pc = .ok (.ireturn, 1) → WS wM G g A s.heap H locs → narrow .int (.int r) = .int r → W p l e { frames := 2, cells := 0, slots := 0, locals := 43 } s m args below meth c H locs 0 0 Q (F0 m pc ls [.int r])) : ∀ (x1 : Int32) (H : Heap) (locs : List Loc) (ls : Array Slot), WS wM G g A s.heap H locs → lv_has ls 5 [(0, .ref (G.1 0)), (1, .int x1)] → sX7_numberAt n g x1 = some r → W p l e { frames := 2, cells := 0, slots := 0, locals := 43 } s m args below meth c H locs 0 0 Q (F0 m 0 ls []) := by
  have hx := X.1
  have hb := X.2.1
  intro x1 H locs ls Z hl hm
  unfold sX7_numberAt at hm
  refine lv_aload_n hx hb dX7_numberAt_0 rfl (lv_at hl 0 rfl) ?_
  refine lv_iload_n hx hb dX7_numberAt_1 rfl (lv_at hl 1 rfl) ?_
  obtain ⟨r3, e1, hm⟩ := sBi_some hm
  refine g_callVI (n := 1) (As := [.int x1]) (rest := []) sameM X Z (cX7_sign_c l e1) oX7 rfl (gooV mB807 mB808 mB809 mB614 mB805) rfl (by decide +kernel) rfl ⟨Nat.le_of_ble_eq_true rfl, Nat.le_of_ble_eq_true rfl⟩ ⟨Nat.le_of_ble_eq_true rfl, Nat.le_of_ble_eq_true rfl⟩ hl.1 rfl (Nat.le_of_ble_eq_true rfl) dX7_numberAt_2 (fun w2 H locs Z => ?_)
  refine lv_bipush (v := 45) hx hb dX7_numberAt_5 (by decide) ?_
  refine lv_icmp_ne (tgt := 14) hx hb dX7_numberAt_7 (by decide) (fun c4 => ?_) (fun c4 => ?_)
  · replace hm := (if_neg c4).symm.trans hm
    refine lv_iconst (v := 0) hx hb dX7_numberAt_14 (by decide) ?_
    refine lv_istore_n (lv' := [(2, .int 0), (0, .ref (G.1 0)), (1, .int x1)]) hx hb dX7_numberAt_15 rfl hl (by decide) rfl (fun ls hl => ?_)
    refine lv_iconst (v := 0) hx hb dX7_numberAt_16 (by decide) ?_
    refine lv_istore_n (lv' := [(3, .int 0), (2, .int 0), (0, .ref (G.1 0)), (1, .int x1)]) hx hb dX7_numberAt_17 rfl hl (by decide) rfl (fun ls hl => ?_)
    refine lv_iload_n hx hb dX7_numberAt_18 rfl (lv_at hl 1 rfl) ?_
    refine lv_if_eq (tgt := 28) hx hb dX7_numberAt_19 (by decide) (fun c5 => ?_) (fun c5 => ?_)
    rotate_left
    · first | exact absurd c5 (by decide) | exact absurd (by decide) c5
    refine lv_iload_n hx hb dX7_numberAt_28 rfl (lv_at hl 3 rfl) ?_
    refine lv_istore (lv' := [(4, .int x1), (3, .int 0), (2, .int 0), (0, .ref (G.1 0)), (1, .int x1)]) hx hb dX7_numberAt_29 hl (by decide) rfl (fun ls hl => ?_)
    exact bX7_numberAt_31 X kI n (0 : Int32) (0 : Int32) x1 _ _ _ Z (lv_sub hl [3, 2, 1, 0] rfl) hm
  · replace hm := (if_pos c4).symm.trans hm
    refine lv_iconst (v := 1) hx hb dX7_numberAt_10 (by decide) ?_
    refine lv_goto (tgt := 15) hx hb dX7_numberAt_11 (by decide) ?_
    refine lv_istore_n (lv' := [(2, .int 1), (0, .ref (G.1 0)), (1, .int x1)]) hx hb dX7_numberAt_15 rfl hl (by decide) rfl (fun ls hl => ?_)
    refine lv_iconst (v := 0) hx hb dX7_numberAt_16 (by decide) ?_
    refine lv_istore_n (lv' := [(3, .int 0), (2, .int 1), (0, .ref (G.1 0)), (1, .int x1)]) hx hb dX7_numberAt_17 rfl hl (by decide) rfl (fun ls hl => ?_)
    refine lv_iload_n hx hb dX7_numberAt_18 rfl (lv_at hl 1 rfl) ?_
    refine lv_if_eq (tgt := 28) hx hb dX7_numberAt_19 (by decide) (fun c6 => ?_) (fun c6 => ?_)
    · first | exact absurd c6 (by decide) | exact absurd (by decide) c6
    refine lv_iload_n hx hb dX7_numberAt_22 rfl (lv_at hl 3 rfl) ?_
    refine lv_iconst (v := 1) hx hb dX7_numberAt_23 (by decide) ?_
    refine lv_iadd hx hb dX7_numberAt_24 ?_
    refine lv_goto (tgt := 29) hx hb dX7_numberAt_25 (by decide) ?_
    refine lv_istore (lv' := [(4, .int (x1 + (1 : Int32))), (3, .int 0), (2, .int 1), (0, .ref (G.1 0)), (1, .int x1)]) hx hb dX7_numberAt_29 hl (by decide) rfl (fun ls hl => ?_)
    exact bX7_numberAt_31 X kI n (1 : Int32) (0 : Int32) (x1 + (1 : Int32)) _ _ _ Z (lv_sub hl [3, 2, 1, 0] rfl) hm
theorem cX7_numberAt_c (l : Launch) {G : LY} {g : Mem} {n : Nat} {x1 : Int32} {r : Int32} (hm : sX7_numberAt n g x1 = some r) : cI l yX7_numberAt wmX7_numberAt 2 43 .int wM G [.ref (G.1 0), .int x1] g r g :=
  mk_cI sameM (by decide +kernel) rfl (Nat.le_of_ble_eq_true rfl) (fun p e s m args below meth c A Q ls X kI hl Z => bX7_numberAt_0 X kI x1 _ _ ls Z hl hm)
abbrev wmX7_argument : List Cond := Cond.code yX7_argument cX7_argument 3 (some .int) :: wA0
set_option maxHeartbeats 4000000 in
set_option maxRecDepth 100000 in
theorem bX7_argument_2 (X : gC p s m args meth c cX7_argument 3 wmX7_argument yX7_argument.cls (some .int) G A) {n : Nat} {g : Mem} {r : Int32} (kI : ∀ (pc : Nat) (ls : Array Slot) (H : Heap) (locs : List Loc), decode cX7_argument pc = .ok (.ireturn, 1) → WS wM G g A s.heap H locs → narrow .int (.int r) = .int r → W p l e { frames := 1, cells := 0, slots := 0, locals := 21 } s m args below meth c H locs 0 0 Q (F0 m pc ls [.int r])) : ∀ (f : Nat), ∀ (x2 : Int32) (H : Heap) (locs : List Loc) (ls : Array Slot), WS wM G g A s.heap H locs → lv_has ls 3 [(0, .ref (G.1 0)), (2, .int x2)] → sX7_argument_2 n g f x2 = some r → W p l e { frames := 1, cells := 0, slots := 0, locals := 21 } s m args below meth c H locs 0 0 Q (F0 m 2 ls []) := by
  have hx := X.1
  have hb := X.2.1
  intro f
  induction f with
  | zero =>
    intro x2 H locs ls Z hl hm
    cases hm
  | succ f ih =>
    intro x2 H locs ls Z hl hm
    unfold sX7_argument_2 at hm
    refine lv_iload_n hx hb dX7_argument_2 rfl (lv_at hl 1 rfl) ?_
    refine lv_aload_n hx hb dX7_argument_3 rfl (lv_at hl 0 rfl) ?_
    refine g_get (j := 6) (v := .int (g 0 6)) X Z oX7 (iB7 _) rfl (by decide) rfl (List.mem_cons_of_mem _ mB803) rfl dX7_argument_4 ?_
    refine lv_icmp_ge (tgt := 26) hx hb dX7_argument_7 (by decide) (fun c1 => ?_) (fun c1 => ?_)
    · replace hm := (if_pos c1).symm.trans hm
      refine lv_iload_n hx hb dX7_argument_26 rfl (lv_at hl 1 rfl) ?_
      refine lv_iconst (v := 1) hx hb dX7_argument_27 (by decide) ?_
      refine lv_iadd hx hb dX7_argument_28 ?_
      obtain rfl := Option.some.inj hm
      exact kI _ _ _ _ dX7_argument_29 Z (vp_nar_int _)
    · replace hm := (if_neg c1).symm.trans hm
      refine lv_aload_n hx hb dX7_argument_10 rfl (lv_at hl 0 rfl) ?_
      refine lv_iload_n hx hb dX7_argument_11 rfl (lv_at hl 1 rfl) ?_
      obtain ⟨r4, e2, hm⟩ := sBi_some hm
      refine g_callVI (n := 1) (As := [.int x2]) (rest := []) sameM X Z (cX7_sign_c l e2) oX7 rfl (gooV mB807 mB808 mB809 mB614 mB805) rfl (by decide +kernel) rfl ⟨Nat.le_of_ble_eq_true rfl, Nat.le_of_ble_eq_true rfl⟩ ⟨Nat.le_of_ble_eq_true rfl, Nat.le_of_ble_eq_true rfl⟩ hl.1 rfl (Nat.le_of_ble_eq_true rfl) dX7_argument_12 (fun w3 H locs Z => ?_)
      refine lv_bipush (v := 44) hx hb dX7_argument_15 (by decide) ?_
      refine lv_icmp_eq (tgt := 26) hx hb dX7_argument_17 (by decide) (fun c5 => ?_) (fun c5 => ?_)
      · replace hm := (if_pos c5).symm.trans hm
        refine lv_iload_n hx hb dX7_argument_26 rfl (lv_at hl 1 rfl) ?_
        refine lv_iconst (v := 1) hx hb dX7_argument_27 (by decide) ?_
        refine lv_iadd hx hb dX7_argument_28 ?_
        obtain rfl := Option.some.inj hm
        exact kI _ _ _ _ dX7_argument_29 Z (vp_nar_int _)
      · replace hm := (if_neg c5).symm.trans hm
        refine lv_iinc (v := (x2 + (1 : Int32))) (lv' := [(2, .int (x2 + (1 : Int32))), (0, .ref (G.1 0))]) hx hb dX7_argument_20 hl (k := 1) rfl rfl (by decide) rfl (fun ls hl => ?_)
        refine lv_goto (tgt := 2) hx hb dX7_argument_23 (by decide) ?_
        exact ih (x2 + (1 : Int32)) _ _ _ Z (lv_sub hl [1, 0] rfl) hm
set_option maxHeartbeats 4000000 in
set_option maxRecDepth 100000 in
theorem bX7_argument_0 (X : gC p s m args meth c cX7_argument 3 wmX7_argument yX7_argument.cls (some .int) G A) {n : Nat} {g : Mem} {r : Int32} (kI : ∀ (pc : Nat) (ls : Array Slot) (H : Heap) (locs : List Loc), decode cX7_argument pc = .ok (.ireturn, 1) → WS wM G g A s.heap H locs → narrow .int (.int r) = .int r → W p l e { frames := 1, cells := 0, slots := 0, locals := 21 } s m args below meth c H locs 0 0 Q (F0 m pc ls [.int r])) : ∀ (x1 : Int32) (H : Heap) (locs : List Loc) (ls : Array Slot), WS wM G g A s.heap H locs → lv_has ls 3 [(0, .ref (G.1 0)), (1, .int x1)] → sX7_argument n g x1 = some r → W p l e { frames := 1, cells := 0, slots := 0, locals := 21 } s m args below meth c H locs 0 0 Q (F0 m 0 ls []) := by
  have hx := X.1
  have hb := X.2.1
  intro x1 H locs ls Z hl hm
  unfold sX7_argument at hm
  refine lv_iload_n hx hb dX7_argument_0 rfl (lv_at hl 1 rfl) ?_
  refine lv_istore_n (lv' := [(2, .int x1), (0, .ref (G.1 0)), (1, .int x1)]) hx hb dX7_argument_1 rfl hl (by decide) rfl (fun ls hl => ?_)
  exact bX7_argument_2 X kI n x1 _ _ _ Z (lv_sub hl [1, 0] rfl) hm
theorem cX7_argument_c (l : Launch) {G : LY} {g : Mem} {n : Nat} {x1 : Int32} {r : Int32} (hm : sX7_argument n g x1 = some r) : cI l yX7_argument wmX7_argument 1 21 .int wM G [.ref (G.1 0), .int x1] g r g :=
  mk_cI sameM (by decide +kernel) rfl (Nat.le_of_ble_eq_true rfl) (fun p e s m args below meth c A Q ls X kI hl Z => bX7_argument_0 X kI x1 _ _ ls Z hl hm)
abbrev wmX7_ends : List Cond := Cond.code yX7_ends cX7_ends 5 none :: wA0
set_option maxHeartbeats 4000000 in
set_option maxRecDepth 100000 in
theorem bX7_ends_0 (X : gC p s m args meth c cX7_ends 5 wmX7_ends yX7_ends.cls none G A) {n : Nat} {r : Mem} (kI : ∀ (pc : Nat) (ls : Array Slot) (H : Heap) (locs : List Loc), decode cX7_ends pc = .ok (.return_, 1) → WS wM G r A s.heap H locs → W p l e { frames := 7, cells := 0, slots := 0, locals := 157 } s m args below meth c H locs 0 0 Q (F0 m pc ls [])) : ∀ (g : Mem) (x1 : Int32) (x2 : Int32) (x3 : Int32) (H : Heap) (locs : List Loc) (ls : Array Slot), WS wM G g A s.heap H locs → lv_has ls 5 [(0, .ref (G.1 0)), (1, .int x1), (2, .int x2), (3, .int x3)] → sX7_ends n g x1 x2 x3 = some r → W p l e { frames := 7, cells := 0, slots := 0, locals := 157 } s m args below meth c H locs 0 0 Q (F0 m 0 ls []) := by
  have hx := X.1
  have hb := X.2.1
  intro g x1 x2 x3 H locs ls Z hl hm
  unfold sX7_ends at hm
  refine lv_iload_n hx hb dX7_ends_0 rfl (lv_at hl 2 rfl) ?_
  refine lv_if_ne (tgt := 5) hx hb dX7_ends_1 (by decide) (fun c1 => ?_) (fun c1 => ?_)
  · replace hm := (if_neg c1).symm.trans hm
    refine lv_iload_n hx hb dX7_ends_5 rfl (lv_at hl 3 rfl) ?_
    refine lv_if_ne (tgt := 21) hx hb dX7_ends_6 (by decide) (fun c2 => ?_) (fun c2 => ?_)
    · replace hm := (if_neg c2).symm.trans hm
      refine lv_aload_n hx hb dX7_ends_21 rfl (lv_at hl 0 rfl) ?_
      refine lv_iload_n hx hb dX7_ends_22 rfl (lv_at hl 1 rfl) ?_
      obtain ⟨r5, e3, hm⟩ := sBi_some hm
      refine g_callVI (n := 1) (As := [.int x1]) (rest := []) sameM X Z (cX7_outcome_c l e3) oX7 rfl (gooV mB769 mB770 mB771 mB614 mB703) rfl (by decide +kernel) rfl ⟨Nat.le_of_ble_eq_true rfl, Nat.le_of_ble_eq_true rfl⟩ ⟨Nat.le_of_ble_eq_true rfl, Nat.le_of_ble_eq_true rfl⟩ hl.1 rfl (Nat.le_of_ble_eq_true rfl) dX7_ends_23 (fun w4 H locs Z => ?_)
      refine lv_istore (lv' := [(4, .int r5), (0, .ref (G.1 0)), (1, .int x1), (2, .int x2), (3, .int x3)]) hx hb dX7_ends_26 hl (by decide) rfl (fun ls hl => ?_)
      refine lv_iload hx hb dX7_ends_28 (lv_at hl 0 rfl) ?_
      refine lv_bipush (v := (-3)) hx hb dX7_ends_30 (by decide) ?_
      refine lv_icmp_eq (tgt := 42) hx hb dX7_ends_32 (by decide) (fun c6 => ?_) (fun c6 => ?_)
      · replace hm := (if_pos c6).symm.trans hm
        obtain rfl := Option.some.inj hm
        exact kI _ _ _ _ dX7_ends_42 Z
      · replace hm := (if_neg c6).symm.trans hm
        refine lv_aload_n hx hb dX7_ends_35 rfl (lv_at hl 1 rfl) ?_
        refine lv_iload_n hx hb dX7_ends_36 rfl (lv_at hl 2 rfl) ?_
        refine lv_iload hx hb dX7_ends_37 (lv_at hl 0 rfl) ?_
        obtain ⟨g9, e7, hm⟩ := sBi_some hm
        refine g_callVV (n := 2) (As := [.int x1, .int r5]) (rest := []) sameM X Z (cX7_requests_c l e7) oX7 rfl (gooV mB772 mB773 mB774 mB614 mB736) rfl (by decide +kernel) rfl ⟨Nat.le_of_ble_eq_true rfl, Nat.le_of_ble_eq_true rfl⟩ ⟨Nat.le_of_ble_eq_true rfl, Nat.le_of_ble_eq_true rfl⟩ hl.1 rfl (Nat.le_of_ble_eq_true rfl) dX7_ends_39 (fun H locs Z => ?_)
        obtain rfl := Option.some.inj hm
        exact kI _ _ _ _ dX7_ends_42 Z
    · replace hm := (if_pos c2).symm.trans hm
      refine lv_aload_n hx hb dX7_ends_9 rfl (lv_at hl 0 rfl) ?_
      refine lv_bipush (v := 21) hx hb dX7_ends_10 (by decide) ?_
      refine lv_iload_n hx hb dX7_ends_12 rfl (lv_at hl 1 rfl) ?_
      refine lv_imul hx hb dX7_ends_13 ?_
      refine lv_iconst (v := 1) hx hb dX7_ends_14 (by decide) ?_
      refine lv_iadd hx hb dX7_ends_15 ?_
      refine lv_iconst (v := 3) hx hb dX7_ends_16 (by decide) ?_
      obtain ⟨g12, e10, hm⟩ := sBi_some hm
      refine g_callVV (n := 2) (As := [.int (((21 : Int32) * x1) + (1 : Int32)), .int 3]) (rest := []) sameM X Z (cX7_lays_c l e10) oX7 rfl (gooV mB722 mB723 mB724 mB614 mB650) rfl (by decide +kernel) rfl ⟨Nat.le_of_ble_eq_true rfl, Nat.le_of_ble_eq_true rfl⟩ ⟨Nat.le_of_ble_eq_true rfl, Nat.le_of_ble_eq_true rfl⟩ hl.1 rfl (Nat.le_of_ble_eq_true rfl) dX7_ends_17 (fun H locs Z => ?_)
      obtain rfl := Option.some.inj hm
      exact kI _ _ _ _ dX7_ends_20 Z
  · replace hm := (if_pos c1).symm.trans hm
    obtain rfl := Option.some.inj hm
    exact kI _ _ _ _ dX7_ends_4 Z
theorem cX7_ends_c (l : Launch) {G : LY} {g : Mem} {n : Nat} {x1 : Int32} {x2 : Int32} {x3 : Int32} {r : Mem} (hm : sX7_ends n g x1 x2 x3 = some r) : cV l yX7_ends wmX7_ends 7 157 wM G [.ref (G.1 0), .int x1, .int x2, .int x3] g r :=
  mk_cV sameM (by decide +kernel) rfl (Nat.le_of_ble_eq_true rfl) (fun p e s m args below meth c A Q ls X kI hl Z => bX7_ends_0 X kI g x1 x2 x3 _ _ ls Z hl hm)
abbrev wmX7_executes : List Cond := Cond.code yX7_executes cX7_executes 7 (some .boolean) :: wA0
set_option maxHeartbeats 4000000 in
set_option maxRecDepth 100000 in
theorem bX7_executes_0 (X : gC p s m args meth c cX7_executes 7 wmX7_executes yX7_executes.cls (some .boolean) G A) {n : Nat} {r : Int32 × Mem} (kI : ∀ (pc : Nat) (ls : Array Slot) (H : Heap) (locs : List Loc), decode cX7_executes pc = .ok (.ireturn, 1) → WS wM G r.2 A s.heap H locs → narrow .boolean (.int r.1) = .int r.1 → W p l e { frames := 8, cells := 0, slots := 0, locals := 181 } s m args below meth c H locs 0 0 Q (F0 m pc ls [.int r.1])) : ∀ (g : Mem) (x1 : Int32) (H : Heap) (locs : List Loc) (ls : Array Slot), WS wM G g A s.heap H locs → lv_has ls 7 [(0, .ref (G.1 0)), (1, .int x1)] → sX7_executes n g x1 = some r → W p l e { frames := 8, cells := 0, slots := 0, locals := 181 } s m args below meth c H locs 0 0 Q (F0 m 0 ls []) := by
  have hx := X.1
  have hb := X.2.1
  intro g x1 H locs ls Z hl hm
  unfold sX7_executes at hm
  refine lv_aload_n hx hb dX7_executes_0 rfl (lv_at hl 0 rfl) ?_
  refine lv_iload_n hx hb dX7_executes_1 rfl (lv_at hl 1 rfl) ?_
  refine lv_iconst (v := 1) hx hb dX7_executes_2 (by decide) ?_
  refine lv_iadd hx hb dX7_executes_3 ?_
  obtain ⟨r3, e1, hm⟩ := sBi_some hm
  refine g_callVI (n := 1) (As := [.int (x1 + (1 : Int32))]) (rest := []) sameM X Z (cX7_numberAt_c l e1) oX7 rfl (gooV mB841 mB842 mB843 mB614 mB838) rfl (by decide +kernel) rfl ⟨Nat.le_of_ble_eq_true rfl, Nat.le_of_ble_eq_true rfl⟩ ⟨Nat.le_of_ble_eq_true rfl, Nat.le_of_ble_eq_true rfl⟩ hl.1 rfl (Nat.le_of_ble_eq_true rfl) dX7_executes_4 (fun w2 H locs Z => ?_)
  refine lv_istore_n (lv' := [(2, .int r3), (0, .ref (G.1 0)), (1, .int x1)]) hx hb dX7_executes_7 rfl hl (by decide) rfl (fun ls hl => ?_)
  refine lv_aload_n hx hb dX7_executes_8 rfl (lv_at hl 1 rfl) ?_
  refine lv_aload_n hx hb dX7_executes_9 rfl (lv_at hl 1 rfl) ?_
  refine lv_iload_n hx hb dX7_executes_10 rfl (lv_at hl 2 rfl) ?_
  obtain ⟨r6, e4, hm⟩ := sBi_some hm
  refine g_callVI (n := 1) (As := [.int x1]) (rest := [.ref (G.1 0)]) sameM X Z (cX7_argument_c l e4) oX7 rfl (gooV mB844 mB845 mB846 mB614 mB839) rfl (by decide +kernel) rfl ⟨Nat.le_of_ble_eq_true rfl, Nat.le_of_ble_eq_true rfl⟩ ⟨Nat.le_of_ble_eq_true rfl, Nat.le_of_ble_eq_true rfl⟩ hl.1 rfl (Nat.le_of_ble_eq_true rfl) dX7_executes_11 (fun w5 H locs Z => ?_)
  obtain ⟨r9, e7, hm⟩ := sBi_some hm
  refine g_callVI (n := 1) (As := [.int r6]) (rest := []) sameM X Z (cX7_numberAt_c l e7) oX7 rfl (gooV mB841 mB842 mB843 mB614 mB838) rfl (by decide +kernel) rfl ⟨Nat.le_of_ble_eq_true rfl, Nat.le_of_ble_eq_true rfl⟩ ⟨Nat.le_of_ble_eq_true rfl, Nat.le_of_ble_eq_true rfl⟩ hl.1 rfl (Nat.le_of_ble_eq_true rfl) dX7_executes_14 (fun w8 H locs Z => ?_)
  refine lv_istore_n (lv' := [(3, .int r9), (2, .int r3), (0, .ref (G.1 0)), (1, .int x1)]) hx hb dX7_executes_17 rfl hl (by decide) rfl (fun ls hl => ?_)
  refine lv_aload_n hx hb dX7_executes_18 rfl (lv_at hl 2 rfl) ?_
  refine lv_aload_n hx hb dX7_executes_19 rfl (lv_at hl 2 rfl) ?_
  refine lv_aload_n hx hb dX7_executes_20 rfl (lv_at hl 2 rfl) ?_
  refine lv_iload_n hx hb dX7_executes_21 rfl (lv_at hl 3 rfl) ?_
  obtain ⟨r12, e10, hm⟩ := sBi_some hm
  refine g_callVI (n := 1) (As := [.int x1]) (rest := [.ref (G.1 0), .ref (G.1 0)]) sameM X Z (cX7_argument_c l e10) oX7 rfl (gooV mB844 mB845 mB846 mB614 mB839) rfl (by decide +kernel) rfl ⟨Nat.le_of_ble_eq_true rfl, Nat.le_of_ble_eq_true rfl⟩ ⟨Nat.le_of_ble_eq_true rfl, Nat.le_of_ble_eq_true rfl⟩ hl.1 rfl (Nat.le_of_ble_eq_true rfl) dX7_executes_22 (fun w11 H locs Z => ?_)
  obtain ⟨r15, e13, hm⟩ := sBi_some hm
  refine g_callVI (n := 1) (As := [.int r12]) (rest := [.ref (G.1 0)]) sameM X Z (cX7_argument_c l e13) oX7 rfl (gooV mB844 mB845 mB846 mB614 mB839) rfl (by decide +kernel) rfl ⟨Nat.le_of_ble_eq_true rfl, Nat.le_of_ble_eq_true rfl⟩ ⟨Nat.le_of_ble_eq_true rfl, Nat.le_of_ble_eq_true rfl⟩ hl.1 rfl (Nat.le_of_ble_eq_true rfl) dX7_executes_25 (fun w14 H locs Z => ?_)
  obtain ⟨r18, e16, hm⟩ := sBi_some hm
  refine g_callVI (n := 1) (As := [.int r15]) (rest := []) sameM X Z (cX7_numberAt_c l e16) oX7 rfl (gooV mB841 mB842 mB843 mB614 mB838) rfl (by decide +kernel) rfl ⟨Nat.le_of_ble_eq_true rfl, Nat.le_of_ble_eq_true rfl⟩ ⟨Nat.le_of_ble_eq_true rfl, Nat.le_of_ble_eq_true rfl⟩ hl.1 rfl (Nat.le_of_ble_eq_true rfl) dX7_executes_28 (fun w17 H locs Z => ?_)
  refine lv_istore (lv' := [(4, .int r18), (3, .int r9), (2, .int r3), (0, .ref (G.1 0)), (1, .int x1)]) hx hb dX7_executes_31 hl (by decide) rfl (fun ls hl => ?_)
  refine lv_iconst (v := 0) hx hb dX7_executes_33 (by decide) ?_
  refine lv_istore (lv' := [(5, .int 0), (4, .int r18), (3, .int r9), (2, .int r3), (0, .ref (G.1 0)), (1, .int x1)]) hx hb dX7_executes_34 hl (by decide) rfl (fun ls hl => ?_)
  refine lv_iconst (v := 0) hx hb dX7_executes_36 (by decide) ?_
  refine lv_istore (lv' := [(6, .int 0), (5, .int 0), (4, .int r18), (3, .int r9), (2, .int r3), (0, .ref (G.1 0)), (1, .int x1)]) hx hb dX7_executes_37 hl (by decide) rfl (fun ls hl => ?_)
  refine lv_aload_n hx hb dX7_executes_39 rfl (lv_at hl 5 rfl) ?_
  refine lv_iload_n hx hb dX7_executes_40 rfl (lv_at hl 6 rfl) ?_
  obtain ⟨r21, e19, hm⟩ := sBi_some hm
  refine g_callVI (n := 1) (As := [.int x1]) (rest := []) sameM X Z (cX7_sign_c l e19) oX7 rfl (gooV mB807 mB808 mB809 mB614 mB805) rfl (by decide +kernel) rfl ⟨Nat.le_of_ble_eq_true rfl, Nat.le_of_ble_eq_true rfl⟩ ⟨Nat.le_of_ble_eq_true rfl, Nat.le_of_ble_eq_true rfl⟩ hl.1 rfl (Nat.le_of_ble_eq_true rfl) dX7_executes_41 (fun w20 H locs Z => ?_)
  by_cases c22 : r21 = 98
  · replace hm := (if_pos c22).symm.trans hm
    refine lv_lookup (tgt := 96) hx hb dX7_executes_44 (by decide) (by rw [c22]; try rfl) (by decide) ?_
    refine lv_aload_n hx hb dX7_executes_96 rfl (lv_at hl 5 rfl) ?_
    refine lv_iload_n hx hb dX7_executes_97 rfl (lv_at hl 4 rfl) ?_
    obtain ⟨r25, e23, hm⟩ := sBi_some hm
    refine g_callVI (n := 1) (As := [.int r3]) (rest := []) sameM X Z (cX7_whyNotBegin_c l e23) oX7 rfl (gooV mB742 mB743 mB744 mB614 mB704) rfl (by decide +kernel) rfl ⟨Nat.le_of_ble_eq_true rfl, Nat.le_of_ble_eq_true rfl⟩ ⟨Nat.le_of_ble_eq_true rfl, Nat.le_of_ble_eq_true rfl⟩ hl.1 rfl (Nat.le_of_ble_eq_true rfl) dX7_executes_98 (fun w24 H locs Z => ?_)
    refine lv_istore (lv' := [(6, .int r25), (5, .int 0), (4, .int r18), (3, .int r9), (2, .int r3), (0, .ref (G.1 0)), (1, .int x1)]) hx hb dX7_executes_101 hl (by decide) rfl (fun ls hl => ?_)
    refine lv_iload hx hb dX7_executes_103 (lv_at hl 0 rfl) ?_
    refine lv_if_ne (tgt := 116) hx hb dX7_executes_105 (by decide) (fun c26 => ?_) (fun c26 => ?_)
    · replace hm := (if_neg c26).symm.trans hm
      refine lv_iconst (v := 0) hx hb dX7_executes_116 (by decide) ?_
      refine lv_istore (lv' := [(5, .int 0), (6, .int r25), (4, .int r18), (3, .int r9), (2, .int r3), (0, .ref (G.1 0)), (1, .int x1)]) hx hb dX7_executes_117 hl (by decide) rfl (fun ls hl => ?_)
      refine lv_goto (tgt := 273) hx hb dX7_executes_119 (by decide) ?_
      refine lv_iload hx hb dX7_executes_273 (lv_at hl 1 rfl) ?_
      refine lv_if_ne (tgt := 282) hx hb dX7_executes_275 (by decide) (fun c27 => ?_) (fun c27 => ?_)
      · replace hm := (if_neg c27).symm.trans hm
        refine lv_iconst (v := 0) hx hb dX7_executes_282 (by decide) ?_
        obtain rfl := Option.some.inj hm
        exact kI _ _ _ _ dX7_executes_283 Z nb0
      · replace hm := (if_pos c27).symm.trans hm
        refine lv_iconst (v := 1) hx hb dX7_executes_278 (by decide) ?_
        refine lv_goto (tgt := 283) hx hb dX7_executes_279 (by decide) ?_
        obtain rfl := Option.some.inj hm
        exact kI _ _ _ _ dX7_executes_283 Z nb1
    · replace hm := (if_pos c26).symm.trans hm
      refine lv_aload_n hx hb dX7_executes_108 rfl (lv_at hl 5 rfl) ?_
      refine lv_iload_n hx hb dX7_executes_109 rfl (lv_at hl 4 rfl) ?_
      obtain ⟨r30, g31, e28, hm⟩ := sBi2_some hm
      refine g_callVI (n := 1) (As := [.int r3]) (rest := []) sameM X Z (cX7_begins_c l e28) oX7 rfl (gooV mB751 mB752 mB753 mB614 mB721) rfl (by decide +kernel) rfl ⟨Nat.le_of_ble_eq_true rfl, Nat.le_of_ble_eq_true rfl⟩ ⟨Nat.le_of_ble_eq_true rfl, Nat.le_of_ble_eq_true rfl⟩ hl.1 rfl (Nat.le_of_ble_eq_true rfl) dX7_executes_110 (fun w29 H locs Z => ?_)
      refine lv_goto (tgt := 117) hx hb dX7_executes_113 (by decide) ?_
      refine lv_istore (lv' := [(5, .int r30), (6, .int r25), (4, .int r18), (3, .int r9), (2, .int r3), (0, .ref (G.1 0)), (1, .int x1)]) hx hb dX7_executes_117 hl (by decide) rfl (fun ls hl => ?_)
      refine lv_goto (tgt := 273) hx hb dX7_executes_119 (by decide) ?_
      refine lv_iload hx hb dX7_executes_273 (lv_at hl 1 rfl) ?_
      refine lv_if_ne (tgt := 282) hx hb dX7_executes_275 (by decide) (fun c32 => ?_) (fun c32 => ?_)
      · replace hm := (if_neg c32).symm.trans hm
        refine lv_iconst (v := 0) hx hb dX7_executes_282 (by decide) ?_
        obtain rfl := Option.some.inj hm
        exact kI _ _ _ _ dX7_executes_283 Z nb0
      · replace hm := (if_pos c32).symm.trans hm
        refine lv_iconst (v := 1) hx hb dX7_executes_278 (by decide) ?_
        refine lv_goto (tgt := 283) hx hb dX7_executes_279 (by decide) ?_
        obtain rfl := Option.some.inj hm
        exact kI _ _ _ _ dX7_executes_283 Z nb1
  replace hm := (if_neg c22).symm.trans hm
  by_cases c33 : r21 = 114
  · replace hm := (if_pos c33).symm.trans hm
    refine lv_lookup (tgt := 122) hx hb dX7_executes_44 (by decide) (by rw [c33]; try rfl) (by decide) ?_
    refine lv_aload_n hx hb dX7_executes_122 rfl (lv_at hl 5 rfl) ?_
    refine lv_iload_n hx hb dX7_executes_123 rfl (lv_at hl 4 rfl) ?_
    refine lv_iload_n hx hb dX7_executes_124 rfl (lv_at hl 3 rfl) ?_
    obtain ⟨r36, e34, hm⟩ := sBi_some hm
    refine g_callVI (n := 2) (As := [.int r3, .int r9]) (rest := []) sameM X Z (cX7_whyNotRead_c l e34) oX7 rfl (gooV mB755 mB756 mB757 mB614 mB711) rfl (by decide +kernel) rfl ⟨Nat.le_of_ble_eq_true rfl, Nat.le_of_ble_eq_true rfl⟩ ⟨Nat.le_of_ble_eq_true rfl, Nat.le_of_ble_eq_true rfl⟩ hl.1 rfl (Nat.le_of_ble_eq_true rfl) dX7_executes_125 (fun w35 H locs Z => ?_)
    refine lv_istore (lv' := [(6, .int r36), (5, .int 0), (4, .int r18), (3, .int r9), (2, .int r3), (0, .ref (G.1 0)), (1, .int x1)]) hx hb dX7_executes_128 hl (by decide) rfl (fun ls hl => ?_)
    refine lv_iload hx hb dX7_executes_130 (lv_at hl 0 rfl) ?_
    refine lv_if_ne (tgt := 144) hx hb dX7_executes_132 (by decide) (fun c37 => ?_) (fun c37 => ?_)
    · replace hm := (if_neg c37).symm.trans hm
      refine lv_iconst (v := 0) hx hb dX7_executes_144 (by decide) ?_
      refine lv_istore (lv' := [(5, .int 0), (6, .int r36), (4, .int r18), (3, .int r9), (2, .int r3), (0, .ref (G.1 0)), (1, .int x1)]) hx hb dX7_executes_145 hl (by decide) rfl (fun ls hl => ?_)
      refine lv_goto (tgt := 273) hx hb dX7_executes_147 (by decide) ?_
      refine lv_iload hx hb dX7_executes_273 (lv_at hl 1 rfl) ?_
      refine lv_if_ne (tgt := 282) hx hb dX7_executes_275 (by decide) (fun c38 => ?_) (fun c38 => ?_)
      · replace hm := (if_neg c38).symm.trans hm
        refine lv_iconst (v := 0) hx hb dX7_executes_282 (by decide) ?_
        obtain rfl := Option.some.inj hm
        exact kI _ _ _ _ dX7_executes_283 Z nb0
      · replace hm := (if_pos c38).symm.trans hm
        refine lv_iconst (v := 1) hx hb dX7_executes_278 (by decide) ?_
        refine lv_goto (tgt := 283) hx hb dX7_executes_279 (by decide) ?_
        obtain rfl := Option.some.inj hm
        exact kI _ _ _ _ dX7_executes_283 Z nb1
    · replace hm := (if_pos c37).symm.trans hm
      refine lv_aload_n hx hb dX7_executes_135 rfl (lv_at hl 5 rfl) ?_
      refine lv_iload_n hx hb dX7_executes_136 rfl (lv_at hl 4 rfl) ?_
      refine lv_iload_n hx hb dX7_executes_137 rfl (lv_at hl 3 rfl) ?_
      obtain ⟨r41, g42, e39, hm⟩ := sBi2_some hm
      refine g_callVI (n := 2) (As := [.int r3, .int r9]) (rest := []) sameM X Z (cX7_reads_c l e39) oX7 rfl (gooV mB758 mB759 mB760 mB614 mB728) rfl (by decide +kernel) rfl ⟨Nat.le_of_ble_eq_true rfl, Nat.le_of_ble_eq_true rfl⟩ ⟨Nat.le_of_ble_eq_true rfl, Nat.le_of_ble_eq_true rfl⟩ hl.1 rfl (Nat.le_of_ble_eq_true rfl) dX7_executes_138 (fun w40 H locs Z => ?_)
      refine lv_goto (tgt := 145) hx hb dX7_executes_141 (by decide) ?_
      refine lv_istore (lv' := [(5, .int r41), (6, .int r36), (4, .int r18), (3, .int r9), (2, .int r3), (0, .ref (G.1 0)), (1, .int x1)]) hx hb dX7_executes_145 hl (by decide) rfl (fun ls hl => ?_)
      refine lv_goto (tgt := 273) hx hb dX7_executes_147 (by decide) ?_
      refine lv_iload hx hb dX7_executes_273 (lv_at hl 1 rfl) ?_
      refine lv_if_ne (tgt := 282) hx hb dX7_executes_275 (by decide) (fun c43 => ?_) (fun c43 => ?_)
      · replace hm := (if_neg c43).symm.trans hm
        refine lv_iconst (v := 0) hx hb dX7_executes_282 (by decide) ?_
        obtain rfl := Option.some.inj hm
        exact kI _ _ _ _ dX7_executes_283 Z nb0
      · replace hm := (if_pos c43).symm.trans hm
        refine lv_iconst (v := 1) hx hb dX7_executes_278 (by decide) ?_
        refine lv_goto (tgt := 283) hx hb dX7_executes_279 (by decide) ?_
        obtain rfl := Option.some.inj hm
        exact kI _ _ _ _ dX7_executes_283 Z nb1
  replace hm := (if_neg c33).symm.trans hm
  by_cases c44 : r21 = 115
  · replace hm := (if_pos c44).symm.trans hm
    refine lv_lookup (tgt := 208) hx hb dX7_executes_44 (by decide) (by rw [c44]; try rfl) (by decide) ?_
    refine lv_aload_n hx hb dX7_executes_208 rfl (lv_at hl 5 rfl) ?_
    refine lv_iload_n hx hb dX7_executes_209 rfl (lv_at hl 4 rfl) ?_
    refine lv_iload_n hx hb dX7_executes_210 rfl (lv_at hl 3 rfl) ?_
    obtain ⟨r47, e45, hm⟩ := sBi_some hm
    refine g_callVI (n := 2) (As := [.int r3, .int r9]) (rest := []) sameM X Z (cX7_whyNotSynchronize_c l e45) oX7 rfl (gooV mB784 mB785 mB786 mB614 mB720) rfl (by decide +kernel) rfl ⟨Nat.le_of_ble_eq_true rfl, Nat.le_of_ble_eq_true rfl⟩ ⟨Nat.le_of_ble_eq_true rfl, Nat.le_of_ble_eq_true rfl⟩ hl.1 rfl (Nat.le_of_ble_eq_true rfl) dX7_executes_211 (fun w46 H locs Z => ?_)
    refine lv_istore (lv' := [(6, .int r47), (5, .int 0), (4, .int r18), (3, .int r9), (2, .int r3), (0, .ref (G.1 0)), (1, .int x1)]) hx hb dX7_executes_214 hl (by decide) rfl (fun ls hl => ?_)
    refine lv_iload hx hb dX7_executes_216 (lv_at hl 0 rfl) ?_
    refine lv_if_ne (tgt := 230) hx hb dX7_executes_218 (by decide) (fun c48 => ?_) (fun c48 => ?_)
    · replace hm := (if_neg c48).symm.trans hm
      refine lv_iconst (v := 0) hx hb dX7_executes_230 (by decide) ?_
      refine lv_istore (lv' := [(5, .int 0), (6, .int r47), (4, .int r18), (3, .int r9), (2, .int r3), (0, .ref (G.1 0)), (1, .int x1)]) hx hb dX7_executes_231 hl (by decide) rfl (fun ls hl => ?_)
      refine lv_goto (tgt := 273) hx hb dX7_executes_233 (by decide) ?_
      refine lv_iload hx hb dX7_executes_273 (lv_at hl 1 rfl) ?_
      refine lv_if_ne (tgt := 282) hx hb dX7_executes_275 (by decide) (fun c49 => ?_) (fun c49 => ?_)
      · replace hm := (if_neg c49).symm.trans hm
        refine lv_iconst (v := 0) hx hb dX7_executes_282 (by decide) ?_
        obtain rfl := Option.some.inj hm
        exact kI _ _ _ _ dX7_executes_283 Z nb0
      · replace hm := (if_pos c49).symm.trans hm
        refine lv_iconst (v := 1) hx hb dX7_executes_278 (by decide) ?_
        refine lv_goto (tgt := 283) hx hb dX7_executes_279 (by decide) ?_
        obtain rfl := Option.some.inj hm
        exact kI _ _ _ _ dX7_executes_283 Z nb1
    · replace hm := (if_pos c48).symm.trans hm
      refine lv_aload_n hx hb dX7_executes_221 rfl (lv_at hl 5 rfl) ?_
      refine lv_iload_n hx hb dX7_executes_222 rfl (lv_at hl 4 rfl) ?_
      refine lv_iload_n hx hb dX7_executes_223 rfl (lv_at hl 3 rfl) ?_
      obtain ⟨r52, g53, e50, hm⟩ := sBi2_some hm
      refine g_callVI (n := 2) (As := [.int r3, .int r9]) (rest := []) sameM X Z (cX7_synchronizes_c l e50) oX7 rfl (gooV mB787 mB788 mB789 mB614 mB738) rfl (by decide +kernel) rfl ⟨Nat.le_of_ble_eq_true rfl, Nat.le_of_ble_eq_true rfl⟩ ⟨Nat.le_of_ble_eq_true rfl, Nat.le_of_ble_eq_true rfl⟩ hl.1 rfl (Nat.le_of_ble_eq_true rfl) dX7_executes_224 (fun w51 H locs Z => ?_)
      refine lv_goto (tgt := 231) hx hb dX7_executes_227 (by decide) ?_
      refine lv_istore (lv' := [(5, .int r52), (6, .int r47), (4, .int r18), (3, .int r9), (2, .int r3), (0, .ref (G.1 0)), (1, .int x1)]) hx hb dX7_executes_231 hl (by decide) rfl (fun ls hl => ?_)
      refine lv_goto (tgt := 273) hx hb dX7_executes_233 (by decide) ?_
      refine lv_iload hx hb dX7_executes_273 (lv_at hl 1 rfl) ?_
      refine lv_if_ne (tgt := 282) hx hb dX7_executes_275 (by decide) (fun c54 => ?_) (fun c54 => ?_)
      · replace hm := (if_neg c54).symm.trans hm
        refine lv_iconst (v := 0) hx hb dX7_executes_282 (by decide) ?_
        obtain rfl := Option.some.inj hm
        exact kI _ _ _ _ dX7_executes_283 Z nb0
      · replace hm := (if_pos c54).symm.trans hm
        refine lv_iconst (v := 1) hx hb dX7_executes_278 (by decide) ?_
        refine lv_goto (tgt := 283) hx hb dX7_executes_279 (by decide) ?_
        obtain rfl := Option.some.inj hm
        exact kI _ _ _ _ dX7_executes_283 Z nb1
  replace hm := (if_neg c44).symm.trans hm
  by_cases c55 : r21 = 116
  · replace hm := (if_pos c55).symm.trans hm
    refine lv_lookup (tgt := 182) hx hb dX7_executes_44 (by decide) (by rw [c55]; try rfl) (by decide) ?_
    refine lv_aload_n hx hb dX7_executes_182 rfl (lv_at hl 5 rfl) ?_
    refine lv_iload_n hx hb dX7_executes_183 rfl (lv_at hl 4 rfl) ?_
    obtain ⟨r58, e56, hm⟩ := sBi_some hm
    refine g_callVI (n := 1) (As := [.int r3]) (rest := []) sameM X Z (cX7_whyNotAdvance_c l e56) oX7 rfl (gooV mB777 mB778 mB779 mB614 mB718) rfl (by decide +kernel) rfl ⟨Nat.le_of_ble_eq_true rfl, Nat.le_of_ble_eq_true rfl⟩ ⟨Nat.le_of_ble_eq_true rfl, Nat.le_of_ble_eq_true rfl⟩ hl.1 rfl (Nat.le_of_ble_eq_true rfl) dX7_executes_184 (fun w57 H locs Z => ?_)
    refine lv_istore (lv' := [(6, .int r58), (5, .int 0), (4, .int r18), (3, .int r9), (2, .int r3), (0, .ref (G.1 0)), (1, .int x1)]) hx hb dX7_executes_187 hl (by decide) rfl (fun ls hl => ?_)
    refine lv_iload hx hb dX7_executes_189 (lv_at hl 0 rfl) ?_
    refine lv_if_ne (tgt := 202) hx hb dX7_executes_191 (by decide) (fun c59 => ?_) (fun c59 => ?_)
    · replace hm := (if_neg c59).symm.trans hm
      refine lv_iconst (v := 0) hx hb dX7_executes_202 (by decide) ?_
      refine lv_istore (lv' := [(5, .int 0), (6, .int r58), (4, .int r18), (3, .int r9), (2, .int r3), (0, .ref (G.1 0)), (1, .int x1)]) hx hb dX7_executes_203 hl (by decide) rfl (fun ls hl => ?_)
      refine lv_goto (tgt := 273) hx hb dX7_executes_205 (by decide) ?_
      refine lv_iload hx hb dX7_executes_273 (lv_at hl 1 rfl) ?_
      refine lv_if_ne (tgt := 282) hx hb dX7_executes_275 (by decide) (fun c60 => ?_) (fun c60 => ?_)
      · replace hm := (if_neg c60).symm.trans hm
        refine lv_iconst (v := 0) hx hb dX7_executes_282 (by decide) ?_
        obtain rfl := Option.some.inj hm
        exact kI _ _ _ _ dX7_executes_283 Z nb0
      · replace hm := (if_pos c60).symm.trans hm
        refine lv_iconst (v := 1) hx hb dX7_executes_278 (by decide) ?_
        refine lv_goto (tgt := 283) hx hb dX7_executes_279 (by decide) ?_
        obtain rfl := Option.some.inj hm
        exact kI _ _ _ _ dX7_executes_283 Z nb1
    · replace hm := (if_pos c59).symm.trans hm
      refine lv_aload_n hx hb dX7_executes_194 rfl (lv_at hl 5 rfl) ?_
      refine lv_iload_n hx hb dX7_executes_195 rfl (lv_at hl 4 rfl) ?_
      obtain ⟨r63, g64, e61, hm⟩ := sBi2_some hm
      refine g_callVI (n := 1) (As := [.int r3]) (rest := []) sameM X Z (cX7_advances_c l e61) oX7 rfl (gooV mB780 mB781 mB782 mB614 mB737) rfl (by decide +kernel) rfl ⟨Nat.le_of_ble_eq_true rfl, Nat.le_of_ble_eq_true rfl⟩ ⟨Nat.le_of_ble_eq_true rfl, Nat.le_of_ble_eq_true rfl⟩ hl.1 rfl (Nat.le_of_ble_eq_true rfl) dX7_executes_196 (fun w62 H locs Z => ?_)
      refine lv_goto (tgt := 203) hx hb dX7_executes_199 (by decide) ?_
      refine lv_istore (lv' := [(5, .int r63), (6, .int r58), (4, .int r18), (3, .int r9), (2, .int r3), (0, .ref (G.1 0)), (1, .int x1)]) hx hb dX7_executes_203 hl (by decide) rfl (fun ls hl => ?_)
      refine lv_goto (tgt := 273) hx hb dX7_executes_205 (by decide) ?_
      refine lv_iload hx hb dX7_executes_273 (lv_at hl 1 rfl) ?_
      refine lv_if_ne (tgt := 282) hx hb dX7_executes_275 (by decide) (fun c65 => ?_) (fun c65 => ?_)
      · replace hm := (if_neg c65).symm.trans hm
        refine lv_iconst (v := 0) hx hb dX7_executes_282 (by decide) ?_
        obtain rfl := Option.some.inj hm
        exact kI _ _ _ _ dX7_executes_283 Z nb0
      · replace hm := (if_pos c65).symm.trans hm
        refine lv_iconst (v := 1) hx hb dX7_executes_278 (by decide) ?_
        refine lv_goto (tgt := 283) hx hb dX7_executes_279 (by decide) ?_
        obtain rfl := Option.some.inj hm
        exact kI _ _ _ _ dX7_executes_283 Z nb1
  replace hm := (if_neg c55).symm.trans hm
  by_cases c66 : r21 = 119
  · replace hm := (if_pos c66).symm.trans hm
    refine lv_lookup (tgt := 150) hx hb dX7_executes_44 (by decide) (by rw [c66]; try rfl) (by decide) ?_
    refine lv_aload_n hx hb dX7_executes_150 rfl (lv_at hl 5 rfl) ?_
    refine lv_iload_n hx hb dX7_executes_151 rfl (lv_at hl 4 rfl) ?_
    refine lv_iload_n hx hb dX7_executes_152 rfl (lv_at hl 3 rfl) ?_
    refine lv_iload hx hb dX7_executes_153 (lv_at hl 2 rfl) ?_
    obtain ⟨r69, e67, hm⟩ := sBi_some hm
    refine g_callVI (n := 3) (As := [.int r3, .int r9, .int r18]) (rest := []) sameM X Z (cX7_whyNotWrite_c l e67) oX7 rfl (gooV mB762 mB763 mB764 mB614 mB717) rfl (by decide +kernel) rfl ⟨Nat.le_of_ble_eq_true rfl, Nat.le_of_ble_eq_true rfl⟩ ⟨Nat.le_of_ble_eq_true rfl, Nat.le_of_ble_eq_true rfl⟩ hl.1 rfl (Nat.le_of_ble_eq_true rfl) dX7_executes_155 (fun w68 H locs Z => ?_)
    refine lv_istore (lv' := [(6, .int r69), (5, .int 0), (4, .int r18), (3, .int r9), (2, .int r3), (0, .ref (G.1 0)), (1, .int x1)]) hx hb dX7_executes_158 hl (by decide) rfl (fun ls hl => ?_)
    refine lv_iload hx hb dX7_executes_160 (lv_at hl 0 rfl) ?_
    refine lv_if_ne (tgt := 176) hx hb dX7_executes_162 (by decide) (fun c70 => ?_) (fun c70 => ?_)
    · replace hm := (if_neg c70).symm.trans hm
      refine lv_iconst (v := 0) hx hb dX7_executes_176 (by decide) ?_
      refine lv_istore (lv' := [(5, .int 0), (6, .int r69), (4, .int r18), (3, .int r9), (2, .int r3), (0, .ref (G.1 0)), (1, .int x1)]) hx hb dX7_executes_177 hl (by decide) rfl (fun ls hl => ?_)
      refine lv_goto (tgt := 273) hx hb dX7_executes_179 (by decide) ?_
      refine lv_iload hx hb dX7_executes_273 (lv_at hl 1 rfl) ?_
      refine lv_if_ne (tgt := 282) hx hb dX7_executes_275 (by decide) (fun c71 => ?_) (fun c71 => ?_)
      · replace hm := (if_neg c71).symm.trans hm
        refine lv_iconst (v := 0) hx hb dX7_executes_282 (by decide) ?_
        obtain rfl := Option.some.inj hm
        exact kI _ _ _ _ dX7_executes_283 Z nb0
      · replace hm := (if_pos c71).symm.trans hm
        refine lv_iconst (v := 1) hx hb dX7_executes_278 (by decide) ?_
        refine lv_goto (tgt := 283) hx hb dX7_executes_279 (by decide) ?_
        obtain rfl := Option.some.inj hm
        exact kI _ _ _ _ dX7_executes_283 Z nb1
    · replace hm := (if_pos c70).symm.trans hm
      refine lv_aload_n hx hb dX7_executes_165 rfl (lv_at hl 5 rfl) ?_
      refine lv_iload_n hx hb dX7_executes_166 rfl (lv_at hl 4 rfl) ?_
      refine lv_iload_n hx hb dX7_executes_167 rfl (lv_at hl 3 rfl) ?_
      refine lv_iload hx hb dX7_executes_168 (lv_at hl 2 rfl) ?_
      obtain ⟨r74, g75, e72, hm⟩ := sBi2_some hm
      refine g_callVI (n := 3) (As := [.int r3, .int r9, .int r18]) (rest := []) sameM X Z (cX7_writes_c l e72) oX7 rfl (gooV mB765 mB766 mB767 mB614 mB729) rfl (by decide +kernel) rfl ⟨Nat.le_of_ble_eq_true rfl, Nat.le_of_ble_eq_true rfl⟩ ⟨Nat.le_of_ble_eq_true rfl, Nat.le_of_ble_eq_true rfl⟩ hl.1 rfl (Nat.le_of_ble_eq_true rfl) dX7_executes_170 (fun w73 H locs Z => ?_)
      refine lv_goto (tgt := 177) hx hb dX7_executes_173 (by decide) ?_
      refine lv_istore (lv' := [(5, .int r74), (6, .int r69), (4, .int r18), (3, .int r9), (2, .int r3), (0, .ref (G.1 0)), (1, .int x1)]) hx hb dX7_executes_177 hl (by decide) rfl (fun ls hl => ?_)
      refine lv_goto (tgt := 273) hx hb dX7_executes_179 (by decide) ?_
      refine lv_iload hx hb dX7_executes_273 (lv_at hl 1 rfl) ?_
      refine lv_if_ne (tgt := 282) hx hb dX7_executes_275 (by decide) (fun c76 => ?_) (fun c76 => ?_)
      · replace hm := (if_neg c76).symm.trans hm
        refine lv_iconst (v := 0) hx hb dX7_executes_282 (by decide) ?_
        obtain rfl := Option.some.inj hm
        exact kI _ _ _ _ dX7_executes_283 Z nb0
      · replace hm := (if_pos c76).symm.trans hm
        refine lv_iconst (v := 1) hx hb dX7_executes_278 (by decide) ?_
        refine lv_goto (tgt := 283) hx hb dX7_executes_279 (by decide) ?_
        obtain rfl := Option.some.inj hm
        exact kI _ _ _ _ dX7_executes_283 Z nb1
  replace hm := (if_neg c66).symm.trans hm
  refine lv_lookup (off := 192) (tgt := 236) hx hb dX7_executes_44 (by decide) ((lv_osw c22 rfl).trans ((lv_osw c33 rfl).trans ((lv_osw c44 rfl).trans ((lv_osw c55 rfl).trans ((lv_osw c66 rfl).trans rfl))))) (by decide) ?_
  refine lv_aload_n hx hb dX7_executes_236 rfl (lv_at hl 5 rfl) ?_
  refine lv_iload_n hx hb dX7_executes_237 rfl (lv_at hl 4 rfl) ?_
  obtain ⟨r79, e77, hm⟩ := sBi_some hm
  refine g_callVI (n := 1) (As := [.int r3]) (rest := []) sameM X Z (cX7_whyNot_c l e77) oX7 rfl (gooV mB714 mB715 mB716 mB614 mB707) rfl (by decide +kernel) rfl ⟨Nat.le_of_ble_eq_true rfl, Nat.le_of_ble_eq_true rfl⟩ ⟨Nat.le_of_ble_eq_true rfl, Nat.le_of_ble_eq_true rfl⟩ hl.1 rfl (Nat.le_of_ble_eq_true rfl) dX7_executes_238 (fun w78 H locs Z => ?_)
  refine lv_istore (lv' := [(6, .int r79), (5, .int 0), (4, .int r18), (3, .int r9), (2, .int r3), (0, .ref (G.1 0)), (1, .int x1)]) hx hb dX7_executes_241 hl (by decide) rfl (fun ls hl => ?_)
  refine lv_aload_n hx hb dX7_executes_243 rfl (lv_at hl 5 rfl) ?_
  refine lv_iload_n hx hb dX7_executes_244 rfl (lv_at hl 4 rfl) ?_
  refine lv_iload hx hb dX7_executes_245 (lv_at hl 0 rfl) ?_
  refine lv_if_ne (tgt := 254) hx hb dX7_executes_247 (by decide) (fun c80 => ?_) (fun c80 => ?_)
  · replace hm := (if_neg c80).symm.trans hm
    refine lv_iconst (v := 0) hx hb dX7_executes_254 (by decide) ?_
    refine lv_aload_n hx hb dX7_executes_255 rfl (lv_at hl 5 rfl) ?_
    refine lv_iload_n hx hb dX7_executes_256 rfl (lv_at hl 6 rfl) ?_
    obtain ⟨r83, e81, hm⟩ := sBi_some hm
    refine g_callVI (n := 1) (As := [.int x1]) (rest := [.int 0, .int r3, .ref (G.1 0)]) sameM X Z (cX7_sign_c l e81) oX7 rfl (gooV mB807 mB808 mB809 mB614 mB805) rfl (by decide +kernel) rfl ⟨Nat.le_of_ble_eq_true rfl, Nat.le_of_ble_eq_true rfl⟩ ⟨Nat.le_of_ble_eq_true rfl, Nat.le_of_ble_eq_true rfl⟩ hl.1 rfl (Nat.le_of_ble_eq_true rfl) dX7_executes_257 (fun w82 H locs Z => ?_)
    refine lv_bipush (v := 99) hx hb dX7_executes_260 (by decide) ?_
    refine lv_icmp_ne (tgt := 269) hx hb dX7_executes_262 (by decide) (fun c84 => ?_) (fun c84 => ?_)
    · replace hm := (if_neg c84).symm.trans hm
      refine lv_iconst (v := 0) hx hb dX7_executes_269 (by decide) ?_
      obtain ⟨g87, e85, hm⟩ := sBi_some hm
      refine g_callVV (n := 3) (As := [.int r3, .int 0, .int 0]) (rest := []) sameM X Z (cX7_ends_c l e85) oX7 rfl (gooV mB847 mB848 mB849 mB614 mB840) rfl (by decide +kernel) rfl ⟨Nat.le_of_ble_eq_true rfl, Nat.le_of_ble_eq_true rfl⟩ ⟨Nat.le_of_ble_eq_true rfl, Nat.le_of_ble_eq_true rfl⟩ hl.1 rfl (Nat.le_of_ble_eq_true rfl) dX7_executes_270 (fun H locs Z => ?_)
      refine lv_iload hx hb dX7_executes_273 (lv_at hl 0 rfl) ?_
      refine lv_if_ne (tgt := 282) hx hb dX7_executes_275 (by decide) (fun c88 => ?_) (fun c88 => ?_)
      · replace hm := (if_neg c88).symm.trans hm
        refine lv_iconst (v := 0) hx hb dX7_executes_282 (by decide) ?_
        obtain rfl := Option.some.inj hm
        exact kI _ _ _ _ dX7_executes_283 Z nb0
      · replace hm := (if_pos c88).symm.trans hm
        refine lv_iconst (v := 1) hx hb dX7_executes_278 (by decide) ?_
        refine lv_goto (tgt := 283) hx hb dX7_executes_279 (by decide) ?_
        obtain rfl := Option.some.inj hm
        exact kI _ _ _ _ dX7_executes_283 Z nb1
    · replace hm := (if_pos c84).symm.trans hm
      refine lv_iconst (v := 1) hx hb dX7_executes_265 (by decide) ?_
      refine lv_goto (tgt := 270) hx hb dX7_executes_266 (by decide) ?_
      obtain ⟨g91, e89, hm⟩ := sBi_some hm
      refine g_callVV (n := 3) (As := [.int r3, .int 0, .int 1]) (rest := []) sameM X Z (cX7_ends_c l e89) oX7 rfl (gooV mB847 mB848 mB849 mB614 mB840) rfl (by decide +kernel) rfl ⟨Nat.le_of_ble_eq_true rfl, Nat.le_of_ble_eq_true rfl⟩ ⟨Nat.le_of_ble_eq_true rfl, Nat.le_of_ble_eq_true rfl⟩ hl.1 rfl (Nat.le_of_ble_eq_true rfl) dX7_executes_270 (fun H locs Z => ?_)
      refine lv_iload hx hb dX7_executes_273 (lv_at hl 0 rfl) ?_
      refine lv_if_ne (tgt := 282) hx hb dX7_executes_275 (by decide) (fun c92 => ?_) (fun c92 => ?_)
      · replace hm := (if_neg c92).symm.trans hm
        refine lv_iconst (v := 0) hx hb dX7_executes_282 (by decide) ?_
        obtain rfl := Option.some.inj hm
        exact kI _ _ _ _ dX7_executes_283 Z nb0
      · replace hm := (if_pos c92).symm.trans hm
        refine lv_iconst (v := 1) hx hb dX7_executes_278 (by decide) ?_
        refine lv_goto (tgt := 283) hx hb dX7_executes_279 (by decide) ?_
        obtain rfl := Option.some.inj hm
        exact kI _ _ _ _ dX7_executes_283 Z nb1
  · replace hm := (if_pos c80).symm.trans hm
    refine lv_iconst (v := 1) hx hb dX7_executes_250 (by decide) ?_
    refine lv_goto (tgt := 255) hx hb dX7_executes_251 (by decide) ?_
    refine lv_aload_n hx hb dX7_executes_255 rfl (lv_at hl 5 rfl) ?_
    refine lv_iload_n hx hb dX7_executes_256 rfl (lv_at hl 6 rfl) ?_
    obtain ⟨r95, e93, hm⟩ := sBi_some hm
    refine g_callVI (n := 1) (As := [.int x1]) (rest := [.int 1, .int r3, .ref (G.1 0)]) sameM X Z (cX7_sign_c l e93) oX7 rfl (gooV mB807 mB808 mB809 mB614 mB805) rfl (by decide +kernel) rfl ⟨Nat.le_of_ble_eq_true rfl, Nat.le_of_ble_eq_true rfl⟩ ⟨Nat.le_of_ble_eq_true rfl, Nat.le_of_ble_eq_true rfl⟩ hl.1 rfl (Nat.le_of_ble_eq_true rfl) dX7_executes_257 (fun w94 H locs Z => ?_)
    refine lv_bipush (v := 99) hx hb dX7_executes_260 (by decide) ?_
    refine lv_icmp_ne (tgt := 269) hx hb dX7_executes_262 (by decide) (fun c96 => ?_) (fun c96 => ?_)
    · replace hm := (if_neg c96).symm.trans hm
      refine lv_iconst (v := 0) hx hb dX7_executes_269 (by decide) ?_
      obtain ⟨g99, e97, hm⟩ := sBi_some hm
      refine g_callVV (n := 3) (As := [.int r3, .int 1, .int 0]) (rest := []) sameM X Z (cX7_ends_c l e97) oX7 rfl (gooV mB847 mB848 mB849 mB614 mB840) rfl (by decide +kernel) rfl ⟨Nat.le_of_ble_eq_true rfl, Nat.le_of_ble_eq_true rfl⟩ ⟨Nat.le_of_ble_eq_true rfl, Nat.le_of_ble_eq_true rfl⟩ hl.1 rfl (Nat.le_of_ble_eq_true rfl) dX7_executes_270 (fun H locs Z => ?_)
      refine lv_iload hx hb dX7_executes_273 (lv_at hl 0 rfl) ?_
      refine lv_if_ne (tgt := 282) hx hb dX7_executes_275 (by decide) (fun c100 => ?_) (fun c100 => ?_)
      · replace hm := (if_neg c100).symm.trans hm
        refine lv_iconst (v := 0) hx hb dX7_executes_282 (by decide) ?_
        obtain rfl := Option.some.inj hm
        exact kI _ _ _ _ dX7_executes_283 Z nb0
      · replace hm := (if_pos c100).symm.trans hm
        refine lv_iconst (v := 1) hx hb dX7_executes_278 (by decide) ?_
        refine lv_goto (tgt := 283) hx hb dX7_executes_279 (by decide) ?_
        obtain rfl := Option.some.inj hm
        exact kI _ _ _ _ dX7_executes_283 Z nb1
    · replace hm := (if_pos c96).symm.trans hm
      refine lv_iconst (v := 1) hx hb dX7_executes_265 (by decide) ?_
      refine lv_goto (tgt := 270) hx hb dX7_executes_266 (by decide) ?_
      obtain ⟨g103, e101, hm⟩ := sBi_some hm
      refine g_callVV (n := 3) (As := [.int r3, .int 1, .int 1]) (rest := []) sameM X Z (cX7_ends_c l e101) oX7 rfl (gooV mB847 mB848 mB849 mB614 mB840) rfl (by decide +kernel) rfl ⟨Nat.le_of_ble_eq_true rfl, Nat.le_of_ble_eq_true rfl⟩ ⟨Nat.le_of_ble_eq_true rfl, Nat.le_of_ble_eq_true rfl⟩ hl.1 rfl (Nat.le_of_ble_eq_true rfl) dX7_executes_270 (fun H locs Z => ?_)
      refine lv_iload hx hb dX7_executes_273 (lv_at hl 0 rfl) ?_
      refine lv_if_ne (tgt := 282) hx hb dX7_executes_275 (by decide) (fun c104 => ?_) (fun c104 => ?_)
      · replace hm := (if_neg c104).symm.trans hm
        refine lv_iconst (v := 0) hx hb dX7_executes_282 (by decide) ?_
        obtain rfl := Option.some.inj hm
        exact kI _ _ _ _ dX7_executes_283 Z nb0
      · replace hm := (if_pos c104).symm.trans hm
        refine lv_iconst (v := 1) hx hb dX7_executes_278 (by decide) ?_
        refine lv_goto (tgt := 283) hx hb dX7_executes_279 (by decide) ?_
        obtain rfl := Option.some.inj hm
        exact kI _ _ _ _ dX7_executes_283 Z nb1
theorem cX7_executes_c (l : Launch) {G : LY} {g : Mem} {n : Nat} {x1 : Int32} {r : Int32 × Mem} (hm : sX7_executes n g x1 = some r) : cI l yX7_executes wmX7_executes 8 181 .boolean wM G [.ref (G.1 0), .int x1] g r.1 r.2 :=
  mk_cI sameM (by decide +kernel) rfl (Nat.le_of_ble_eq_true rfl) (fun p e s m args below meth c A Q ls X kI hl Z => bX7_executes_0 X kI g x1 _ _ ls Z hl hm)
abbrev wmX7_runText : List Cond := Cond.code yX7_runText cX7_runText 3 (some .int) :: wA0
set_option maxHeartbeats 4000000 in
set_option maxRecDepth 100000 in
theorem bX7_runText_30 (X : gC p s m args meth c cX7_runText 3 wmX7_runText yX7_runText.cls (some .int) G A) {n : Nat} {r : Int32 × Mem} (kI : ∀ (pc : Nat) (ls : Array Slot) (H : Heap) (locs : List Loc), decode cX7_runText pc = .ok (.ireturn, 1) → WS wM G r.2 A s.heap H locs → narrow .int (.int r.1) = .int r.1 → W p l e { frames := 9, cells := 0, slots := 0, locals := 207 } s m args below meth c H locs 0 0 Q (F0 m pc ls [.int r.1])) : ∀ (f : Nat), ∀ (g : Mem) (x1 : Int32) (x2 : Int32) (H : Heap) (locs : List Loc) (ls : Array Slot), WS wM G g A s.heap H locs → lv_has ls 3 [(0, .ref (G.1 0)), (1, .int x1), (2, .int x2)] → sX7_runText_30 n f g x1 x2 = some r → W p l e { frames := 9, cells := 0, slots := 0, locals := 207 } s m args below meth c H locs 0 0 Q (F0 m 30 ls []) := by
  have hx := X.1
  have hb := X.2.1
  intro f
  induction f with
  | zero =>
    intro g x1 x2 H locs ls Z hl hm
    cases hm
  | succ f ih =>
    intro g x1 x2 H locs ls Z hl hm
    unfold sX7_runText_30 at hm
    refine lv_iload_n hx hb dX7_runText_30 rfl (lv_at hl 2 rfl) ?_
    refine lv_aload_n hx hb dX7_runText_31 rfl (lv_at hl 0 rfl) ?_
    refine g_get (j := 6) (v := .int (g 0 6)) X Z oX7 (iB7 _) rfl (by decide) rfl (List.mem_cons_of_mem _ mB803) rfl dX7_runText_32 ?_
    refine lv_icmp_ge (tgt := 60) hx hb dX7_runText_35 (by decide) (fun c1 => ?_) (fun c1 => ?_)
    · replace hm := (if_pos c1).symm.trans hm
      refine lv_iload_n hx hb dX7_runText_60 rfl (lv_at hl 1 rfl) ?_
      obtain rfl := Option.some.inj hm
      exact kI _ _ _ _ dX7_runText_61 Z (vp_nar_int _)
    · replace hm := (if_neg c1).symm.trans hm
      refine lv_aload_n hx hb dX7_runText_38 rfl (lv_at hl 0 rfl) ?_
      refine lv_iload_n hx hb dX7_runText_39 rfl (lv_at hl 2 rfl) ?_
      obtain ⟨r4, g5, e2, hm⟩ := sBi2_some hm
      refine g_callVI (n := 1) (As := [.int x2]) (rest := []) sameM X Z (cX7_executes_c l e2) oX7 rfl (gooV mB851 mB852 mB853 mB614 mB850) rfl (by decide +kernel) rfl ⟨Nat.le_of_ble_eq_true rfl, Nat.le_of_ble_eq_true rfl⟩ ⟨Nat.le_of_ble_eq_true rfl, Nat.le_of_ble_eq_true rfl⟩ hl.1 rfl (Nat.le_of_ble_eq_true rfl) dX7_runText_40 (fun w3 H locs Z => ?_)
      refine lv_if_eq (tgt := 60) hx hb dX7_runText_43 (by decide) (fun c6 => ?_) (fun c6 => ?_)
      · replace hm := (if_pos c6).symm.trans hm
        refine lv_iload_n hx hb dX7_runText_60 rfl (lv_at hl 1 rfl) ?_
        obtain rfl := Option.some.inj hm
        exact kI _ _ _ _ dX7_runText_61 Z (vp_nar_int _)
      · replace hm := (if_neg c6).symm.trans hm
        refine lv_iinc (v := (x1 + (1 : Int32))) (lv' := [(1, .int (x1 + (1 : Int32))), (0, .ref (G.1 0)), (2, .int x2)]) hx hb dX7_runText_46 hl (k := 1) rfl rfl (by decide) rfl (fun ls hl => ?_)
        refine lv_aload_n hx hb dX7_runText_49 rfl (lv_at hl 1 rfl) ?_
        refine lv_iload_n hx hb dX7_runText_50 rfl (lv_at hl 2 rfl) ?_
        obtain ⟨r9, e7, hm⟩ := sBi_some hm
        refine g_callVI (n := 1) (As := [.int x2]) (rest := []) sameM X Z (cX7_commandEnd_c l e7) oX7 rfl (gooV mB830 mB831 mB832 mB614 mB829) rfl (by decide +kernel) rfl ⟨Nat.le_of_ble_eq_true rfl, Nat.le_of_ble_eq_true rfl⟩ ⟨Nat.le_of_ble_eq_true rfl, Nat.le_of_ble_eq_true rfl⟩ hl.1 rfl (Nat.le_of_ble_eq_true rfl) dX7_runText_51 (fun w8 H locs Z => ?_)
        refine lv_iconst (v := 1) hx hb dX7_runText_54 (by decide) ?_
        refine lv_iadd hx hb dX7_runText_55 ?_
        refine lv_istore_n (lv' := [(2, .int (r9 + (1 : Int32))), (1, .int (x1 + (1 : Int32))), (0, .ref (G.1 0))]) hx hb dX7_runText_56 rfl hl (by decide) rfl (fun ls hl => ?_)
        refine lv_goto (tgt := 30) hx hb dX7_runText_57 (by decide) ?_
        exact ih g5 (x1 + (1 : Int32)) (r9 + (1 : Int32)) _ _ _ Z (lv_sub hl [2, 1, 0] rfl) hm
set_option maxHeartbeats 4000000 in
set_option maxRecDepth 100000 in
theorem bX7_runText_0 (X : gC p s m args meth c cX7_runText 3 wmX7_runText yX7_runText.cls (some .int) G A) {n : Nat} {r : Int32 × Mem} (kI : ∀ (pc : Nat) (ls : Array Slot) (H : Heap) (locs : List Loc), decode cX7_runText pc = .ok (.ireturn, 1) → WS wM G r.2 A s.heap H locs → narrow .int (.int r.1) = .int r.1 → W p l e { frames := 9, cells := 0, slots := 0, locals := 207 } s m args below meth c H locs 0 0 Q (F0 m pc ls [.int r.1])) : ∀ (g : Mem) (H : Heap) (locs : List Loc) (ls : Array Slot), WS wM G g A s.heap H locs → lv_has ls 3 [(0, .ref (G.1 0))] → sX7_runText n g = some r → W p l e { frames := 9, cells := 0, slots := 0, locals := 207 } s m args below meth c H locs 0 0 Q (F0 m 0 ls []) := by
  have hx := X.1
  have hb := X.2.1
  intro g H locs ls Z hl hm
  unfold sX7_runText at hm
  refine lv_aload_n hx hb dX7_runText_0 rfl (lv_at hl 0 rfl) ?_
  refine lv_aload_n hx hb dX7_runText_1 rfl (lv_at hl 0 rfl) ?_
  obtain ⟨r3, e1, hm⟩ := sBi_some hm
  refine g_callVI (n := 0) (As := []) (rest := [.ref (G.1 0)]) sameM X Z (cX7_error_c l e1) oX7 rfl (gooV mB834 mB835 mB836 mB614 mB833) rfl (by decide +kernel) rfl ⟨Nat.le_of_ble_eq_true rfl, Nat.le_of_ble_eq_true rfl⟩ ⟨Nat.le_of_ble_eq_true rfl, Nat.le_of_ble_eq_true rfl⟩ hl.1 rfl (Nat.le_of_ble_eq_true rfl) dX7_runText_2 (fun w2 H locs Z => ?_)
  refine lv_iconst (v := (-1)) hx hb dX7_runText_5 (by decide) ?_
  refine lv_icmp_ne (tgt := 13) hx hb dX7_runText_6 (by decide) (fun c4 => ?_) (fun c4 => ?_)
  · replace hm := (if_neg c4).symm.trans hm
    refine lv_iconst (v := 1) hx hb dX7_runText_13 (by decide) ?_
    obtain ⟨r7, g8, e5, hm⟩ := sBi2_some hm
    refine g_callVI (n := 1) (As := [.int 1]) (rest := []) sameM X Z (cX7_throwsAt_c l e5) oX7 rfl (gooV mB745 mB746 mB747 mB614 mB609) rfl (by decide +kernel) rfl ⟨Nat.le_of_ble_eq_true rfl, Nat.le_of_ble_eq_true rfl⟩ ⟨Nat.le_of_ble_eq_true rfl, Nat.le_of_ble_eq_true rfl⟩ hl.1 rfl (Nat.le_of_ble_eq_true rfl) dX7_runText_14 (fun w6 H locs Z => ?_)
    refine lv_if_eq (tgt := 22) hx hb dX7_runText_17 (by decide) (fun c9 => ?_) (fun c9 => ?_)
    · replace hm := (if_pos c9).symm.trans hm
      refine lv_aload_n hx hb dX7_runText_22 rfl (lv_at hl 0 rfl) ?_
      obtain ⟨g12, e10, hm⟩ := sBi_some hm
      refine g_callVV (n := 0) (As := []) (rest := []) sameM X Z (cX7_saves_c l e10) oX7 rfl (gooV mB748 mB749 mB750 mB614 mB618) rfl (by decide +kernel) rfl ⟨Nat.le_of_ble_eq_true rfl, Nat.le_of_ble_eq_true rfl⟩ ⟨Nat.le_of_ble_eq_true rfl, Nat.le_of_ble_eq_true rfl⟩ hl.1 rfl (Nat.le_of_ble_eq_true rfl) dX7_runText_23 (fun H locs Z => ?_)
      refine lv_iconst (v := 0) hx hb dX7_runText_26 (by decide) ?_
      refine lv_istore_n (lv' := [(1, .int 0), (0, .ref (G.1 0))]) hx hb dX7_runText_27 rfl hl (by decide) rfl (fun ls hl => ?_)
      refine lv_iconst (v := 0) hx hb dX7_runText_28 (by decide) ?_
      refine lv_istore_n (lv' := [(2, .int 0), (1, .int 0), (0, .ref (G.1 0))]) hx hb dX7_runText_29 rfl hl (by decide) rfl (fun ls hl => ?_)
      exact bX7_runText_30 X kI n g12 (0 : Int32) (0 : Int32) _ _ _ Z (lv_sub hl [2, 1, 0] rfl) hm
    · replace hm := (if_neg c9).symm.trans hm
      refine lv_iconst (v := 0) hx hb dX7_runText_20 (by decide) ?_
      obtain rfl := Option.some.inj hm
      exact kI _ _ _ _ dX7_runText_21 Z (vp_nar_int _)
  · replace hm := (if_pos c4).symm.trans hm
    refine lv_iconst (v := 0) hx hb dX7_runText_9 (by decide) ?_
    refine lv_goto (tgt := 14) hx hb dX7_runText_10 (by decide) ?_
    obtain ⟨r15, g16, e13, hm⟩ := sBi2_some hm
    refine g_callVI (n := 1) (As := [.int 0]) (rest := []) sameM X Z (cX7_throwsAt_c l e13) oX7 rfl (gooV mB745 mB746 mB747 mB614 mB609) rfl (by decide +kernel) rfl ⟨Nat.le_of_ble_eq_true rfl, Nat.le_of_ble_eq_true rfl⟩ ⟨Nat.le_of_ble_eq_true rfl, Nat.le_of_ble_eq_true rfl⟩ hl.1 rfl (Nat.le_of_ble_eq_true rfl) dX7_runText_14 (fun w14 H locs Z => ?_)
    refine lv_if_eq (tgt := 22) hx hb dX7_runText_17 (by decide) (fun c17 => ?_) (fun c17 => ?_)
    · replace hm := (if_pos c17).symm.trans hm
      refine lv_aload_n hx hb dX7_runText_22 rfl (lv_at hl 0 rfl) ?_
      obtain ⟨g20, e18, hm⟩ := sBi_some hm
      refine g_callVV (n := 0) (As := []) (rest := []) sameM X Z (cX7_saves_c l e18) oX7 rfl (gooV mB748 mB749 mB750 mB614 mB618) rfl (by decide +kernel) rfl ⟨Nat.le_of_ble_eq_true rfl, Nat.le_of_ble_eq_true rfl⟩ ⟨Nat.le_of_ble_eq_true rfl, Nat.le_of_ble_eq_true rfl⟩ hl.1 rfl (Nat.le_of_ble_eq_true rfl) dX7_runText_23 (fun H locs Z => ?_)
      refine lv_iconst (v := 0) hx hb dX7_runText_26 (by decide) ?_
      refine lv_istore_n (lv' := [(1, .int 0), (0, .ref (G.1 0))]) hx hb dX7_runText_27 rfl hl (by decide) rfl (fun ls hl => ?_)
      refine lv_iconst (v := 0) hx hb dX7_runText_28 (by decide) ?_
      refine lv_istore_n (lv' := [(2, .int 0), (1, .int 0), (0, .ref (G.1 0))]) hx hb dX7_runText_29 rfl hl (by decide) rfl (fun ls hl => ?_)
      exact bX7_runText_30 X kI n g20 (0 : Int32) (0 : Int32) _ _ _ Z (lv_sub hl [2, 1, 0] rfl) hm
    · replace hm := (if_neg c17).symm.trans hm
      refine lv_iconst (v := 0) hx hb dX7_runText_20 (by decide) ?_
      obtain rfl := Option.some.inj hm
      exact kI _ _ _ _ dX7_runText_21 Z (vp_nar_int _)
theorem cX7_runText_c (l : Launch) {G : LY} {g : Mem} {n : Nat} {r : Int32 × Mem} (hm : sX7_runText n g = some r) : cI l yX7_runText wmX7_runText 9 207 .int wM G [.ref (G.1 0)] g r.1 r.2 :=
  mk_cI sameM (by decide +kernel) rfl (Nat.le_of_ble_eq_true rfl) (fun p e s m args below meth c A Q ls X kI hl Z => bX7_runText_0 X kI g  _ _ ls Z hl hm)
abbrev wmX7_undo : List Cond := Cond.code yX7_undo cX7_undo 2 (some .int) :: wA0
set_option maxHeartbeats 4000000 in
set_option maxRecDepth 100000 in
theorem bX7_undo_33 (X : gC p s m args meth c cX7_undo 2 wmX7_undo yX7_undo.cls (some .int) G A) {n : Nat} {r : Int32 × Mem} (kI : ∀ (pc : Nat) (ls : Array Slot) (H : Heap) (locs : List Loc), decode cX7_undo pc = .ok (.ireturn, 1) → WS wM G r.2 A s.heap H locs → narrow .int (.int r.1) = .int r.1 → W p l e { frames := 1, cells := 0, slots := 0, locals := 21 } s m args below meth c H locs 0 0 Q (F0 m pc ls [.int r.1])) : ∀ (f : Nat), ∀ (g : Mem) (x1 : Int32) (H : Heap) (locs : List Loc) (ls : Array Slot), WS wM G g A s.heap H locs → lv_has ls 2 [(0, .ref (G.1 0)), (1, .int x1)] → sX7_undo_33 n f g x1 = some r → W p l e { frames := 1, cells := 0, slots := 0, locals := 21 } s m args below meth c H locs 0 0 Q (F0 m 33 ls []) := by
  have hx := X.1
  have hb := X.2.1
  intro f
  induction f with
  | zero =>
    intro g x1 H locs ls Z hl hm
    cases hm
  | succ f ih =>
    intro g x1 H locs ls Z hl hm
    unfold sX7_undo_33 at hm
    refine lv_iload_n hx hb dX7_undo_33 rfl (lv_at hl 1 rfl) ?_
    refine lv_sipush (v := 865) hx hb dX7_undo_34 (by decide) ?_
    refine lv_icmp_ge (tgt := 67) hx hb dX7_undo_37 (by decide) (fun c1 => ?_) (fun c1 => ?_)
    · replace hm := (if_pos c1).symm.trans hm
      refine lv_aload_n hx hb dX7_undo_67 rfl (lv_at hl 0 rfl) ?_
      refine g_get (j := 2) (v := .int (g 0 2)) X Z oX7 (iB7 _) rfl (by decide) rfl (List.mem_cons_of_mem _ mB619) rfl dX7_undo_68 ?_
      obtain rfl := Option.some.inj hm
      exact kI _ _ _ _ dX7_undo_71 Z (vp_nar_int _)
    · replace hm := (if_neg c1).symm.trans hm
      refine lv_aload_n hx hb dX7_undo_40 rfl (lv_at hl 0 rfl) ?_
      refine g_get (j := 0) (v := .ref (G.1 1)) X Z oX7 (iB7 _) rfl (by decide) rfl (List.mem_cons_of_mem _ mB602) rfl dX7_undo_41 ?_
      refine lv_iload_n hx hb dX7_undo_44 rfl (lv_at hl 1 rfl) ?_
      refine lv_aload_n hx hb dX7_undo_45 rfl (lv_at hl 0 rfl) ?_
      refine g_get (j := 1) (v := .ref (G.1 2)) X Z oX7 (iB7 _) rfl (by decide) rfl (List.mem_cons_of_mem _ mB603) rfl dX7_undo_46 ?_
      refine lv_sipush (v := 865) hx hb dX7_undo_49 (by decide) ?_
      refine lv_aload_n hx hb dX7_undo_52 rfl (lv_at hl 0 rfl) ?_
      refine g_get (j := 2) (v := .int (g 0 2)) X Z oX7 (iB7 _) rfl (by decide) rfl (List.mem_cons_of_mem _ mB619) rfl dX7_undo_53 ?_
      refine lv_imul hx hb dX7_undo_56 ?_
      refine lv_iload_n hx hb dX7_undo_57 rfl (lv_at hl 1 rfl) ?_
      refine lv_iadd hx hb dX7_undo_58 ?_
      obtain ⟨b2, hm⟩ := sIdx_some hm
      refine g_iald X Z aM2 b2 dX7_undo_59 ?_
      obtain ⟨b3, hm⟩ := sIdx_some hm
      obtain ⟨g4, eg4, hm⟩ := sLet_some hm
      refine g_iast eg4 X Z aM1 b3 dX7_undo_60 (fun H locs Z => ?_)
      refine lv_iinc (v := (x1 + (1 : Int32))) (lv' := [(1, .int (x1 + (1 : Int32))), (0, .ref (G.1 0))]) hx hb dX7_undo_61 hl (k := 1) rfl rfl (by decide) rfl (fun ls hl => ?_)
      refine lv_goto (tgt := 33) hx hb dX7_undo_64 (by decide) ?_
      exact ih g4 (x1 + (1 : Int32)) _ _ _ Z (lv_sub hl [1, 0] rfl) hm
set_option maxHeartbeats 4000000 in
set_option maxRecDepth 100000 in
theorem bX7_undo_0 (X : gC p s m args meth c cX7_undo 2 wmX7_undo yX7_undo.cls (some .int) G A) {n : Nat} {r : Int32 × Mem} (kI : ∀ (pc : Nat) (ls : Array Slot) (H : Heap) (locs : List Loc), decode cX7_undo pc = .ok (.ireturn, 1) → WS wM G r.2 A s.heap H locs → narrow .int (.int r.1) = .int r.1 → W p l e { frames := 1, cells := 0, slots := 0, locals := 21 } s m args below meth c H locs 0 0 Q (F0 m pc ls [.int r.1])) : ∀ (g : Mem) (H : Heap) (locs : List Loc) (ls : Array Slot), WS wM G g A s.heap H locs → lv_has ls 2 [(0, .ref (G.1 0))] → sX7_undo n g = some r → W p l e { frames := 1, cells := 0, slots := 0, locals := 21 } s m args below meth c H locs 0 0 Q (F0 m 0 ls []) := by
  have hx := X.1
  have hb := X.2.1
  intro g H locs ls Z hl hm
  unfold sX7_undo at hm
  refine lv_aload_n hx hb dX7_undo_0 rfl (lv_at hl 0 rfl) ?_
  refine lv_aload_n hx hb dX7_undo_1 rfl (lv_at hl 0 rfl) ?_
  refine g_get (j := 2) (v := .int (g 0 2)) X Z oX7 (iB7 _) rfl (by decide) rfl (List.mem_cons_of_mem _ mB619) rfl dX7_undo_2 ?_
  refine lv_if_ne (tgt := 12) hx hb dX7_undo_5 (by decide) (fun c1 => ?_) (fun c1 => ?_)
  · replace hm := (if_neg c1).symm.trans hm
    refine lv_iconst (v := 0) hx hb dX7_undo_12 (by decide) ?_
    obtain ⟨r4, g5, e2, hm⟩ := sBi2_some hm
    refine g_callVI (n := 1) (As := [.int 0]) (rest := []) sameM X Z (cX7_throwsAt_c l e2) oX7 rfl (gooV mB745 mB746 mB747 mB614 mB609) rfl (by decide +kernel) rfl ⟨Nat.le_of_ble_eq_true rfl, Nat.le_of_ble_eq_true rfl⟩ ⟨Nat.le_of_ble_eq_true rfl, Nat.le_of_ble_eq_true rfl⟩ hl.1 rfl (Nat.le_of_ble_eq_true rfl) dX7_undo_13 (fun w3 H locs Z => ?_)
    refine lv_if_eq (tgt := 21) hx hb dX7_undo_16 (by decide) (fun c6 => ?_) (fun c6 => ?_)
    · replace hm := (if_pos c6).symm.trans hm
      refine lv_aload_n hx hb dX7_undo_21 rfl (lv_at hl 0 rfl) ?_
      refine lv_dup hx hb dX7_undo_22 rfl ?_
      refine g_get (j := 2) (v := .int (g5 0 2)) X Z oX7 (iB7 _) rfl (by decide) rfl (List.mem_cons_of_mem _ mB619) rfl dX7_undo_23 ?_
      refine lv_iconst (v := 1) hx hb dX7_undo_26 (by decide) ?_
      refine lv_isub hx hb dX7_undo_27 ?_
      obtain ⟨g7, eg7, hm⟩ := sLet_some hm
      refine g_put (j := 2) eg7 X Z oX7 (iB7 _) rfl tyX7_ok nmX7 (by decide) rfl rfl (Nat.le_of_ble_eq_true rfl) (p7_2 G g5 ((g5 0 2) - (1 : Int32))) rfl (List.mem_cons_of_mem _ mB619) dX7_undo_28 (fun H locs Z => ?_)
      refine lv_iconst (v := 0) hx hb dX7_undo_31 (by decide) ?_
      refine lv_istore_n (lv' := [(1, .int 0), (0, .ref (G.1 0))]) hx hb dX7_undo_32 rfl hl (by decide) rfl (fun ls hl => ?_)
      exact bX7_undo_33 X kI n g7 (0 : Int32) _ _ _ Z (lv_sub hl [1, 0] rfl) hm
    · replace hm := (if_neg c6).symm.trans hm
      refine lv_iconst (v := 0) hx hb dX7_undo_19 (by decide) ?_
      obtain rfl := Option.some.inj hm
      exact kI _ _ _ _ dX7_undo_20 Z (vp_nar_int _)
  · replace hm := (if_pos c1).symm.trans hm
    refine lv_iconst (v := 1) hx hb dX7_undo_8 (by decide) ?_
    refine lv_goto (tgt := 13) hx hb dX7_undo_9 (by decide) ?_
    obtain ⟨r10, g11, e8, hm⟩ := sBi2_some hm
    refine g_callVI (n := 1) (As := [.int 1]) (rest := []) sameM X Z (cX7_throwsAt_c l e8) oX7 rfl (gooV mB745 mB746 mB747 mB614 mB609) rfl (by decide +kernel) rfl ⟨Nat.le_of_ble_eq_true rfl, Nat.le_of_ble_eq_true rfl⟩ ⟨Nat.le_of_ble_eq_true rfl, Nat.le_of_ble_eq_true rfl⟩ hl.1 rfl (Nat.le_of_ble_eq_true rfl) dX7_undo_13 (fun w9 H locs Z => ?_)
    refine lv_if_eq (tgt := 21) hx hb dX7_undo_16 (by decide) (fun c12 => ?_) (fun c12 => ?_)
    · replace hm := (if_pos c12).symm.trans hm
      refine lv_aload_n hx hb dX7_undo_21 rfl (lv_at hl 0 rfl) ?_
      refine lv_dup hx hb dX7_undo_22 rfl ?_
      refine g_get (j := 2) (v := .int (g11 0 2)) X Z oX7 (iB7 _) rfl (by decide) rfl (List.mem_cons_of_mem _ mB619) rfl dX7_undo_23 ?_
      refine lv_iconst (v := 1) hx hb dX7_undo_26 (by decide) ?_
      refine lv_isub hx hb dX7_undo_27 ?_
      obtain ⟨g13, eg13, hm⟩ := sLet_some hm
      refine g_put (j := 2) eg13 X Z oX7 (iB7 _) rfl tyX7_ok nmX7 (by decide) rfl rfl (Nat.le_of_ble_eq_true rfl) (p7_2 G g11 ((g11 0 2) - (1 : Int32))) rfl (List.mem_cons_of_mem _ mB619) dX7_undo_28 (fun H locs Z => ?_)
      refine lv_iconst (v := 0) hx hb dX7_undo_31 (by decide) ?_
      refine lv_istore_n (lv' := [(1, .int 0), (0, .ref (G.1 0))]) hx hb dX7_undo_32 rfl hl (by decide) rfl (fun ls hl => ?_)
      exact bX7_undo_33 X kI n g13 (0 : Int32) _ _ _ Z (lv_sub hl [1, 0] rfl) hm
    · replace hm := (if_neg c12).symm.trans hm
      refine lv_iconst (v := 0) hx hb dX7_undo_19 (by decide) ?_
      obtain rfl := Option.some.inj hm
      exact kI _ _ _ _ dX7_undo_20 Z (vp_nar_int _)
theorem cX7_undo_c (l : Launch) {G : LY} {g : Mem} {n : Nat} {r : Int32 × Mem} (hm : sX7_undo n g = some r) : cI l yX7_undo wmX7_undo 1 21 .int wM G [.ref (G.1 0)] g r.1 r.2 :=
  mk_cI sameM (by decide +kernel) rfl (Nat.le_of_ble_eq_true rfl) (fun p e s m args below meth c A Q ls X kI hl Z => bX7_undo_0 X kI g  _ _ ls Z hl hm)
abbrev wmX7_save : List Cond := Cond.code yX7_save cX7_save 3 (some .int) :: wA0
set_option maxHeartbeats 4000000 in
set_option maxRecDepth 100000 in
theorem bX7_save_25 (X : gC p s m args meth c cX7_save 3 wmX7_save yX7_save.cls (some .int) G A) {n : Nat} {r : Int32 × Mem} (kI : ∀ (pc : Nat) (ls : Array Slot) (H : Heap) (locs : List Loc), decode cX7_save pc = .ok (.ireturn, 1) → WS wM G r.2 A s.heap H locs → narrow .int (.int r.1) = .int r.1 → W p l e { frames := 1, cells := 0, slots := 0, locals := 22 } s m args below meth c H locs 0 0 Q (F0 m pc ls [.int r.1])) : ∀ (f : Nat), ∀ (g : Mem) (x1 : Int32) (x2 : Int32) (H : Heap) (locs : List Loc) (ls : Array Slot), WS wM G g A s.heap H locs → lv_has ls 3 [(0, .ref (G.1 0)), (1, .int x1), (2, .int x2)] → sX7_save_25 n f g x1 x2 = some r → W p l e { frames := 1, cells := 0, slots := 0, locals := 22 } s m args below meth c H locs 0 0 Q (F0 m 25 ls []) := by
  have hx := X.1
  have hb := X.2.1
  intro f
  induction f with
  | zero =>
    intro g x1 x2 H locs ls Z hl hm
    cases hm
  | succ f ih =>
    intro g x1 x2 H locs ls Z hl hm
    unfold sX7_save_25 at hm
    refine lv_iload_n hx hb dX7_save_25 rfl (lv_at hl 2 rfl) ?_
    refine lv_sipush (v := 865) hx hb dX7_save_26 (by decide) ?_
    refine lv_icmp_ge (tgt := 56) hx hb dX7_save_29 (by decide) (fun c1 => ?_) (fun c1 => ?_)
    · replace hm := (if_pos c1).symm.trans hm
      refine lv_aload_n hx hb dX7_save_56 rfl (lv_at hl 0 rfl) ?_
      refine g_get (j := 4) (v := .ref (G.1 4)) X Z oX7 (iB7 _) rfl (by decide) rfl (List.mem_cons_of_mem _ mB605) rfl dX7_save_57 ?_
      refine lv_iload_n hx hb dX7_save_60 rfl (lv_at hl 1 rfl) ?_
      refine lv_iconst (v := 1) hx hb dX7_save_61 (by decide) ?_
      obtain ⟨b2, hm⟩ := sIdx_some hm
      obtain ⟨g3, eg3, hm⟩ := sLet_some hm
      refine g_zast eg3 X Z aM4 b2 rfl dX7_save_62 (fun H locs Z => ?_)
      refine lv_aload_n hx hb dX7_save_63 rfl (lv_at hl 0 rfl) ?_
      refine g_get (j := 0) (v := .ref (G.1 1)) X Z oX7 (iB7 _) rfl (by decide) rfl (List.mem_cons_of_mem _ mB602) rfl dX7_save_64 ?_
      refine lv_iconst (v := 0) hx hb dX7_save_67 (by decide) ?_
      obtain ⟨b4, hm⟩ := sIdx_some hm
      refine g_iald X Z aM1 b4 dX7_save_68 ?_
      obtain rfl := Option.some.inj hm
      exact kI _ _ _ _ dX7_save_69 Z (vp_nar_int _)
    · replace hm := (if_neg c1).symm.trans hm
      refine lv_aload_n hx hb dX7_save_32 rfl (lv_at hl 0 rfl) ?_
      refine g_get (j := 3) (v := .ref (G.1 3)) X Z oX7 (iB7 _) rfl (by decide) rfl (List.mem_cons_of_mem _ mB604) rfl dX7_save_33 ?_
      refine lv_sipush (v := 865) hx hb dX7_save_36 (by decide) ?_
      refine lv_iload_n hx hb dX7_save_39 rfl (lv_at hl 1 rfl) ?_
      refine lv_imul hx hb dX7_save_40 ?_
      refine lv_iload_n hx hb dX7_save_41 rfl (lv_at hl 2 rfl) ?_
      refine lv_iadd hx hb dX7_save_42 ?_
      refine lv_aload_n hx hb dX7_save_43 rfl (lv_at hl 0 rfl) ?_
      refine g_get (j := 0) (v := .ref (G.1 1)) X Z oX7 (iB7 _) rfl (by decide) rfl (List.mem_cons_of_mem _ mB602) rfl dX7_save_44 ?_
      refine lv_iload_n hx hb dX7_save_47 rfl (lv_at hl 2 rfl) ?_
      obtain ⟨b5, hm⟩ := sIdx_some hm
      refine g_iald X Z aM1 b5 dX7_save_48 ?_
      obtain ⟨b6, hm⟩ := sIdx_some hm
      obtain ⟨g7, eg7, hm⟩ := sLet_some hm
      refine g_iast eg7 X Z aM3 b6 dX7_save_49 (fun H locs Z => ?_)
      refine lv_iinc (v := (x2 + (1 : Int32))) (lv' := [(2, .int (x2 + (1 : Int32))), (0, .ref (G.1 0)), (1, .int x1)]) hx hb dX7_save_50 hl (k := 2) rfl rfl (by decide) rfl (fun ls hl => ?_)
      refine lv_goto (tgt := 25) hx hb dX7_save_53 (by decide) ?_
      exact ih g7 x1 (x2 + (1 : Int32)) _ _ _ Z (lv_sub hl [1, 2, 0] rfl) hm
set_option maxHeartbeats 4000000 in
set_option maxRecDepth 100000 in
theorem bX7_save_0 (X : gC p s m args meth c cX7_save 3 wmX7_save yX7_save.cls (some .int) G A) {n : Nat} {r : Int32 × Mem} (kI : ∀ (pc : Nat) (ls : Array Slot) (H : Heap) (locs : List Loc), decode cX7_save pc = .ok (.ireturn, 1) → WS wM G r.2 A s.heap H locs → narrow .int (.int r.1) = .int r.1 → W p l e { frames := 1, cells := 0, slots := 0, locals := 22 } s m args below meth c H locs 0 0 Q (F0 m pc ls [.int r.1])) : ∀ (g : Mem) (x1 : Int32) (H : Heap) (locs : List Loc) (ls : Array Slot), WS wM G g A s.heap H locs → lv_has ls 3 [(0, .ref (G.1 0)), (1, .int x1)] → sX7_save n g x1 = some r → W p l e { frames := 1, cells := 0, slots := 0, locals := 22 } s m args below meth c H locs 0 0 Q (F0 m 0 ls []) := by
  have hx := X.1
  have hb := X.2.1
  intro g x1 H locs ls Z hl hm
  unfold sX7_save at hm
  refine lv_aload_n hx hb dX7_save_0 rfl (lv_at hl 0 rfl) ?_
  refine lv_iload_n hx hb dX7_save_1 rfl (lv_at hl 1 rfl) ?_
  refine lv_iconst (v := 0) hx hb dX7_save_2 (by decide) ?_
  refine lv_iconst (v := 1) hx hb dX7_save_3 (by decide) ?_
  obtain ⟨r3, e1, hm⟩ := sBi_some hm
  refine g_callSI (n := 3) (As := [.int x1, .int 0, .int 1]) (rest := [.ref (G.1 0)]) sameM X Z (cX7_in_c l e1) (gooS mB612 mB613 mB614 mB610) rfl (by decide +kernel) rfl ⟨Nat.le_of_ble_eq_true rfl, Nat.le_of_ble_eq_true rfl⟩ ⟨Nat.le_of_ble_eq_true rfl, Nat.le_of_ble_eq_true rfl⟩ hl.1 rfl (Nat.le_of_ble_eq_true rfl) dX7_save_4 (fun w2 H locs Z => ?_)
  refine lv_if_eq (tgt := 14) hx hb dX7_save_7 (by decide) (fun c4 => ?_) (fun c4 => ?_)
  · replace hm := (if_pos c4).symm.trans hm
    refine lv_iconst (v := 1) hx hb dX7_save_14 (by decide) ?_
    obtain ⟨r7, g8, e5, hm⟩ := sBi2_some hm
    refine g_callVI (n := 1) (As := [.int 1]) (rest := []) sameM X Z (cX7_throwsAt_c l e5) oX7 rfl (gooV mB745 mB746 mB747 mB614 mB609) rfl (by decide +kernel) rfl ⟨Nat.le_of_ble_eq_true rfl, Nat.le_of_ble_eq_true rfl⟩ ⟨Nat.le_of_ble_eq_true rfl, Nat.le_of_ble_eq_true rfl⟩ hl.1 rfl (Nat.le_of_ble_eq_true rfl) dX7_save_15 (fun w6 H locs Z => ?_)
    refine lv_if_eq (tgt := 23) hx hb dX7_save_18 (by decide) (fun c9 => ?_) (fun c9 => ?_)
    · replace hm := (if_pos c9).symm.trans hm
      refine lv_iconst (v := 0) hx hb dX7_save_23 (by decide) ?_
      refine lv_istore_n (lv' := [(2, .int 0), (0, .ref (G.1 0)), (1, .int x1)]) hx hb dX7_save_24 rfl hl (by decide) rfl (fun ls hl => ?_)
      exact bX7_save_25 X kI n g8 x1 (0 : Int32) _ _ _ Z (lv_sub hl [1, 2, 0] rfl) hm
    · replace hm := (if_neg c9).symm.trans hm
      refine lv_iconst (v := 0) hx hb dX7_save_21 (by decide) ?_
      obtain rfl := Option.some.inj hm
      exact kI _ _ _ _ dX7_save_22 Z (vp_nar_int _)
  · replace hm := (if_neg c4).symm.trans hm
    refine lv_iconst (v := 0) hx hb dX7_save_10 (by decide) ?_
    refine lv_goto (tgt := 15) hx hb dX7_save_11 (by decide) ?_
    obtain ⟨r12, g13, e10, hm⟩ := sBi2_some hm
    refine g_callVI (n := 1) (As := [.int 0]) (rest := []) sameM X Z (cX7_throwsAt_c l e10) oX7 rfl (gooV mB745 mB746 mB747 mB614 mB609) rfl (by decide +kernel) rfl ⟨Nat.le_of_ble_eq_true rfl, Nat.le_of_ble_eq_true rfl⟩ ⟨Nat.le_of_ble_eq_true rfl, Nat.le_of_ble_eq_true rfl⟩ hl.1 rfl (Nat.le_of_ble_eq_true rfl) dX7_save_15 (fun w11 H locs Z => ?_)
    refine lv_if_eq (tgt := 23) hx hb dX7_save_18 (by decide) (fun c14 => ?_) (fun c14 => ?_)
    · replace hm := (if_pos c14).symm.trans hm
      refine lv_iconst (v := 0) hx hb dX7_save_23 (by decide) ?_
      refine lv_istore_n (lv' := [(2, .int 0), (0, .ref (G.1 0)), (1, .int x1)]) hx hb dX7_save_24 rfl hl (by decide) rfl (fun ls hl => ?_)
      exact bX7_save_25 X kI n g13 x1 (0 : Int32) _ _ _ Z (lv_sub hl [1, 2, 0] rfl) hm
    · replace hm := (if_neg c14).symm.trans hm
      refine lv_iconst (v := 0) hx hb dX7_save_21 (by decide) ?_
      obtain rfl := Option.some.inj hm
      exact kI _ _ _ _ dX7_save_22 Z (vp_nar_int _)
theorem cX7_save_c (l : Launch) {G : LY} {g : Mem} {n : Nat} {x1 : Int32} {r : Int32 × Mem} (hm : sX7_save n g x1 = some r) : cI l yX7_save wmX7_save 1 22 .int wM G [.ref (G.1 0), .int x1] g r.1 r.2 :=
  mk_cI sameM (by decide +kernel) rfl (Nat.le_of_ble_eq_true rfl) (fun p e s m args below meth c A Q ls X kI hl Z => bX7_save_0 X kI g x1 _ _ ls Z hl hm)
abbrev wmX7_restore : List Cond := Cond.code yX7_restore cX7_restore 3 (some .int) :: wA0
set_option maxHeartbeats 4000000 in
set_option maxRecDepth 100000 in
theorem bX7_restore_42 (X : gC p s m args meth c cX7_restore 3 wmX7_restore yX7_restore.cls (some .int) G A) {n : Nat} {r : Int32 × Mem} (kI : ∀ (pc : Nat) (ls : Array Slot) (H : Heap) (locs : List Loc), decode cX7_restore pc = .ok (.ireturn, 1) → WS wM G r.2 A s.heap H locs → narrow .int (.int r.1) = .int r.1 → W p l e { frames := 1, cells := 0, slots := 0, locals := 22 } s m args below meth c H locs 0 0 Q (F0 m pc ls [.int r.1])) : ∀ (f : Nat), ∀ (g : Mem) (x1 : Int32) (x2 : Int32) (H : Heap) (locs : List Loc) (ls : Array Slot), WS wM G g A s.heap H locs → lv_has ls 3 [(0, .ref (G.1 0)), (1, .int x1), (2, .int x2)] → sX7_restore_42 n f g x1 x2 = some r → W p l e { frames := 1, cells := 0, slots := 0, locals := 22 } s m args below meth c H locs 0 0 Q (F0 m 42 ls []) := by
  have hx := X.1
  have hb := X.2.1
  intro f
  induction f with
  | zero =>
    intro g x1 x2 H locs ls Z hl hm
    cases hm
  | succ f ih =>
    intro g x1 x2 H locs ls Z hl hm
    unfold sX7_restore_42 at hm
    refine lv_iload_n hx hb dX7_restore_42 rfl (lv_at hl 2 rfl) ?_
    refine lv_sipush (v := 865) hx hb dX7_restore_43 (by decide) ?_
    refine lv_icmp_ge (tgt := 73) hx hb dX7_restore_46 (by decide) (fun c1 => ?_) (fun c1 => ?_)
    · replace hm := (if_pos c1).symm.trans hm
      refine lv_aload_n hx hb dX7_restore_73 rfl (lv_at hl 0 rfl) ?_
      refine g_get (j := 0) (v := .ref (G.1 1)) X Z oX7 (iB7 _) rfl (by decide) rfl (List.mem_cons_of_mem _ mB602) rfl dX7_restore_74 ?_
      refine lv_iconst (v := 0) hx hb dX7_restore_77 (by decide) ?_
      obtain ⟨b2, hm⟩ := sIdx_some hm
      refine g_iald X Z aM1 b2 dX7_restore_78 ?_
      obtain rfl := Option.some.inj hm
      exact kI _ _ _ _ dX7_restore_79 Z (vp_nar_int _)
    · replace hm := (if_neg c1).symm.trans hm
      refine lv_aload_n hx hb dX7_restore_49 rfl (lv_at hl 0 rfl) ?_
      refine g_get (j := 0) (v := .ref (G.1 1)) X Z oX7 (iB7 _) rfl (by decide) rfl (List.mem_cons_of_mem _ mB602) rfl dX7_restore_50 ?_
      refine lv_iload_n hx hb dX7_restore_53 rfl (lv_at hl 2 rfl) ?_
      refine lv_aload_n hx hb dX7_restore_54 rfl (lv_at hl 0 rfl) ?_
      refine g_get (j := 3) (v := .ref (G.1 3)) X Z oX7 (iB7 _) rfl (by decide) rfl (List.mem_cons_of_mem _ mB604) rfl dX7_restore_55 ?_
      refine lv_sipush (v := 865) hx hb dX7_restore_58 (by decide) ?_
      refine lv_iload_n hx hb dX7_restore_61 rfl (lv_at hl 1 rfl) ?_
      refine lv_imul hx hb dX7_restore_62 ?_
      refine lv_iload_n hx hb dX7_restore_63 rfl (lv_at hl 2 rfl) ?_
      refine lv_iadd hx hb dX7_restore_64 ?_
      obtain ⟨b3, hm⟩ := sIdx_some hm
      refine g_iald X Z aM3 b3 dX7_restore_65 ?_
      obtain ⟨b4, hm⟩ := sIdx_some hm
      obtain ⟨g5, eg5, hm⟩ := sLet_some hm
      refine g_iast eg5 X Z aM1 b4 dX7_restore_66 (fun H locs Z => ?_)
      refine lv_iinc (v := (x2 + (1 : Int32))) (lv' := [(2, .int (x2 + (1 : Int32))), (0, .ref (G.1 0)), (1, .int x1)]) hx hb dX7_restore_67 hl (k := 2) rfl rfl (by decide) rfl (fun ls hl => ?_)
      refine lv_goto (tgt := 42) hx hb dX7_restore_70 (by decide) ?_
      exact ih g5 x1 (x2 + (1 : Int32)) _ _ _ Z (lv_sub hl [1, 2, 0] rfl) hm
set_option maxHeartbeats 4000000 in
set_option maxRecDepth 100000 in
theorem bX7_restore_0 (X : gC p s m args meth c cX7_restore 3 wmX7_restore yX7_restore.cls (some .int) G A) {n : Nat} {r : Int32 × Mem} (kI : ∀ (pc : Nat) (ls : Array Slot) (H : Heap) (locs : List Loc), decode cX7_restore pc = .ok (.ireturn, 1) → WS wM G r.2 A s.heap H locs → narrow .int (.int r.1) = .int r.1 → W p l e { frames := 1, cells := 0, slots := 0, locals := 22 } s m args below meth c H locs 0 0 Q (F0 m pc ls [.int r.1])) : ∀ (g : Mem) (x1 : Int32) (H : Heap) (locs : List Loc) (ls : Array Slot), WS wM G g A s.heap H locs → lv_has ls 3 [(0, .ref (G.1 0)), (1, .int x1)] → sX7_restore n g x1 = some r → W p l e { frames := 1, cells := 0, slots := 0, locals := 22 } s m args below meth c H locs 0 0 Q (F0 m 0 ls []) := by
  have hx := X.1
  have hb := X.2.1
  intro g x1 H locs ls Z hl hm
  unfold sX7_restore at hm
  refine lv_aload_n hx hb dX7_restore_0 rfl (lv_at hl 0 rfl) ?_
  refine lv_iload_n hx hb dX7_restore_1 rfl (lv_at hl 1 rfl) ?_
  refine lv_iconst (v := 0) hx hb dX7_restore_2 (by decide) ?_
  refine lv_iconst (v := 1) hx hb dX7_restore_3 (by decide) ?_
  obtain ⟨r3, e1, hm⟩ := sBi_some hm
  refine g_callSI (n := 3) (As := [.int x1, .int 0, .int 1]) (rest := [.ref (G.1 0)]) sameM X Z (cX7_in_c l e1) (gooS mB612 mB613 mB614 mB610) rfl (by decide +kernel) rfl ⟨Nat.le_of_ble_eq_true rfl, Nat.le_of_ble_eq_true rfl⟩ ⟨Nat.le_of_ble_eq_true rfl, Nat.le_of_ble_eq_true rfl⟩ hl.1 rfl (Nat.le_of_ble_eq_true rfl) dX7_restore_4 (fun w2 H locs Z => ?_)
  refine lv_if_ne (tgt := 14) hx hb dX7_restore_7 (by decide) (fun c4 => ?_) (fun c4 => ?_)
  · replace hm := (if_neg c4).symm.trans hm
    refine lv_aload_n hx hb dX7_restore_14 rfl (lv_at hl 0 rfl) ?_
    refine g_get (j := 4) (v := .ref (G.1 4)) X Z oX7 (iB7 _) rfl (by decide) rfl (List.mem_cons_of_mem _ mB605) rfl dX7_restore_15 ?_
    refine lv_iload_n hx hb dX7_restore_18 rfl (lv_at hl 1 rfl) ?_
    obtain ⟨b5, hm⟩ := sIdx_some hm
    refine g_zald X Z aM4 b5 dX7_restore_19 ?_
    refine lv_if_eq (tgt := 27) hx hb dX7_restore_20 (by decide) (fun c6 => ?_) (fun c6 => ?_)
    · replace hm := (if_pos c6).symm.trans hm
      refine lv_iconst (v := 2) hx hb dX7_restore_27 (by decide) ?_
      obtain ⟨r9, g10, e7, hm⟩ := sBi2_some hm
      refine g_callVI (n := 1) (As := [.int 2]) (rest := []) sameM X Z (cX7_throwsAt_c l e7) oX7 rfl (gooV mB745 mB746 mB747 mB614 mB609) rfl (by decide +kernel) rfl ⟨Nat.le_of_ble_eq_true rfl, Nat.le_of_ble_eq_true rfl⟩ ⟨Nat.le_of_ble_eq_true rfl, Nat.le_of_ble_eq_true rfl⟩ hl.1 rfl (Nat.le_of_ble_eq_true rfl) dX7_restore_28 (fun w8 H locs Z => ?_)
      refine lv_if_eq (tgt := 36) hx hb dX7_restore_31 (by decide) (fun c11 => ?_) (fun c11 => ?_)
      · replace hm := (if_pos c11).symm.trans hm
        refine lv_aload_n hx hb dX7_restore_36 rfl (lv_at hl 0 rfl) ?_
        obtain ⟨g14, e12, hm⟩ := sBi_some hm
        refine g_callVV (n := 0) (As := []) (rest := []) sameM X Z (cX7_saves_c l e12) oX7 rfl (gooV mB748 mB749 mB750 mB614 mB618) rfl (by decide +kernel) rfl ⟨Nat.le_of_ble_eq_true rfl, Nat.le_of_ble_eq_true rfl⟩ ⟨Nat.le_of_ble_eq_true rfl, Nat.le_of_ble_eq_true rfl⟩ hl.1 rfl (Nat.le_of_ble_eq_true rfl) dX7_restore_37 (fun H locs Z => ?_)
        refine lv_iconst (v := 0) hx hb dX7_restore_40 (by decide) ?_
        refine lv_istore_n (lv' := [(2, .int 0), (0, .ref (G.1 0)), (1, .int x1)]) hx hb dX7_restore_41 rfl hl (by decide) rfl (fun ls hl => ?_)
        exact bX7_restore_42 X kI n g14 x1 (0 : Int32) _ _ _ Z (lv_sub hl [1, 2, 0] rfl) hm
      · replace hm := (if_neg c11).symm.trans hm
        refine lv_iconst (v := 0) hx hb dX7_restore_34 (by decide) ?_
        obtain rfl := Option.some.inj hm
        exact kI _ _ _ _ dX7_restore_35 Z (vp_nar_int _)
    · replace hm := (if_neg c6).symm.trans hm
      refine lv_iconst (v := 0) hx hb dX7_restore_23 (by decide) ?_
      refine lv_goto (tgt := 28) hx hb dX7_restore_24 (by decide) ?_
      obtain ⟨r17, g18, e15, hm⟩ := sBi2_some hm
      refine g_callVI (n := 1) (As := [.int 0]) (rest := []) sameM X Z (cX7_throwsAt_c l e15) oX7 rfl (gooV mB745 mB746 mB747 mB614 mB609) rfl (by decide +kernel) rfl ⟨Nat.le_of_ble_eq_true rfl, Nat.le_of_ble_eq_true rfl⟩ ⟨Nat.le_of_ble_eq_true rfl, Nat.le_of_ble_eq_true rfl⟩ hl.1 rfl (Nat.le_of_ble_eq_true rfl) dX7_restore_28 (fun w16 H locs Z => ?_)
      refine lv_if_eq (tgt := 36) hx hb dX7_restore_31 (by decide) (fun c19 => ?_) (fun c19 => ?_)
      · replace hm := (if_pos c19).symm.trans hm
        refine lv_aload_n hx hb dX7_restore_36 rfl (lv_at hl 0 rfl) ?_
        obtain ⟨g22, e20, hm⟩ := sBi_some hm
        refine g_callVV (n := 0) (As := []) (rest := []) sameM X Z (cX7_saves_c l e20) oX7 rfl (gooV mB748 mB749 mB750 mB614 mB618) rfl (by decide +kernel) rfl ⟨Nat.le_of_ble_eq_true rfl, Nat.le_of_ble_eq_true rfl⟩ ⟨Nat.le_of_ble_eq_true rfl, Nat.le_of_ble_eq_true rfl⟩ hl.1 rfl (Nat.le_of_ble_eq_true rfl) dX7_restore_37 (fun H locs Z => ?_)
        refine lv_iconst (v := 0) hx hb dX7_restore_40 (by decide) ?_
        refine lv_istore_n (lv' := [(2, .int 0), (0, .ref (G.1 0)), (1, .int x1)]) hx hb dX7_restore_41 rfl hl (by decide) rfl (fun ls hl => ?_)
        exact bX7_restore_42 X kI n g22 x1 (0 : Int32) _ _ _ Z (lv_sub hl [1, 2, 0] rfl) hm
      · replace hm := (if_neg c19).symm.trans hm
        refine lv_iconst (v := 0) hx hb dX7_restore_34 (by decide) ?_
        obtain rfl := Option.some.inj hm
        exact kI _ _ _ _ dX7_restore_35 Z (vp_nar_int _)
  · replace hm := (if_pos c4).symm.trans hm
    refine lv_iconst (v := 1) hx hb dX7_restore_10 (by decide) ?_
    refine lv_goto (tgt := 28) hx hb dX7_restore_11 (by decide) ?_
    obtain ⟨r25, g26, e23, hm⟩ := sBi2_some hm
    refine g_callVI (n := 1) (As := [.int 1]) (rest := []) sameM X Z (cX7_throwsAt_c l e23) oX7 rfl (gooV mB745 mB746 mB747 mB614 mB609) rfl (by decide +kernel) rfl ⟨Nat.le_of_ble_eq_true rfl, Nat.le_of_ble_eq_true rfl⟩ ⟨Nat.le_of_ble_eq_true rfl, Nat.le_of_ble_eq_true rfl⟩ hl.1 rfl (Nat.le_of_ble_eq_true rfl) dX7_restore_28 (fun w24 H locs Z => ?_)
    refine lv_if_eq (tgt := 36) hx hb dX7_restore_31 (by decide) (fun c27 => ?_) (fun c27 => ?_)
    · replace hm := (if_pos c27).symm.trans hm
      refine lv_aload_n hx hb dX7_restore_36 rfl (lv_at hl 0 rfl) ?_
      obtain ⟨g30, e28, hm⟩ := sBi_some hm
      refine g_callVV (n := 0) (As := []) (rest := []) sameM X Z (cX7_saves_c l e28) oX7 rfl (gooV mB748 mB749 mB750 mB614 mB618) rfl (by decide +kernel) rfl ⟨Nat.le_of_ble_eq_true rfl, Nat.le_of_ble_eq_true rfl⟩ ⟨Nat.le_of_ble_eq_true rfl, Nat.le_of_ble_eq_true rfl⟩ hl.1 rfl (Nat.le_of_ble_eq_true rfl) dX7_restore_37 (fun H locs Z => ?_)
      refine lv_iconst (v := 0) hx hb dX7_restore_40 (by decide) ?_
      refine lv_istore_n (lv' := [(2, .int 0), (0, .ref (G.1 0)), (1, .int x1)]) hx hb dX7_restore_41 rfl hl (by decide) rfl (fun ls hl => ?_)
      exact bX7_restore_42 X kI n g30 x1 (0 : Int32) _ _ _ Z (lv_sub hl [1, 2, 0] rfl) hm
    · replace hm := (if_neg c27).symm.trans hm
      refine lv_iconst (v := 0) hx hb dX7_restore_34 (by decide) ?_
      obtain rfl := Option.some.inj hm
      exact kI _ _ _ _ dX7_restore_35 Z (vp_nar_int _)
theorem cX7_restore_c (l : Launch) {G : LY} {g : Mem} {n : Nat} {x1 : Int32} {r : Int32 × Mem} (hm : sX7_restore n g x1 = some r) : cI l yX7_restore wmX7_restore 1 22 .int wM G [.ref (G.1 0), .int x1] g r.1 r.2 :=
  mk_cI sameM (by decide +kernel) rfl (Nat.le_of_ble_eq_true rfl) (fun p e s m args below meth c A Q ls X kI hl Z => bX7_restore_0 X kI g x1 _ _ ls Z hl hm)
abbrev wmX7_trueTime : List Cond := Cond.code yX7_trueTime cX7_trueTime 1 (some .int) :: wA0
set_option maxHeartbeats 4000000 in
set_option maxRecDepth 100000 in
theorem bX7_trueTime_0 (X : gC p s m args meth c cX7_trueTime 1 wmX7_trueTime yX7_trueTime.cls (some .int) G A) {r : Int32 × Mem} (kI : ∀ (pc : Nat) (ls : Array Slot) (H : Heap) (locs : List Loc), decode cX7_trueTime pc = .ok (.ireturn, 1) → WS wM G r.2 A s.heap H locs → narrow .int (.int r.1) = .int r.1 → W p l e { frames := 0, cells := 0, slots := 0, locals := 0 } s m args below meth c H locs 0 0 Q (F0 m pc ls [.int r.1])) : ∀ (g : Mem) (H : Heap) (locs : List Loc) (ls : Array Slot), WS wM G g A s.heap H locs → lv_has ls 1 [(0, .ref (G.1 0))] → sX7_trueTime g = some r → W p l e { frames := 0, cells := 0, slots := 0, locals := 0 } s m args below meth c H locs 0 0 Q (F0 m 0 ls []) := by
  have hx := X.1
  have hb := X.2.1
  intro g H locs ls Z hl hm
  unfold sX7_trueTime at hm
  refine lv_aload_n hx hb dX7_trueTime_0 rfl (lv_at hl 0 rfl) ?_
  refine lv_iconst (v := 0) hx hb dX7_trueTime_1 (by decide) ?_
  obtain ⟨g1, eg1, hm⟩ := sLet_some hm
  refine g_put (j := 7) eg1 X Z oX7 (iB7 _) rfl tyX7_ok nmX7 (by decide) rfl rfl (Nat.le_of_ble_eq_true rfl) (p7_7 G g (0 : Int32)) rfl (List.mem_cons_of_mem _ mB608) dX7_trueTime_2 (fun H locs Z => ?_)
  refine lv_aload_n hx hb dX7_trueTime_5 rfl (lv_at hl 0 rfl) ?_
  refine g_get (j := 0) (v := .ref (G.1 1)) X Z oX7 (iB7 _) rfl (by decide) rfl (List.mem_cons_of_mem _ mB602) rfl dX7_trueTime_6 ?_
  refine lv_iconst (v := 0) hx hb dX7_trueTime_9 (by decide) ?_
  obtain ⟨b2, hm⟩ := sIdx_some hm
  refine g_iald X Z aM1 b2 dX7_trueTime_10 ?_
  obtain rfl := Option.some.inj hm
  exact kI _ _ _ _ dX7_trueTime_11 Z (vp_nar_int _)
theorem cX7_trueTime_c (l : Launch) {G : LY} {g : Mem} {r : Int32 × Mem} (hm : sX7_trueTime g = some r) : cI l yX7_trueTime wmX7_trueTime 0 0 .int wM G [.ref (G.1 0)] g r.1 r.2 :=
  mk_cI sameM (by decide +kernel) rfl (Nat.le_of_ble_eq_true rfl) (fun p e s m args below meth c A Q ls X kI hl Z => bX7_trueTime_0 X kI g  _ _ ls Z hl hm)
abbrev wmX7_reading : List Cond := Cond.code yX7_reading cX7_reading 2 (some .int) :: wA0
set_option maxHeartbeats 4000000 in
set_option maxRecDepth 100000 in
theorem bX7_reading_0 (X : gC p s m args meth c cX7_reading 2 wmX7_reading yX7_reading.cls (some .int) G A) {r : Int32 × Mem} (kI : ∀ (pc : Nat) (ls : Array Slot) (H : Heap) (locs : List Loc), decode cX7_reading pc = .ok (.ireturn, 1) → WS wM G r.2 A s.heap H locs → narrow .int (.int r.1) = .int r.1 → W p l e { frames := 2, cells := 0, slots := 0, locals := 44 } s m args below meth c H locs 0 0 Q (F0 m pc ls [.int r.1])) : ∀ (g : Mem) (x1 : Int32) (H : Heap) (locs : List Loc) (ls : Array Slot), WS wM G g A s.heap H locs → lv_has ls 2 [(0, .ref (G.1 0)), (1, .int x1)] → sX7_reading g x1 = some r → W p l e { frames := 2, cells := 0, slots := 0, locals := 44 } s m args below meth c H locs 0 0 Q (F0 m 0 ls []) := by
  have hx := X.1
  have hb := X.2.1
  intro g x1 H locs ls Z hl hm
  unfold sX7_reading at hm
  refine lv_aload_n hx hb dX7_reading_0 rfl (lv_at hl 0 rfl) ?_
  refine lv_iload_n hx hb dX7_reading_1 rfl (lv_at hl 1 rfl) ?_
  obtain ⟨r3, e1, hm⟩ := sBi_some hm
  refine g_callSI (n := 1) (As := [.int x1]) (rest := [.ref (G.1 0)]) sameM X Z (cX7_isServer_c l e1) (gooS mB705 mB706 mB614 mB611) rfl (by decide +kernel) rfl ⟨Nat.le_of_ble_eq_true rfl, Nat.le_of_ble_eq_true rfl⟩ ⟨Nat.le_of_ble_eq_true rfl, Nat.le_of_ble_eq_true rfl⟩ hl.1 rfl (Nat.le_of_ble_eq_true rfl) dX7_reading_2 (fun w2 H locs Z => ?_)
  refine lv_if_eq (tgt := 12) hx hb dX7_reading_5 (by decide) (fun c4 => ?_) (fun c4 => ?_)
  · replace hm := (if_pos c4).symm.trans hm
    refine lv_iconst (v := 1) hx hb dX7_reading_12 (by decide) ?_
    obtain ⟨r7, g8, e5, hm⟩ := sBi2_some hm
    refine g_callVI (n := 1) (As := [.int 1]) (rest := []) sameM X Z (cX7_throwsAt_c l e5) oX7 rfl (gooV mB745 mB746 mB747 mB614 mB609) rfl (by decide +kernel) rfl ⟨Nat.le_of_ble_eq_true rfl, Nat.le_of_ble_eq_true rfl⟩ ⟨Nat.le_of_ble_eq_true rfl, Nat.le_of_ble_eq_true rfl⟩ hl.1 rfl (Nat.le_of_ble_eq_true rfl) dX7_reading_13 (fun w6 H locs Z => ?_)
    refine lv_if_eq (tgt := 23) hx hb dX7_reading_16 (by decide) (fun c9 => ?_) (fun c9 => ?_)
    · replace hm := (if_pos c9).symm.trans hm
      refine lv_aload_n hx hb dX7_reading_23 rfl (lv_at hl 0 rfl) ?_
      refine g_get (j := 0) (v := .ref (G.1 1)) X Z oX7 (iB7 _) rfl (by decide) rfl (List.mem_cons_of_mem _ mB602) rfl dX7_reading_24 ?_
      refine lv_iconst (v := 0) hx hb dX7_reading_27 (by decide) ?_
      obtain ⟨b10, hm⟩ := sIdx_some hm
      refine g_iald X Z aM1 b10 dX7_reading_28 ?_
      refine lv_aload_n hx hb dX7_reading_29 rfl (lv_at hl 0 rfl) ?_
      refine lv_iload_n hx hb dX7_reading_30 rfl (lv_at hl 1 rfl) ?_
      refine lv_aload_n hx hb dX7_reading_31 rfl (lv_at hl 0 rfl) ?_
      refine g_get (j := 0) (v := .ref (G.1 1)) X Z oX7 (iB7 _) rfl (by decide) rfl (List.mem_cons_of_mem _ mB602) rfl dX7_reading_32 ?_
      refine lv_iconst (v := 0) hx hb dX7_reading_35 (by decide) ?_
      obtain ⟨b11, hm⟩ := sIdx_some hm
      refine g_iald X Z aM1 b11 dX7_reading_36 ?_
      obtain ⟨r14, e12, hm⟩ := sBi_some hm
      refine g_callVI (n := 2) (As := [.int x1, .int (g8 1 (0 : Int32).toNatClampNeg)]) (rest := [.int (g8 1 (0 : Int32).toNatClampNeg)]) sameM X Z (cX7_offset_c l e12) oX7 rfl (gooV mB631 mB632 mB633 mB614 mB623) rfl (by decide +kernel) rfl ⟨Nat.le_of_ble_eq_true rfl, Nat.le_of_ble_eq_true rfl⟩ ⟨Nat.le_of_ble_eq_true rfl, Nat.le_of_ble_eq_true rfl⟩ hl.1 rfl (Nat.le_of_ble_eq_true rfl) dX7_reading_37 (fun w13 H locs Z => ?_)
      refine lv_iadd hx hb dX7_reading_40 ?_
      obtain rfl := Option.some.inj hm
      exact kI _ _ _ _ dX7_reading_41 Z (vp_nar_int _)
    · replace hm := (if_neg c9).symm.trans hm
      refine lv_iconst (v := 0) hx hb dX7_reading_19 (by decide) ?_
      refine lv_goto (tgt := 41) hx hb dX7_reading_20 (by decide) ?_
      obtain rfl := Option.some.inj hm
      exact kI _ _ _ _ dX7_reading_41 Z (vp_nar_int _)
  · replace hm := (if_neg c4).symm.trans hm
    refine lv_iconst (v := 0) hx hb dX7_reading_8 (by decide) ?_
    refine lv_goto (tgt := 13) hx hb dX7_reading_9 (by decide) ?_
    obtain ⟨r17, g18, e15, hm⟩ := sBi2_some hm
    refine g_callVI (n := 1) (As := [.int 0]) (rest := []) sameM X Z (cX7_throwsAt_c l e15) oX7 rfl (gooV mB745 mB746 mB747 mB614 mB609) rfl (by decide +kernel) rfl ⟨Nat.le_of_ble_eq_true rfl, Nat.le_of_ble_eq_true rfl⟩ ⟨Nat.le_of_ble_eq_true rfl, Nat.le_of_ble_eq_true rfl⟩ hl.1 rfl (Nat.le_of_ble_eq_true rfl) dX7_reading_13 (fun w16 H locs Z => ?_)
    refine lv_if_eq (tgt := 23) hx hb dX7_reading_16 (by decide) (fun c19 => ?_) (fun c19 => ?_)
    · replace hm := (if_pos c19).symm.trans hm
      refine lv_aload_n hx hb dX7_reading_23 rfl (lv_at hl 0 rfl) ?_
      refine g_get (j := 0) (v := .ref (G.1 1)) X Z oX7 (iB7 _) rfl (by decide) rfl (List.mem_cons_of_mem _ mB602) rfl dX7_reading_24 ?_
      refine lv_iconst (v := 0) hx hb dX7_reading_27 (by decide) ?_
      obtain ⟨b20, hm⟩ := sIdx_some hm
      refine g_iald X Z aM1 b20 dX7_reading_28 ?_
      refine lv_aload_n hx hb dX7_reading_29 rfl (lv_at hl 0 rfl) ?_
      refine lv_iload_n hx hb dX7_reading_30 rfl (lv_at hl 1 rfl) ?_
      refine lv_aload_n hx hb dX7_reading_31 rfl (lv_at hl 0 rfl) ?_
      refine g_get (j := 0) (v := .ref (G.1 1)) X Z oX7 (iB7 _) rfl (by decide) rfl (List.mem_cons_of_mem _ mB602) rfl dX7_reading_32 ?_
      refine lv_iconst (v := 0) hx hb dX7_reading_35 (by decide) ?_
      obtain ⟨b21, hm⟩ := sIdx_some hm
      refine g_iald X Z aM1 b21 dX7_reading_36 ?_
      obtain ⟨r24, e22, hm⟩ := sBi_some hm
      refine g_callVI (n := 2) (As := [.int x1, .int (g18 1 (0 : Int32).toNatClampNeg)]) (rest := [.int (g18 1 (0 : Int32).toNatClampNeg)]) sameM X Z (cX7_offset_c l e22) oX7 rfl (gooV mB631 mB632 mB633 mB614 mB623) rfl (by decide +kernel) rfl ⟨Nat.le_of_ble_eq_true rfl, Nat.le_of_ble_eq_true rfl⟩ ⟨Nat.le_of_ble_eq_true rfl, Nat.le_of_ble_eq_true rfl⟩ hl.1 rfl (Nat.le_of_ble_eq_true rfl) dX7_reading_37 (fun w23 H locs Z => ?_)
      refine lv_iadd hx hb dX7_reading_40 ?_
      obtain rfl := Option.some.inj hm
      exact kI _ _ _ _ dX7_reading_41 Z (vp_nar_int _)
    · replace hm := (if_neg c19).symm.trans hm
      refine lv_iconst (v := 0) hx hb dX7_reading_19 (by decide) ?_
      refine lv_goto (tgt := 41) hx hb dX7_reading_20 (by decide) ?_
      obtain rfl := Option.some.inj hm
      exact kI _ _ _ _ dX7_reading_41 Z (vp_nar_int _)
theorem cX7_reading_c (l : Launch) {G : LY} {g : Mem} {x1 : Int32} {r : Int32 × Mem} (hm : sX7_reading g x1 = some r) : cI l yX7_reading wmX7_reading 2 44 .int wM G [.ref (G.1 0), .int x1] g r.1 r.2 :=
  mk_cI sameM (by decide +kernel) rfl (Nat.le_of_ble_eq_true rfl) (fun p e s m args below meth c A Q ls X kI hl Z => bX7_reading_0 X kI g x1 _ _ ls Z hl hm)
abbrev wmX7_earliest : List Cond := Cond.code yX7_earliest cX7_earliest 2 (some .int) :: wA0
set_option maxHeartbeats 4000000 in
set_option maxRecDepth 100000 in
theorem bX7_earliest_0 (X : gC p s m args meth c cX7_earliest 2 wmX7_earliest yX7_earliest.cls (some .int) G A) {r : Int32 × Mem} (kI : ∀ (pc : Nat) (ls : Array Slot) (H : Heap) (locs : List Loc), decode cX7_earliest pc = .ok (.ireturn, 1) → WS wM G r.2 A s.heap H locs → narrow .int (.int r.1) = .int r.1 → W p l e { frames := 3, cells := 0, slots := 0, locals := 66 } s m args below meth c H locs 0 0 Q (F0 m pc ls [.int r.1])) : ∀ (g : Mem) (x1 : Int32) (H : Heap) (locs : List Loc) (ls : Array Slot), WS wM G g A s.heap H locs → lv_has ls 2 [(0, .ref (G.1 0)), (1, .int x1)] → sX7_earliest g x1 = some r → W p l e { frames := 3, cells := 0, slots := 0, locals := 66 } s m args below meth c H locs 0 0 Q (F0 m 0 ls []) := by
  have hx := X.1
  have hb := X.2.1
  intro g x1 H locs ls Z hl hm
  unfold sX7_earliest at hm
  refine lv_aload_n hx hb dX7_earliest_0 rfl (lv_at hl 0 rfl) ?_
  refine lv_iload_n hx hb dX7_earliest_1 rfl (lv_at hl 1 rfl) ?_
  obtain ⟨r3, e1, hm⟩ := sBi_some hm
  refine g_callSI (n := 1) (As := [.int x1]) (rest := [.ref (G.1 0)]) sameM X Z (cX7_isServer_c l e1) (gooS mB705 mB706 mB614 mB611) rfl (by decide +kernel) rfl ⟨Nat.le_of_ble_eq_true rfl, Nat.le_of_ble_eq_true rfl⟩ ⟨Nat.le_of_ble_eq_true rfl, Nat.le_of_ble_eq_true rfl⟩ hl.1 rfl (Nat.le_of_ble_eq_true rfl) dX7_earliest_2 (fun w2 H locs Z => ?_)
  refine lv_if_eq (tgt := 12) hx hb dX7_earliest_5 (by decide) (fun c4 => ?_) (fun c4 => ?_)
  · replace hm := (if_pos c4).symm.trans hm
    refine lv_iconst (v := 1) hx hb dX7_earliest_12 (by decide) ?_
    obtain ⟨r7, g8, e5, hm⟩ := sBi2_some hm
    refine g_callVI (n := 1) (As := [.int 1]) (rest := []) sameM X Z (cX7_throwsAt_c l e5) oX7 rfl (gooV mB745 mB746 mB747 mB614 mB609) rfl (by decide +kernel) rfl ⟨Nat.le_of_ble_eq_true rfl, Nat.le_of_ble_eq_true rfl⟩ ⟨Nat.le_of_ble_eq_true rfl, Nat.le_of_ble_eq_true rfl⟩ hl.1 rfl (Nat.le_of_ble_eq_true rfl) dX7_earliest_13 (fun w6 H locs Z => ?_)
    refine lv_if_eq (tgt := 23) hx hb dX7_earliest_16 (by decide) (fun c9 => ?_) (fun c9 => ?_)
    · replace hm := (if_pos c9).symm.trans hm
      refine lv_aload_n hx hb dX7_earliest_23 rfl (lv_at hl 0 rfl) ?_
      refine lv_iload_n hx hb dX7_earliest_24 rfl (lv_at hl 1 rfl) ?_
      refine lv_aload_n hx hb dX7_earliest_25 rfl (lv_at hl 0 rfl) ?_
      refine g_get (j := 0) (v := .ref (G.1 1)) X Z oX7 (iB7 _) rfl (by decide) rfl (List.mem_cons_of_mem _ mB602) rfl dX7_earliest_26 ?_
      refine lv_iconst (v := 0) hx hb dX7_earliest_29 (by decide) ?_
      obtain ⟨b10, hm⟩ := sIdx_some hm
      refine g_iald X Z aM1 b10 dX7_earliest_30 ?_
      obtain ⟨r13, e11, hm⟩ := sBi_some hm
      refine g_callVI (n := 2) (As := [.int x1, .int (g8 1 (0 : Int32).toNatClampNeg)]) (rest := []) sameM X Z (cX7_earliestAt_c l e11) oX7 rfl (gooV mB638 mB639 mB640 mB614 mB630) rfl (by decide +kernel) rfl ⟨Nat.le_of_ble_eq_true rfl, Nat.le_of_ble_eq_true rfl⟩ ⟨Nat.le_of_ble_eq_true rfl, Nat.le_of_ble_eq_true rfl⟩ hl.1 rfl (Nat.le_of_ble_eq_true rfl) dX7_earliest_31 (fun w12 H locs Z => ?_)
      obtain rfl := Option.some.inj hm
      exact kI _ _ _ _ dX7_earliest_34 Z (vp_nar_int _)
    · replace hm := (if_neg c9).symm.trans hm
      refine lv_iconst (v := 0) hx hb dX7_earliest_19 (by decide) ?_
      refine lv_goto (tgt := 34) hx hb dX7_earliest_20 (by decide) ?_
      obtain rfl := Option.some.inj hm
      exact kI _ _ _ _ dX7_earliest_34 Z (vp_nar_int _)
  · replace hm := (if_neg c4).symm.trans hm
    refine lv_iconst (v := 0) hx hb dX7_earliest_8 (by decide) ?_
    refine lv_goto (tgt := 13) hx hb dX7_earliest_9 (by decide) ?_
    obtain ⟨r16, g17, e14, hm⟩ := sBi2_some hm
    refine g_callVI (n := 1) (As := [.int 0]) (rest := []) sameM X Z (cX7_throwsAt_c l e14) oX7 rfl (gooV mB745 mB746 mB747 mB614 mB609) rfl (by decide +kernel) rfl ⟨Nat.le_of_ble_eq_true rfl, Nat.le_of_ble_eq_true rfl⟩ ⟨Nat.le_of_ble_eq_true rfl, Nat.le_of_ble_eq_true rfl⟩ hl.1 rfl (Nat.le_of_ble_eq_true rfl) dX7_earliest_13 (fun w15 H locs Z => ?_)
    refine lv_if_eq (tgt := 23) hx hb dX7_earliest_16 (by decide) (fun c18 => ?_) (fun c18 => ?_)
    · replace hm := (if_pos c18).symm.trans hm
      refine lv_aload_n hx hb dX7_earliest_23 rfl (lv_at hl 0 rfl) ?_
      refine lv_iload_n hx hb dX7_earliest_24 rfl (lv_at hl 1 rfl) ?_
      refine lv_aload_n hx hb dX7_earliest_25 rfl (lv_at hl 0 rfl) ?_
      refine g_get (j := 0) (v := .ref (G.1 1)) X Z oX7 (iB7 _) rfl (by decide) rfl (List.mem_cons_of_mem _ mB602) rfl dX7_earliest_26 ?_
      refine lv_iconst (v := 0) hx hb dX7_earliest_29 (by decide) ?_
      obtain ⟨b19, hm⟩ := sIdx_some hm
      refine g_iald X Z aM1 b19 dX7_earliest_30 ?_
      obtain ⟨r22, e20, hm⟩ := sBi_some hm
      refine g_callVI (n := 2) (As := [.int x1, .int (g17 1 (0 : Int32).toNatClampNeg)]) (rest := []) sameM X Z (cX7_earliestAt_c l e20) oX7 rfl (gooV mB638 mB639 mB640 mB614 mB630) rfl (by decide +kernel) rfl ⟨Nat.le_of_ble_eq_true rfl, Nat.le_of_ble_eq_true rfl⟩ ⟨Nat.le_of_ble_eq_true rfl, Nat.le_of_ble_eq_true rfl⟩ hl.1 rfl (Nat.le_of_ble_eq_true rfl) dX7_earliest_31 (fun w21 H locs Z => ?_)
      obtain rfl := Option.some.inj hm
      exact kI _ _ _ _ dX7_earliest_34 Z (vp_nar_int _)
    · replace hm := (if_neg c18).symm.trans hm
      refine lv_iconst (v := 0) hx hb dX7_earliest_19 (by decide) ?_
      refine lv_goto (tgt := 34) hx hb dX7_earliest_20 (by decide) ?_
      obtain rfl := Option.some.inj hm
      exact kI _ _ _ _ dX7_earliest_34 Z (vp_nar_int _)
theorem cX7_earliest_c (l : Launch) {G : LY} {g : Mem} {x1 : Int32} {r : Int32 × Mem} (hm : sX7_earliest g x1 = some r) : cI l yX7_earliest wmX7_earliest 3 66 .int wM G [.ref (G.1 0), .int x1] g r.1 r.2 :=
  mk_cI sameM (by decide +kernel) rfl (Nat.le_of_ble_eq_true rfl) (fun p e s m args below meth c A Q ls X kI hl Z => bX7_earliest_0 X kI g x1 _ _ ls Z hl hm)
abbrev wmX7_latest : List Cond := Cond.code yX7_latest cX7_latest 2 (some .int) :: wA0
set_option maxHeartbeats 4000000 in
set_option maxRecDepth 100000 in
theorem bX7_latest_0 (X : gC p s m args meth c cX7_latest 2 wmX7_latest yX7_latest.cls (some .int) G A) {r : Int32 × Mem} (kI : ∀ (pc : Nat) (ls : Array Slot) (H : Heap) (locs : List Loc), decode cX7_latest pc = .ok (.ireturn, 1) → WS wM G r.2 A s.heap H locs → narrow .int (.int r.1) = .int r.1 → W p l e { frames := 3, cells := 0, slots := 0, locals := 66 } s m args below meth c H locs 0 0 Q (F0 m pc ls [.int r.1])) : ∀ (g : Mem) (x1 : Int32) (H : Heap) (locs : List Loc) (ls : Array Slot), WS wM G g A s.heap H locs → lv_has ls 2 [(0, .ref (G.1 0)), (1, .int x1)] → sX7_latest g x1 = some r → W p l e { frames := 3, cells := 0, slots := 0, locals := 66 } s m args below meth c H locs 0 0 Q (F0 m 0 ls []) := by
  have hx := X.1
  have hb := X.2.1
  intro g x1 H locs ls Z hl hm
  unfold sX7_latest at hm
  refine lv_aload_n hx hb dX7_latest_0 rfl (lv_at hl 0 rfl) ?_
  refine lv_iload_n hx hb dX7_latest_1 rfl (lv_at hl 1 rfl) ?_
  obtain ⟨r3, e1, hm⟩ := sBi_some hm
  refine g_callSI (n := 1) (As := [.int x1]) (rest := [.ref (G.1 0)]) sameM X Z (cX7_isServer_c l e1) (gooS mB705 mB706 mB614 mB611) rfl (by decide +kernel) rfl ⟨Nat.le_of_ble_eq_true rfl, Nat.le_of_ble_eq_true rfl⟩ ⟨Nat.le_of_ble_eq_true rfl, Nat.le_of_ble_eq_true rfl⟩ hl.1 rfl (Nat.le_of_ble_eq_true rfl) dX7_latest_2 (fun w2 H locs Z => ?_)
  refine lv_if_eq (tgt := 12) hx hb dX7_latest_5 (by decide) (fun c4 => ?_) (fun c4 => ?_)
  · replace hm := (if_pos c4).symm.trans hm
    refine lv_iconst (v := 1) hx hb dX7_latest_12 (by decide) ?_
    obtain ⟨r7, g8, e5, hm⟩ := sBi2_some hm
    refine g_callVI (n := 1) (As := [.int 1]) (rest := []) sameM X Z (cX7_throwsAt_c l e5) oX7 rfl (gooV mB745 mB746 mB747 mB614 mB609) rfl (by decide +kernel) rfl ⟨Nat.le_of_ble_eq_true rfl, Nat.le_of_ble_eq_true rfl⟩ ⟨Nat.le_of_ble_eq_true rfl, Nat.le_of_ble_eq_true rfl⟩ hl.1 rfl (Nat.le_of_ble_eq_true rfl) dX7_latest_13 (fun w6 H locs Z => ?_)
    refine lv_if_eq (tgt := 23) hx hb dX7_latest_16 (by decide) (fun c9 => ?_) (fun c9 => ?_)
    · replace hm := (if_pos c9).symm.trans hm
      refine lv_aload_n hx hb dX7_latest_23 rfl (lv_at hl 0 rfl) ?_
      refine lv_iload_n hx hb dX7_latest_24 rfl (lv_at hl 1 rfl) ?_
      refine lv_aload_n hx hb dX7_latest_25 rfl (lv_at hl 0 rfl) ?_
      refine g_get (j := 0) (v := .ref (G.1 1)) X Z oX7 (iB7 _) rfl (by decide) rfl (List.mem_cons_of_mem _ mB602) rfl dX7_latest_26 ?_
      refine lv_iconst (v := 0) hx hb dX7_latest_29 (by decide) ?_
      obtain ⟨b10, hm⟩ := sIdx_some hm
      refine g_iald X Z aM1 b10 dX7_latest_30 ?_
      obtain ⟨r13, e11, hm⟩ := sBi_some hm
      refine g_callVI (n := 2) (As := [.int x1, .int (g8 1 (0 : Int32).toNatClampNeg)]) (rest := []) sameM X Z (cX7_latestAt_c l e11) oX7 rfl (gooV mB641 mB642 mB643 mB614 mB637) rfl (by decide +kernel) rfl ⟨Nat.le_of_ble_eq_true rfl, Nat.le_of_ble_eq_true rfl⟩ ⟨Nat.le_of_ble_eq_true rfl, Nat.le_of_ble_eq_true rfl⟩ hl.1 rfl (Nat.le_of_ble_eq_true rfl) dX7_latest_31 (fun w12 H locs Z => ?_)
      obtain rfl := Option.some.inj hm
      exact kI _ _ _ _ dX7_latest_34 Z (vp_nar_int _)
    · replace hm := (if_neg c9).symm.trans hm
      refine lv_iconst (v := 0) hx hb dX7_latest_19 (by decide) ?_
      refine lv_goto (tgt := 34) hx hb dX7_latest_20 (by decide) ?_
      obtain rfl := Option.some.inj hm
      exact kI _ _ _ _ dX7_latest_34 Z (vp_nar_int _)
  · replace hm := (if_neg c4).symm.trans hm
    refine lv_iconst (v := 0) hx hb dX7_latest_8 (by decide) ?_
    refine lv_goto (tgt := 13) hx hb dX7_latest_9 (by decide) ?_
    obtain ⟨r16, g17, e14, hm⟩ := sBi2_some hm
    refine g_callVI (n := 1) (As := [.int 0]) (rest := []) sameM X Z (cX7_throwsAt_c l e14) oX7 rfl (gooV mB745 mB746 mB747 mB614 mB609) rfl (by decide +kernel) rfl ⟨Nat.le_of_ble_eq_true rfl, Nat.le_of_ble_eq_true rfl⟩ ⟨Nat.le_of_ble_eq_true rfl, Nat.le_of_ble_eq_true rfl⟩ hl.1 rfl (Nat.le_of_ble_eq_true rfl) dX7_latest_13 (fun w15 H locs Z => ?_)
    refine lv_if_eq (tgt := 23) hx hb dX7_latest_16 (by decide) (fun c18 => ?_) (fun c18 => ?_)
    · replace hm := (if_pos c18).symm.trans hm
      refine lv_aload_n hx hb dX7_latest_23 rfl (lv_at hl 0 rfl) ?_
      refine lv_iload_n hx hb dX7_latest_24 rfl (lv_at hl 1 rfl) ?_
      refine lv_aload_n hx hb dX7_latest_25 rfl (lv_at hl 0 rfl) ?_
      refine g_get (j := 0) (v := .ref (G.1 1)) X Z oX7 (iB7 _) rfl (by decide) rfl (List.mem_cons_of_mem _ mB602) rfl dX7_latest_26 ?_
      refine lv_iconst (v := 0) hx hb dX7_latest_29 (by decide) ?_
      obtain ⟨b19, hm⟩ := sIdx_some hm
      refine g_iald X Z aM1 b19 dX7_latest_30 ?_
      obtain ⟨r22, e20, hm⟩ := sBi_some hm
      refine g_callVI (n := 2) (As := [.int x1, .int (g17 1 (0 : Int32).toNatClampNeg)]) (rest := []) sameM X Z (cX7_latestAt_c l e20) oX7 rfl (gooV mB641 mB642 mB643 mB614 mB637) rfl (by decide +kernel) rfl ⟨Nat.le_of_ble_eq_true rfl, Nat.le_of_ble_eq_true rfl⟩ ⟨Nat.le_of_ble_eq_true rfl, Nat.le_of_ble_eq_true rfl⟩ hl.1 rfl (Nat.le_of_ble_eq_true rfl) dX7_latest_31 (fun w21 H locs Z => ?_)
      obtain rfl := Option.some.inj hm
      exact kI _ _ _ _ dX7_latest_34 Z (vp_nar_int _)
    · replace hm := (if_neg c18).symm.trans hm
      refine lv_iconst (v := 0) hx hb dX7_latest_19 (by decide) ?_
      refine lv_goto (tgt := 34) hx hb dX7_latest_20 (by decide) ?_
      obtain rfl := Option.some.inj hm
      exact kI _ _ _ _ dX7_latest_34 Z (vp_nar_int _)
theorem cX7_latest_c (l : Launch) {G : LY} {g : Mem} {x1 : Int32} {r : Int32 × Mem} (hm : sX7_latest g x1 = some r) : cI l yX7_latest wmX7_latest 3 66 .int wM G [.ref (G.1 0), .int x1] g r.1 r.2 :=
  mk_cI sameM (by decide +kernel) rfl (Nat.le_of_ble_eq_true rfl) (fun p e s m args below meth c A Q ls X kI hl Z => bX7_latest_0 X kI g x1 _ _ ls Z hl hm)
end GW
