section GW
variable {Qc : Array Value → State → Outcome → State → Prop} {XC : String → State → State → Prop} {p : Program} {l : Launch} {e : Env} {s : State} {m : MethodId} {args : Array Value} {below : List Frame} {meth : Method} {c : Code} {Q : State → Prop} {G : LY} {A : Nat → Prop}
abbrev wmX3_isFull : List Cond := Cond.code yX3_isFull cX3_isFull 1 (some .boolean) :: wA0
set_option maxHeartbeats 4000000 in
set_option maxRecDepth 100000 in
theorem bX3_isFull_0 (X : gC p s m args meth c cX3_isFull 1 wmX3_isFull yX3_isFull.cls (some .boolean) G A) {g : Mem} {r : Int32} (kI : ∀ (pc : Nat) (ls : Array Slot) (H : Heap) (locs : List Loc), decode cX3_isFull pc = .ok (.ireturn, 1) → WS wC G g A s.heap H locs → narrow .boolean (.int r) = .int r → W p l e { frames := 0, cells := 0, slots := 0, locals := 0 } s m args below meth c H locs 0 0 Q (F0 m pc ls [.int r])) : ∀ (H : Heap) (locs : List Loc) (ls : Array Slot), WS wC G g A s.heap H locs → lv_has ls 1 [(0, .ref (G.1 157))] → sX3_isFull g = some r → W p l e { frames := 0, cells := 0, slots := 0, locals := 0 } s m args below meth c H locs 0 0 Q (F0 m 0 ls []) := by
  have hx := X.1
  have hb := X.2.1
  intro H locs ls Z hl hm
  unfold sX3_isFull at hm
  refine lv_aload_n hx hb dX3_isFull_0 rfl (lv_at hl 0 rfl) ?_
  refine g_get (j := 0) (v := .int (g 157 0)) X Z (oX3 k157) (iB3 _) rfl (by decide) rfl (List.mem_cons_of_mem _ mB245) rfl dX3_isFull_1 ?_
  refine lv_bipush (v := 80) hx hb dX3_isFull_4 (by decide) ?_
  refine lv_icmp_lt (tgt := 13) hx hb dX3_isFull_6 (by decide) (fun c1 => ?_) (fun c1 => ?_)
  · replace hm := (if_pos c1).symm.trans hm
    refine lv_iconst (v := 0) hx hb dX3_isFull_13 (by decide) ?_
    obtain rfl := Option.some.inj hm
    exact kI _ _ _ _ dX3_isFull_14 Z nb0
  · replace hm := (if_neg c1).symm.trans hm
    refine lv_iconst (v := 1) hx hb dX3_isFull_9 (by decide) ?_
    refine lv_goto (tgt := 14) hx hb dX3_isFull_10 (by decide) ?_
    obtain rfl := Option.some.inj hm
    exact kI _ _ _ _ dX3_isFull_14 Z nb1
theorem cX3_isFull_c (l : Launch) {G : LY} {g : Mem} {r : Int32} (hm : sX3_isFull g = some r) : cI l yX3_isFull wmX3_isFull 0 0 .boolean wC G [.ref (G.1 157)] g r g :=
  mk_cI sameC (by decide +kernel) rfl (Nat.le_of_ble_eq_true rfl) (fun p e s m args below meth c A Q ls X kI hl Z => bX3_isFull_0 X kI  _ _ ls Z hl hm)
abbrev wmX3_append : List Cond := Cond.code yX3_append cX3_append 2 none :: wA0
set_option maxHeartbeats 4000000 in
set_option maxRecDepth 100000 in
theorem bX3_append_0 (X : gC p s m args meth c cX3_append 2 wmX3_append yX3_append.cls none G A) {r : Mem} (kI : ∀ (pc : Nat) (ls : Array Slot) (H : Heap) (locs : List Loc), decode cX3_append pc = .ok (.return_, 1) → WS wC G r A s.heap H locs → W p l e { frames := 0, cells := 0, slots := 0, locals := 0 } s m args below meth c H locs 0 0 Q (F0 m pc ls [])) : ∀ (g : Mem) (x1 : Int32) (H : Heap) (locs : List Loc) (ls : Array Slot), WS wC G g A s.heap H locs → lv_has ls 2 [(0, .ref (G.1 157)), (1, .int x1)] → sX3_append g x1 = some r → W p l e { frames := 0, cells := 0, slots := 0, locals := 0 } s m args below meth c H locs 0 0 Q (F0 m 0 ls []) := by
  have hx := X.1
  have hb := X.2.1
  intro g x1 H locs ls Z hl hm
  unfold sX3_append at hm
  refine lv_aload_n hx hb dX3_append_0 rfl (lv_at hl 0 rfl) ?_
  refine g_get (j := 4) (v := .ref (G.1 159)) X Z (oX3 k157) (iB3 _) rfl (by decide) rfl (List.mem_cons_of_mem _ mB243) rfl dX3_append_1 ?_
  refine lv_aload_n hx hb dX3_append_4 rfl (lv_at hl 0 rfl) ?_
  refine g_get (j := 0) (v := .int (g 157 0)) X Z (oX3 k157) (iB3 _) rfl (by decide) rfl (List.mem_cons_of_mem _ mB245) rfl dX3_append_5 ?_
  refine lv_iload_n hx hb dX3_append_8 rfl (lv_at hl 1 rfl) ?_
  obtain ⟨b1, hm⟩ := sIdx_some hm
  obtain ⟨g2, eg2, hm⟩ := sLet_some hm
  refine g_cast eg2 X Z (aC k159) b1 dX3_append_9 (fun H locs Z => ?_)
  refine lv_aload_n hx hb dX3_append_10 rfl (lv_at hl 0 rfl) ?_
  refine lv_dup hx hb dX3_append_11 rfl ?_
  refine g_get (j := 0) (v := .int (g2 157 0)) X Z (oX3 k157) (iB3 _) rfl (by decide) rfl (List.mem_cons_of_mem _ mB245) rfl dX3_append_12 ?_
  refine lv_iconst (v := 1) hx hb dX3_append_15 (by decide) ?_
  refine lv_iadd hx hb dX3_append_16 ?_
  obtain ⟨g3, eg3, hm⟩ := sLet_some hm
  refine g_put (j := 0) eg3 X Z (oX3 k157) (iB3 _) rfl tyX3_ok nmX3 (by decide) rfl rfl (Nat.le_of_ble_eq_true rfl) (p3_0 G g2 ((g2 157 0) + (1 : Int32))) rfl (List.mem_cons_of_mem _ mB245) dX3_append_17 (fun H locs Z => ?_)
  obtain rfl := Option.some.inj hm
  exact kI _ _ _ _ dX3_append_20 Z
theorem cX3_append_c (l : Launch) {G : LY} {g : Mem} {x1 : Int32} {r : Mem} (hm : sX3_append g x1 = some r) : cV l yX3_append wmX3_append 0 0 wC G [.ref (G.1 157), .int x1] g r :=
  mk_cV sameC (by decide +kernel) rfl (Nat.le_of_ble_eq_true rfl) (fun p e s m args below meth c A Q ls X kI hl Z => bX3_append_0 X kI g x1 _ _ ls Z hl hm)
abbrev wmX3_rewind : List Cond := Cond.code yX3_rewind cX3_rewind 1 none :: wA0
set_option maxHeartbeats 4000000 in
set_option maxRecDepth 100000 in
theorem bX3_rewind_0 (X : gC p s m args meth c cX3_rewind 1 wmX3_rewind yX3_rewind.cls none G A) {r : Mem} (kI : ∀ (pc : Nat) (ls : Array Slot) (H : Heap) (locs : List Loc), decode cX3_rewind pc = .ok (.return_, 1) → WS wC G r A s.heap H locs → W p l e { frames := 0, cells := 0, slots := 0, locals := 0 } s m args below meth c H locs 0 0 Q (F0 m pc ls [])) : ∀ (g : Mem) (H : Heap) (locs : List Loc) (ls : Array Slot), WS wC G g A s.heap H locs → lv_has ls 1 [(0, .ref (G.1 157))] → sX3_rewind g = some r → W p l e { frames := 0, cells := 0, slots := 0, locals := 0 } s m args below meth c H locs 0 0 Q (F0 m 0 ls []) := by
  have hx := X.1
  have hb := X.2.1
  intro g H locs ls Z hl hm
  unfold sX3_rewind at hm
  refine lv_aload_n hx hb dX3_rewind_0 rfl (lv_at hl 0 rfl) ?_
  refine lv_iconst (v := 0) hx hb dX3_rewind_1 (by decide) ?_
  obtain ⟨g1, eg1, hm⟩ := sLet_some hm
  refine g_put (j := 3) eg1 X Z (oX3 k157) (iB3 _) rfl tyX3_ok nmX3 (by decide) rfl rfl (Nat.le_of_ble_eq_true rfl) (p3_3 G g (0 : Int32)) rfl (List.mem_cons_of_mem _ mB248) dX3_rewind_2 (fun H locs Z => ?_)
  obtain rfl := Option.some.inj hm
  exact kI _ _ _ _ dX3_rewind_5 Z
theorem cX3_rewind_c (l : Launch) {G : LY} {g : Mem} {r : Mem} (hm : sX3_rewind g = some r) : cV l yX3_rewind wmX3_rewind 0 0 wC G [.ref (G.1 157)] g r :=
  mk_cV sameC (by decide +kernel) rfl (Nat.le_of_ble_eq_true rfl) (fun p e s m args below meth c A Q ls X kI hl Z => bX3_rewind_0 X kI g  _ _ ls Z hl hm)
abbrev wmX3_digitHere : List Cond := Cond.code yX3_digitHere cX3_digitHere 1 (some .int) :: wA0
set_option maxHeartbeats 4000000 in
set_option maxRecDepth 100000 in
theorem bX3_digitHere_0 (X : gC p s m args meth c cX3_digitHere 1 wmX3_digitHere yX3_digitHere.cls (some .int) G A) {g : Mem} {r : Int32} (kI : ∀ (pc : Nat) (ls : Array Slot) (H : Heap) (locs : List Loc), decode cX3_digitHere pc = .ok (.ireturn, 1) → WS wC G g A s.heap H locs → narrow .int (.int r) = .int r → W p l e { frames := 0, cells := 0, slots := 0, locals := 0 } s m args below meth c H locs 0 0 Q (F0 m pc ls [.int r])) : ∀ (H : Heap) (locs : List Loc) (ls : Array Slot), WS wC G g A s.heap H locs → lv_has ls 1 [(0, .ref (G.1 157))] → sX3_digitHere g = some r → W p l e { frames := 0, cells := 0, slots := 0, locals := 0 } s m args below meth c H locs 0 0 Q (F0 m 0 ls []) := by
  have hx := X.1
  have hb := X.2.1
  intro H locs ls Z hl hm
  unfold sX3_digitHere at hm
  refine lv_aload_n hx hb dX3_digitHere_0 rfl (lv_at hl 0 rfl) ?_
  refine g_get (j := 3) (v := .int (g 157 3)) X Z (oX3 k157) (iB3 _) rfl (by decide) rfl (List.mem_cons_of_mem _ mB248) rfl dX3_digitHere_1 ?_
  refine lv_aload_n hx hb dX3_digitHere_4 rfl (lv_at hl 0 rfl) ?_
  refine g_get (j := 0) (v := .int (g 157 0)) X Z (oX3 k157) (iB3 _) rfl (by decide) rfl (List.mem_cons_of_mem _ mB245) rfl dX3_digitHere_5 ?_
  refine lv_icmp_ge (tgt := 39) hx hb dX3_digitHere_8 (by decide) (fun c1 => ?_) (fun c1 => ?_)
  · replace hm := (if_pos c1).symm.trans hm
    refine lv_iconst (v := (-1)) hx hb dX3_digitHere_39 (by decide) ?_
    obtain rfl := Option.some.inj hm
    exact kI _ _ _ _ dX3_digitHere_40 Z (vp_nar_int _)
  · replace hm := (if_neg c1).symm.trans hm
    refine lv_aload_n hx hb dX3_digitHere_11 rfl (lv_at hl 0 rfl) ?_
    refine g_get (j := 4) (v := .ref (G.1 159)) X Z (oX3 k157) (iB3 _) rfl (by decide) rfl (List.mem_cons_of_mem _ mB243) rfl dX3_digitHere_12 ?_
    refine lv_aload_n hx hb dX3_digitHere_15 rfl (lv_at hl 0 rfl) ?_
    refine g_get (j := 3) (v := .int (g 157 3)) X Z (oX3 k157) (iB3 _) rfl (by decide) rfl (List.mem_cons_of_mem _ mB248) rfl dX3_digitHere_16 ?_
    obtain ⟨b2, hm⟩ := sIdx_some hm
    refine g_cald X Z (aC k159) b2 dX3_digitHere_19 ?_
    refine lv_bipush (v := 48) hx hb dX3_digitHere_20 (by decide) ?_
    refine lv_icmp_lt (tgt := 39) hx hb dX3_digitHere_22 (by decide) (fun c3 => ?_) (fun c3 => ?_)
    · replace hm := (if_pos c3).symm.trans hm
      refine lv_iconst (v := (-1)) hx hb dX3_digitHere_39 (by decide) ?_
      obtain rfl := Option.some.inj hm
      exact kI _ _ _ _ dX3_digitHere_40 Z (vp_nar_int _)
    · replace hm := (if_neg c3).symm.trans hm
      refine lv_aload_n hx hb dX3_digitHere_25 rfl (lv_at hl 0 rfl) ?_
      refine g_get (j := 4) (v := .ref (G.1 159)) X Z (oX3 k157) (iB3 _) rfl (by decide) rfl (List.mem_cons_of_mem _ mB243) rfl dX3_digitHere_26 ?_
      refine lv_aload_n hx hb dX3_digitHere_29 rfl (lv_at hl 0 rfl) ?_
      refine g_get (j := 3) (v := .int (g 157 3)) X Z (oX3 k157) (iB3 _) rfl (by decide) rfl (List.mem_cons_of_mem _ mB248) rfl dX3_digitHere_30 ?_
      obtain ⟨b4, hm⟩ := sIdx_some hm
      refine g_cald X Z (aC k159) b4 dX3_digitHere_33 ?_
      refine lv_bipush (v := 57) hx hb dX3_digitHere_34 (by decide) ?_
      refine lv_icmp_le (tgt := 41) hx hb dX3_digitHere_36 (by decide) (fun c5 => ?_) (fun c5 => ?_)
      · replace hm := (if_pos c5).symm.trans hm
        refine lv_aload_n hx hb dX3_digitHere_41 rfl (lv_at hl 0 rfl) ?_
        refine g_get (j := 4) (v := .ref (G.1 159)) X Z (oX3 k157) (iB3 _) rfl (by decide) rfl (List.mem_cons_of_mem _ mB243) rfl dX3_digitHere_42 ?_
        refine lv_aload_n hx hb dX3_digitHere_45 rfl (lv_at hl 0 rfl) ?_
        refine g_get (j := 3) (v := .int (g 157 3)) X Z (oX3 k157) (iB3 _) rfl (by decide) rfl (List.mem_cons_of_mem _ mB248) rfl dX3_digitHere_46 ?_
        obtain ⟨b6, hm⟩ := sIdx_some hm
        refine g_cald X Z (aC k159) b6 dX3_digitHere_49 ?_
        refine lv_bipush (v := 48) hx hb dX3_digitHere_50 (by decide) ?_
        refine lv_isub hx hb dX3_digitHere_52 ?_
        obtain rfl := Option.some.inj hm
        exact kI _ _ _ _ dX3_digitHere_53 Z (vp_nar_int _)
      · replace hm := (if_neg c5).symm.trans hm
        refine lv_iconst (v := (-1)) hx hb dX3_digitHere_39 (by decide) ?_
        obtain rfl := Option.some.inj hm
        exact kI _ _ _ _ dX3_digitHere_40 Z (vp_nar_int _)
theorem cX3_digitHere_c (l : Launch) {G : LY} {g : Mem} {r : Int32} (hm : sX3_digitHere g = some r) : cI l yX3_digitHere wmX3_digitHere 0 0 .int wC G [.ref (G.1 157)] g r g :=
  mk_cI sameC (by decide +kernel) rfl (Nat.le_of_ble_eq_true rfl) (fun p e s m args below meth c A Q ls X kI hl Z => bX3_digitHere_0 X kI  _ _ ls Z hl hm)
abbrev wmX3_readNumber : List Cond := Cond.code yX3_readNumber cX3_readNumber 6 (some .boolean) :: wA0
set_option maxHeartbeats 4000000 in
set_option maxRecDepth 100000 in
theorem bX3_readNumber_30 (X : gC p s m args meth c cX3_readNumber 6 wmX3_readNumber yX3_readNumber.cls (some .boolean) G A) {n : Nat} {r : Int32 × Mem} (kI : ∀ (pc : Nat) (ls : Array Slot) (H : Heap) (locs : List Loc), decode cX3_readNumber pc = .ok (.ireturn, 1) → WS wC G r.2 A s.heap H locs → narrow .boolean (.int r.1) = .int r.1 → W p l e { frames := 1, cells := 0, slots := 0, locals := 20 } s m args below meth c H locs 0 0 Q (F0 m pc ls [.int r.1])) : ∀ (f : Nat), ∀ (g : Mem) (x1 : Int32) (x3 : Int32) (x4 : Int32) (H : Heap) (locs : List Loc) (ls : Array Slot), WS wC G g A s.heap H locs → lv_has ls 6 [(0, .ref (G.1 157)), (1, .int x1), (3, .int x3), (4, .int x4)] → sX3_readNumber_30 n f g x1 x3 x4 = some r → W p l e { frames := 1, cells := 0, slots := 0, locals := 20 } s m args below meth c H locs 0 0 Q (F0 m 30 ls []) := by
  have hx := X.1
  have hb := X.2.1
  intro f
  induction f with
  | zero =>
    intro g x1 x3 x4 H locs ls Z hl hm
    cases hm
  | succ f ih =>
    intro g x1 x3 x4 H locs ls Z hl hm
    unfold sX3_readNumber_30 at hm
    refine lv_aload_n hx hb dX3_readNumber_30 rfl (lv_at hl 0 rfl) ?_
    refine g_get (j := 3) (v := .int (g 157 3)) X Z (oX3 k157) (iB3 _) rfl (by decide) rfl (List.mem_cons_of_mem _ mB248) rfl dX3_readNumber_31 ?_
    refine lv_aload_n hx hb dX3_readNumber_34 rfl (lv_at hl 0 rfl) ?_
    refine g_get (j := 0) (v := .int (g 157 0)) X Z (oX3 k157) (iB3 _) rfl (by decide) rfl (List.mem_cons_of_mem _ mB245) rfl dX3_readNumber_35 ?_
    refine lv_icmp_ge (tgt := 96) hx hb dX3_readNumber_38 (by decide) (fun c1 => ?_) (fun c1 => ?_)
    · replace hm := (if_pos c1).symm.trans hm
      refine lv_aload_n hx hb dX3_readNumber_96 rfl (lv_at hl 0 rfl) ?_
      refine g_get (j := 2) (v := .ref (G.1 158)) X Z (oX3 k157) (iB3 _) rfl (by decide) rfl (List.mem_cons_of_mem _ mB241) rfl dX3_readNumber_97 ?_
      refine lv_iload_n hx hb dX3_readNumber_100 rfl (lv_at hl 1 rfl) ?_
      refine lv_iload hx hb dX3_readNumber_101 (lv_at hl 3 rfl) ?_
      obtain ⟨b2, hm⟩ := sIdx_some hm
      obtain ⟨g3, eg3, hm⟩ := sLet_some hm
      refine g_iast eg3 X Z (aI k158) b2 dX3_readNumber_103 (fun H locs Z => ?_)
      refine lv_iconst (v := 1) hx hb dX3_readNumber_104 (by decide) ?_
      obtain rfl := Option.some.inj hm
      exact kI _ _ _ _ dX3_readNumber_105 Z nb1
    · replace hm := (if_neg c1).symm.trans hm
      refine lv_aload_n hx hb dX3_readNumber_41 rfl (lv_at hl 0 rfl) ?_
      obtain ⟨r6, e4, hm⟩ := sBi_some hm
      refine g_callVI (n := 0) (As := []) (rest := []) sameC X Z (cX3_digitHere_c l e4) (oX3 k157) rfl (gooV mB332 mB333 mB334 mB335 mB330) rfl (by decide +kernel) rfl ⟨Nat.le_of_ble_eq_true rfl, Nat.le_of_ble_eq_true rfl⟩ ⟨Nat.le_of_ble_eq_true rfl, Nat.le_of_ble_eq_true rfl⟩ hl.1 rfl (Nat.le_of_ble_eq_true rfl) dX3_readNumber_42 (fun w5 H locs Z => ?_)
      refine lv_istore (lv' := [(5, .int r6), (0, .ref (G.1 157)), (1, .int x1), (3, .int x3), (4, .int x4)]) hx hb dX3_readNumber_45 hl (by decide) rfl (fun ls hl => ?_)
      refine lv_iload hx hb dX3_readNumber_47 (lv_at hl 0 rfl) ?_
      refine lv_iconst (v := (-1)) hx hb dX3_readNumber_49 (by decide) ?_
      refine lv_icmp_eq (tgt := 96) hx hb dX3_readNumber_50 (by decide) (fun c7 => ?_) (fun c7 => ?_)
      · replace hm := (if_pos c7).symm.trans hm
        refine lv_aload_n hx hb dX3_readNumber_96 rfl (lv_at hl 1 rfl) ?_
        refine g_get (j := 2) (v := .ref (G.1 158)) X Z (oX3 k157) (iB3 _) rfl (by decide) rfl (List.mem_cons_of_mem _ mB241) rfl dX3_readNumber_97 ?_
        refine lv_iload_n hx hb dX3_readNumber_100 rfl (lv_at hl 2 rfl) ?_
        refine lv_iload hx hb dX3_readNumber_101 (lv_at hl 4 rfl) ?_
        obtain ⟨b8, hm⟩ := sIdx_some hm
        obtain ⟨g9, eg9, hm⟩ := sLet_some hm
        refine g_iast eg9 X Z (aI k158) b8 dX3_readNumber_103 (fun H locs Z => ?_)
        refine lv_iconst (v := 1) hx hb dX3_readNumber_104 (by decide) ?_
        obtain rfl := Option.some.inj hm
        exact kI _ _ _ _ dX3_readNumber_105 Z nb1
      · replace hm := (if_neg c7).symm.trans hm
        refine lv_iload hx hb dX3_readNumber_53 (lv_at hl 4 rfl) ?_
        refine lv_if_eq (tgt := 96) hx hb dX3_readNumber_55 (by decide) (fun c10 => ?_) (fun c10 => ?_)
        · replace hm := (if_pos c10).symm.trans hm
          refine lv_aload_n hx hb dX3_readNumber_96 rfl (lv_at hl 1 rfl) ?_
          refine g_get (j := 2) (v := .ref (G.1 158)) X Z (oX3 k157) (iB3 _) rfl (by decide) rfl (List.mem_cons_of_mem _ mB241) rfl dX3_readNumber_97 ?_
          refine lv_iload_n hx hb dX3_readNumber_100 rfl (lv_at hl 2 rfl) ?_
          refine lv_iload hx hb dX3_readNumber_101 (lv_at hl 4 rfl) ?_
          obtain ⟨b11, hm⟩ := sIdx_some hm
          obtain ⟨g12, eg12, hm⟩ := sLet_some hm
          refine g_iast eg12 X Z (aI k158) b11 dX3_readNumber_103 (fun H locs Z => ?_)
          refine lv_iconst (v := 1) hx hb dX3_readNumber_104 (by decide) ?_
          obtain rfl := Option.some.inj hm
          exact kI _ _ _ _ dX3_readNumber_105 Z nb1
        · replace hm := (if_neg c10).symm.trans hm
          refine lv_bipush (v := 10) hx hb dX3_readNumber_58 (by decide) ?_
          refine lv_iload hx hb dX3_readNumber_60 (lv_at hl 4 rfl) ?_
          refine lv_imul hx hb dX3_readNumber_62 ?_
          refine lv_iload hx hb dX3_readNumber_63 (lv_at hl 0 rfl) ?_
          refine lv_iadd hx hb dX3_readNumber_65 ?_
          refine lv_iload_n hx hb dX3_readNumber_66 rfl (lv_at hl 3 rfl) ?_
          refine lv_icmp_le (tgt := 73) hx hb dX3_readNumber_67 (by decide) (fun c13 => ?_) (fun c13 => ?_)
          · replace hm := (if_pos c13).symm.trans hm
            refine lv_bipush (v := 10) hx hb dX3_readNumber_73 (by decide) ?_
            refine lv_iload hx hb dX3_readNumber_75 (lv_at hl 4 rfl) ?_
            refine lv_imul hx hb dX3_readNumber_77 ?_
            refine lv_iload hx hb dX3_readNumber_78 (lv_at hl 0 rfl) ?_
            refine lv_iadd hx hb dX3_readNumber_80 ?_
            refine lv_istore (lv' := [(4, .int (((10 : Int32) * x4) + r6)), (5, .int r6), (0, .ref (G.1 157)), (1, .int x1), (3, .int x3)]) hx hb dX3_readNumber_81 hl (by decide) rfl (fun ls hl => ?_)
            refine lv_aload_n hx hb dX3_readNumber_83 rfl (lv_at hl 2 rfl) ?_
            refine lv_dup hx hb dX3_readNumber_84 rfl ?_
            refine g_get (j := 3) (v := .int (g 157 3)) X Z (oX3 k157) (iB3 _) rfl (by decide) rfl (List.mem_cons_of_mem _ mB248) rfl dX3_readNumber_85 ?_
            refine lv_iconst (v := 1) hx hb dX3_readNumber_88 (by decide) ?_
            refine lv_iadd hx hb dX3_readNumber_89 ?_
            obtain ⟨g14, eg14, hm⟩ := sLet_some hm
            refine g_put (j := 3) eg14 X Z (oX3 k157) (iB3 _) rfl tyX3_ok nmX3 (by decide) rfl rfl (Nat.le_of_ble_eq_true rfl) (p3_3 G g ((g 157 3) + (1 : Int32))) rfl (List.mem_cons_of_mem _ mB248) dX3_readNumber_90 (fun H locs Z => ?_)
            refine lv_goto (tgt := 30) hx hb dX3_readNumber_93 (by decide) ?_
            exact ih g14 x1 x3 (((10 : Int32) * x4) + r6) _ _ _ Z (lv_sub hl [2, 3, 4, 0] rfl) hm
          · replace hm := (if_neg c13).symm.trans hm
            refine lv_goto (tgt := 96) hx hb dX3_readNumber_70 (by decide) ?_
            refine lv_aload_n hx hb dX3_readNumber_96 rfl (lv_at hl 1 rfl) ?_
            refine g_get (j := 2) (v := .ref (G.1 158)) X Z (oX3 k157) (iB3 _) rfl (by decide) rfl (List.mem_cons_of_mem _ mB241) rfl dX3_readNumber_97 ?_
            refine lv_iload_n hx hb dX3_readNumber_100 rfl (lv_at hl 2 rfl) ?_
            refine lv_iload hx hb dX3_readNumber_101 (lv_at hl 4 rfl) ?_
            obtain ⟨b15, hm⟩ := sIdx_some hm
            obtain ⟨g16, eg16, hm⟩ := sLet_some hm
            refine g_iast eg16 X Z (aI k158) b15 dX3_readNumber_103 (fun H locs Z => ?_)
            refine lv_iconst (v := 1) hx hb dX3_readNumber_104 (by decide) ?_
            obtain rfl := Option.some.inj hm
            exact kI _ _ _ _ dX3_readNumber_105 Z nb1
set_option maxHeartbeats 4000000 in
set_option maxRecDepth 100000 in
theorem bX3_readNumber_0 (X : gC p s m args meth c cX3_readNumber 6 wmX3_readNumber yX3_readNumber.cls (some .boolean) G A) {n : Nat} {r : Int32 × Mem} (kI : ∀ (pc : Nat) (ls : Array Slot) (H : Heap) (locs : List Loc), decode cX3_readNumber pc = .ok (.ireturn, 1) → WS wC G r.2 A s.heap H locs → narrow .boolean (.int r.1) = .int r.1 → W p l e { frames := 1, cells := 0, slots := 0, locals := 20 } s m args below meth c H locs 0 0 Q (F0 m pc ls [.int r.1])) : ∀ (g : Mem) (x1 : Int32) (x2 : Int32) (x3 : Int32) (H : Heap) (locs : List Loc) (ls : Array Slot), WS wC G g A s.heap H locs → lv_has ls 6 [(0, .ref (G.1 157)), (1, .int x1), (2, .int x2), (3, .int x3)] → sX3_readNumber n g x1 x2 x3 = some r → W p l e { frames := 1, cells := 0, slots := 0, locals := 20 } s m args below meth c H locs 0 0 Q (F0 m 0 ls []) := by
  have hx := X.1
  have hb := X.2.1
  intro g x1 x2 x3 H locs ls Z hl hm
  unfold sX3_readNumber at hm
  refine lv_aload_n hx hb dX3_readNumber_0 rfl (lv_at hl 0 rfl) ?_
  obtain ⟨r3, e1, hm⟩ := sBi_some hm
  refine g_callVI (n := 0) (As := []) (rest := []) sameC X Z (cX3_digitHere_c l e1) (oX3 k157) rfl (gooV mB332 mB333 mB334 mB335 mB330) rfl (by decide +kernel) rfl ⟨Nat.le_of_ble_eq_true rfl, Nat.le_of_ble_eq_true rfl⟩ ⟨Nat.le_of_ble_eq_true rfl, Nat.le_of_ble_eq_true rfl⟩ hl.1 rfl (Nat.le_of_ble_eq_true rfl) dX3_readNumber_1 (fun w2 H locs Z => ?_)
  refine lv_istore (lv' := [(4, .int r3), (0, .ref (G.1 157)), (1, .int x1), (2, .int x2), (3, .int x3)]) hx hb dX3_readNumber_4 hl (by decide) rfl (fun ls hl => ?_)
  refine lv_iload hx hb dX3_readNumber_6 (lv_at hl 0 rfl) ?_
  refine lv_iload_n hx hb dX3_readNumber_8 rfl (lv_at hl 3 rfl) ?_
  refine lv_icmp_lt (tgt := 18) hx hb dX3_readNumber_9 (by decide) (fun c4 => ?_) (fun c4 => ?_)
  · replace hm := (if_pos c4).symm.trans hm
    refine lv_iconst (v := 0) hx hb dX3_readNumber_18 (by decide) ?_
    obtain rfl := Option.some.inj hm
    exact kI _ _ _ _ dX3_readNumber_19 Z nb0
  · replace hm := (if_neg c4).symm.trans hm
    refine lv_iload hx hb dX3_readNumber_12 (lv_at hl 0 rfl) ?_
    refine lv_iload_n hx hb dX3_readNumber_14 rfl (lv_at hl 4 rfl) ?_
    refine lv_icmp_le (tgt := 20) hx hb dX3_readNumber_15 (by decide) (fun c5 => ?_) (fun c5 => ?_)
    · replace hm := (if_pos c5).symm.trans hm
      refine lv_aload_n hx hb dX3_readNumber_20 rfl (lv_at hl 1 rfl) ?_
      refine lv_dup hx hb dX3_readNumber_21 rfl ?_
      refine g_get (j := 3) (v := .int (g 157 3)) X Z (oX3 k157) (iB3 _) rfl (by decide) rfl (List.mem_cons_of_mem _ mB248) rfl dX3_readNumber_22 ?_
      refine lv_iconst (v := 1) hx hb dX3_readNumber_25 (by decide) ?_
      refine lv_iadd hx hb dX3_readNumber_26 ?_
      obtain ⟨g6, eg6, hm⟩ := sLet_some hm
      refine g_put (j := 3) eg6 X Z (oX3 k157) (iB3 _) rfl tyX3_ok nmX3 (by decide) rfl rfl (Nat.le_of_ble_eq_true rfl) (p3_3 G g ((g 157 3) + (1 : Int32))) rfl (List.mem_cons_of_mem _ mB248) dX3_readNumber_27 (fun H locs Z => ?_)
      exact bX3_readNumber_30 X kI n g6 x1 x3 r3 _ _ _ Z (lv_sub hl [1, 2, 4, 0] rfl) hm
    · replace hm := (if_neg c5).symm.trans hm
      refine lv_iconst (v := 0) hx hb dX3_readNumber_18 (by decide) ?_
      obtain rfl := Option.some.inj hm
      exact kI _ _ _ _ dX3_readNumber_19 Z nb0
theorem cX3_readNumber_c (l : Launch) {G : LY} {g : Mem} {n : Nat} {x1 : Int32} {x2 : Int32} {x3 : Int32} {r : Int32 × Mem} (hm : sX3_readNumber n g x1 x2 x3 = some r) : cI l yX3_readNumber wmX3_readNumber 1 20 .boolean wC G [.ref (G.1 157), .int x1, .int x2, .int x3] g r.1 r.2 :=
  mk_cI sameC (by decide +kernel) rfl (Nat.le_of_ble_eq_true rfl) (fun p e s m args below meth c A Q ls X kI hl Z => bX3_readNumber_0 X kI g x1 x2 x3 _ _ ls Z hl hm)
abbrev wmX3_take : List Cond := Cond.code yX3_take cX3_take 2 (some .boolean) :: wA0
set_option maxHeartbeats 4000000 in
set_option maxRecDepth 100000 in
theorem bX3_take_0 (X : gC p s m args meth c cX3_take 2 wmX3_take yX3_take.cls (some .boolean) G A) {r : Int32 × Mem} (kI : ∀ (pc : Nat) (ls : Array Slot) (H : Heap) (locs : List Loc), decode cX3_take pc = .ok (.ireturn, 1) → WS wC G r.2 A s.heap H locs → narrow .boolean (.int r.1) = .int r.1 → W p l e { frames := 0, cells := 0, slots := 0, locals := 0 } s m args below meth c H locs 0 0 Q (F0 m pc ls [.int r.1])) : ∀ (g : Mem) (x1 : Int32) (H : Heap) (locs : List Loc) (ls : Array Slot), WS wC G g A s.heap H locs → lv_has ls 2 [(0, .ref (G.1 157)), (1, .int x1)] → sX3_take g x1 = some r → W p l e { frames := 0, cells := 0, slots := 0, locals := 0 } s m args below meth c H locs 0 0 Q (F0 m 0 ls []) := by
  have hx := X.1
  have hb := X.2.1
  intro g x1 H locs ls Z hl hm
  unfold sX3_take at hm
  refine lv_aload_n hx hb dX3_take_0 rfl (lv_at hl 0 rfl) ?_
  refine g_get (j := 3) (v := .int (g 157 3)) X Z (oX3 k157) (iB3 _) rfl (by decide) rfl (List.mem_cons_of_mem _ mB248) rfl dX3_take_1 ?_
  refine lv_aload_n hx hb dX3_take_4 rfl (lv_at hl 0 rfl) ?_
  refine g_get (j := 0) (v := .int (g 157 0)) X Z (oX3 k157) (iB3 _) rfl (by decide) rfl (List.mem_cons_of_mem _ mB245) rfl dX3_take_5 ?_
  refine lv_icmp_ge (tgt := 24) hx hb dX3_take_8 (by decide) (fun c1 => ?_) (fun c1 => ?_)
  · replace hm := (if_pos c1).symm.trans hm
    refine lv_iconst (v := 0) hx hb dX3_take_24 (by decide) ?_
    obtain rfl := Option.some.inj hm
    exact kI _ _ _ _ dX3_take_25 Z nb0
  · replace hm := (if_neg c1).symm.trans hm
    refine lv_aload_n hx hb dX3_take_11 rfl (lv_at hl 0 rfl) ?_
    refine g_get (j := 4) (v := .ref (G.1 159)) X Z (oX3 k157) (iB3 _) rfl (by decide) rfl (List.mem_cons_of_mem _ mB243) rfl dX3_take_12 ?_
    refine lv_aload_n hx hb dX3_take_15 rfl (lv_at hl 0 rfl) ?_
    refine g_get (j := 3) (v := .int (g 157 3)) X Z (oX3 k157) (iB3 _) rfl (by decide) rfl (List.mem_cons_of_mem _ mB248) rfl dX3_take_16 ?_
    obtain ⟨b2, hm⟩ := sIdx_some hm
    refine g_cald X Z (aC k159) b2 dX3_take_19 ?_
    refine lv_iload_n hx hb dX3_take_20 rfl (lv_at hl 1 rfl) ?_
    refine lv_icmp_eq (tgt := 26) hx hb dX3_take_21 (by decide) (fun c3 => ?_) (fun c3 => ?_)
    · replace hm := (if_pos c3).symm.trans hm
      refine lv_aload_n hx hb dX3_take_26 rfl (lv_at hl 0 rfl) ?_
      refine lv_dup hx hb dX3_take_27 rfl ?_
      refine g_get (j := 3) (v := .int (g 157 3)) X Z (oX3 k157) (iB3 _) rfl (by decide) rfl (List.mem_cons_of_mem _ mB248) rfl dX3_take_28 ?_
      refine lv_iconst (v := 1) hx hb dX3_take_31 (by decide) ?_
      refine lv_iadd hx hb dX3_take_32 ?_
      obtain ⟨g4, eg4, hm⟩ := sLet_some hm
      refine g_put (j := 3) eg4 X Z (oX3 k157) (iB3 _) rfl tyX3_ok nmX3 (by decide) rfl rfl (Nat.le_of_ble_eq_true rfl) (p3_3 G g ((g 157 3) + (1 : Int32))) rfl (List.mem_cons_of_mem _ mB248) dX3_take_33 (fun H locs Z => ?_)
      refine lv_iconst (v := 1) hx hb dX3_take_36 (by decide) ?_
      obtain rfl := Option.some.inj hm
      exact kI _ _ _ _ dX3_take_37 Z nb1
    · replace hm := (if_neg c3).symm.trans hm
      refine lv_iconst (v := 0) hx hb dX3_take_24 (by decide) ?_
      obtain rfl := Option.some.inj hm
      exact kI _ _ _ _ dX3_take_25 Z nb0
theorem cX3_take_c (l : Launch) {G : LY} {g : Mem} {x1 : Int32} {r : Int32 × Mem} (hm : sX3_take g x1 = some r) : cI l yX3_take wmX3_take 0 0 .boolean wC G [.ref (G.1 157), .int x1] g r.1 r.2 :=
  mk_cI sameC (by decide +kernel) rfl (Nat.le_of_ble_eq_true rfl) (fun p e s m args below meth c A Q ls X kI hl Z => bX3_take_0 X kI g x1 _ _ ls Z hl hm)
abbrev wmX3_readOffset : List Cond := Cond.code yX3_readOffset cX3_readOffset 1 (some .boolean) :: wA0
set_option maxHeartbeats 4000000 in
set_option maxRecDepth 100000 in
theorem bX3_readOffset_0 (X : gC p s m args meth c cX3_readOffset 1 wmX3_readOffset yX3_readOffset.cls (some .boolean) G A) {n : Nat} {r : Int32 × Mem} (kI : ∀ (pc : Nat) (ls : Array Slot) (H : Heap) (locs : List Loc), decode cX3_readOffset pc = .ok (.ireturn, 1) → WS wC G r.2 A s.heap H locs → narrow .boolean (.int r.1) = .int r.1 → W p l e { frames := 2, cells := 0, slots := 0, locals := 45 } s m args below meth c H locs 0 0 Q (F0 m pc ls [.int r.1])) : ∀ (g : Mem) (H : Heap) (locs : List Loc) (ls : Array Slot), WS wC G g A s.heap H locs → lv_has ls 1 [(0, .ref (G.1 157))] → sX3_readOffset n g = some r → W p l e { frames := 2, cells := 0, slots := 0, locals := 45 } s m args below meth c H locs 0 0 Q (F0 m 0 ls []) := by
  have hx := X.1
  have hb := X.2.1
  intro g H locs ls Z hl hm
  unfold sX3_readOffset at hm
  refine lv_aload_n hx hb dX3_readOffset_0 rfl (lv_at hl 0 rfl) ?_
  refine lv_bipush (v := 45) hx hb dX3_readOffset_1 (by decide) ?_
  obtain ⟨r3, g4, e1, hm⟩ := sBi2_some hm
  refine g_callVI (n := 1) (As := [.int 45]) (rest := []) sameC X Z (cX3_take_c l e1) (oX3 k157) rfl (gooV mB338 mB339 mB340 mB335 mB336) rfl (by decide +kernel) rfl ⟨Nat.le_of_ble_eq_true rfl, Nat.le_of_ble_eq_true rfl⟩ ⟨Nat.le_of_ble_eq_true rfl, Nat.le_of_ble_eq_true rfl⟩ hl.1 rfl (Nat.le_of_ble_eq_true rfl) dX3_readOffset_3 (fun w2 H locs Z => ?_)
  refine lv_if_ne (tgt := 19) hx hb dX3_readOffset_6 (by decide) (fun c5 => ?_) (fun c5 => ?_)
  · replace hm := (if_neg c5).symm.trans hm
    refine lv_aload_n hx hb dX3_readOffset_19 rfl (lv_at hl 0 rfl) ?_
    refine lv_iconst (v := 1) hx hb dX3_readOffset_20 (by decide) ?_
    refine lv_iconst (v := 1) hx hb dX3_readOffset_21 (by decide) ?_
    refine lv_sipush (v := 500) hx hb dX3_readOffset_22 (by decide) ?_
    obtain ⟨r8, g9, e6, hm⟩ := sBi2_some hm
    refine g_callVI (n := 3) (As := [.int 1, .int 1, .int 500]) (rest := []) sameC X Z (cX3_readNumber_c l e6) (oX3 k157) rfl (gooV mB341 mB342 mB343 mB335 mB331) rfl (by decide +kernel) rfl ⟨Nat.le_of_ble_eq_true rfl, Nat.le_of_ble_eq_true rfl⟩ ⟨Nat.le_of_ble_eq_true rfl, Nat.le_of_ble_eq_true rfl⟩ hl.1 rfl (Nat.le_of_ble_eq_true rfl) dX3_readOffset_25 (fun w7 H locs Z => ?_)
    refine lv_if_ne (tgt := 33) hx hb dX3_readOffset_28 (by decide) (fun c10 => ?_) (fun c10 => ?_)
    · replace hm := (if_neg c10).symm.trans hm
      refine lv_aload_n hx hb dX3_readOffset_33 rfl (lv_at hl 0 rfl) ?_
      refine g_get (j := 2) (v := .ref (G.1 158)) X Z (oX3 k157) (iB3 _) rfl (by decide) rfl (List.mem_cons_of_mem _ mB241) rfl dX3_readOffset_34 ?_
      refine lv_iconst (v := 1) hx hb dX3_readOffset_37 (by decide) ?_
      refine lv_aload_n hx hb dX3_readOffset_38 rfl (lv_at hl 0 rfl) ?_
      refine g_get (j := 2) (v := .ref (G.1 158)) X Z (oX3 k157) (iB3 _) rfl (by decide) rfl (List.mem_cons_of_mem _ mB241) rfl dX3_readOffset_39 ?_
      refine lv_iconst (v := 1) hx hb dX3_readOffset_42 (by decide) ?_
      obtain ⟨b11, hm⟩ := sIdx_some hm
      refine g_iald X Z (aI k158) b11 dX3_readOffset_43 ?_
      refine lv_ineg hx hb dX3_readOffset_44 ?_
      obtain ⟨b12, hm⟩ := sIdx_some hm
      obtain ⟨g13, eg13, hm⟩ := sLet_some hm
      refine g_iast eg13 X Z (aI k158) b12 dX3_readOffset_45 (fun H locs Z => ?_)
      refine lv_iconst (v := 1) hx hb dX3_readOffset_46 (by decide) ?_
      obtain rfl := Option.some.inj hm
      exact kI _ _ _ _ dX3_readOffset_47 Z nb1
    · replace hm := (if_pos c10).symm.trans hm
      refine lv_iconst (v := 0) hx hb dX3_readOffset_31 (by decide) ?_
      obtain rfl := Option.some.inj hm
      exact kI _ _ _ _ dX3_readOffset_32 Z nb0
  · replace hm := (if_pos c5).symm.trans hm
    refine lv_aload_n hx hb dX3_readOffset_9 rfl (lv_at hl 0 rfl) ?_
    refine lv_iconst (v := 1) hx hb dX3_readOffset_10 (by decide) ?_
    refine lv_iconst (v := 0) hx hb dX3_readOffset_11 (by decide) ?_
    refine lv_sipush (v := 500) hx hb dX3_readOffset_12 (by decide) ?_
    obtain ⟨r16, g17, e14, hm⟩ := sBi2_some hm
    refine g_callVI (n := 3) (As := [.int 1, .int 0, .int 500]) (rest := []) sameC X Z (cX3_readNumber_c l e14) (oX3 k157) rfl (gooV mB341 mB342 mB343 mB335 mB331) rfl (by decide +kernel) rfl ⟨Nat.le_of_ble_eq_true rfl, Nat.le_of_ble_eq_true rfl⟩ ⟨Nat.le_of_ble_eq_true rfl, Nat.le_of_ble_eq_true rfl⟩ hl.1 rfl (Nat.le_of_ble_eq_true rfl) dX3_readOffset_15 (fun w15 H locs Z => ?_)
    obtain rfl := Option.some.inj hm
    exact kI _ _ _ _ dX3_readOffset_18 Z w15
theorem cX3_readOffset_c (l : Launch) {G : LY} {g : Mem} {n : Nat} {r : Int32 × Mem} (hm : sX3_readOffset n g = some r) : cI l yX3_readOffset wmX3_readOffset 2 45 .boolean wC G [.ref (G.1 157)] g r.1 r.2 :=
  mk_cI sameC (by decide +kernel) rfl (Nat.le_of_ble_eq_true rfl) (fun p e s m args below meth c A Q ls X kI hl Z => bX3_readOffset_0 X kI g  _ _ ls Z hl hm)
abbrev wmX3_readTransactionAndKey : List Cond := Cond.code yX3_readTransactionAndKey cX3_readTransactionAndKey 1 (some .boolean) :: wA0
set_option maxHeartbeats 4000000 in
set_option maxRecDepth 100000 in
theorem bX3_readTransactionAndKey_0 (X : gC p s m args meth c cX3_readTransactionAndKey 1 wmX3_readTransactionAndKey yX3_readTransactionAndKey.cls (some .boolean) G A) {n : Nat} {r : Int32 × Mem} (kI : ∀ (pc : Nat) (ls : Array Slot) (H : Heap) (locs : List Loc), decode cX3_readTransactionAndKey pc = .ok (.ireturn, 1) → WS wC G r.2 A s.heap H locs → narrow .boolean (.int r.1) = .int r.1 → W p l e { frames := 2, cells := 0, slots := 0, locals := 45 } s m args below meth c H locs 0 0 Q (F0 m pc ls [.int r.1])) : ∀ (g : Mem) (H : Heap) (locs : List Loc) (ls : Array Slot), WS wC G g A s.heap H locs → lv_has ls 1 [(0, .ref (G.1 157))] → sX3_readTransactionAndKey n g = some r → W p l e { frames := 2, cells := 0, slots := 0, locals := 45 } s m args below meth c H locs 0 0 Q (F0 m 0 ls []) := by
  have hx := X.1
  have hb := X.2.1
  intro g H locs ls Z hl hm
  unfold sX3_readTransactionAndKey at hm
  refine lv_aload_n hx hb dX3_readTransactionAndKey_0 rfl (lv_at hl 0 rfl) ?_
  refine lv_iconst (v := 0) hx hb dX3_readTransactionAndKey_1 (by decide) ?_
  refine lv_iconst (v := 0) hx hb dX3_readTransactionAndKey_2 (by decide) ?_
  refine lv_bipush (v := 39) hx hb dX3_readTransactionAndKey_3 (by decide) ?_
  obtain ⟨r3, g4, e1, hm⟩ := sBi2_some hm
  refine g_callVI (n := 3) (As := [.int 0, .int 0, .int 39]) (rest := []) sameC X Z (cX3_readNumber_c l e1) (oX3 k157) rfl (gooV mB341 mB342 mB343 mB335 mB331) rfl (by decide +kernel) rfl ⟨Nat.le_of_ble_eq_true rfl, Nat.le_of_ble_eq_true rfl⟩ ⟨Nat.le_of_ble_eq_true rfl, Nat.le_of_ble_eq_true rfl⟩ hl.1 rfl (Nat.le_of_ble_eq_true rfl) dX3_readTransactionAndKey_5 (fun w2 H locs Z => ?_)
  refine lv_if_eq (tgt := 35) hx hb dX3_readTransactionAndKey_8 (by decide) (fun c5 => ?_) (fun c5 => ?_)
  · replace hm := (if_pos c5).symm.trans hm
    refine lv_iconst (v := 0) hx hb dX3_readTransactionAndKey_35 (by decide) ?_
    obtain rfl := Option.some.inj hm
    exact kI _ _ _ _ dX3_readTransactionAndKey_36 Z nb0
  · replace hm := (if_neg c5).symm.trans hm
    refine lv_aload_n hx hb dX3_readTransactionAndKey_11 rfl (lv_at hl 0 rfl) ?_
    refine lv_bipush (v := 44) hx hb dX3_readTransactionAndKey_12 (by decide) ?_
    obtain ⟨r8, g9, e6, hm⟩ := sBi2_some hm
    refine g_callVI (n := 1) (As := [.int 44]) (rest := []) sameC X Z (cX3_take_c l e6) (oX3 k157) rfl (gooV mB338 mB339 mB340 mB335 mB336) rfl (by decide +kernel) rfl ⟨Nat.le_of_ble_eq_true rfl, Nat.le_of_ble_eq_true rfl⟩ ⟨Nat.le_of_ble_eq_true rfl, Nat.le_of_ble_eq_true rfl⟩ hl.1 rfl (Nat.le_of_ble_eq_true rfl) dX3_readTransactionAndKey_14 (fun w7 H locs Z => ?_)
    refine lv_if_eq (tgt := 35) hx hb dX3_readTransactionAndKey_17 (by decide) (fun c10 => ?_) (fun c10 => ?_)
    · replace hm := (if_pos c10).symm.trans hm
      refine lv_iconst (v := 0) hx hb dX3_readTransactionAndKey_35 (by decide) ?_
      obtain rfl := Option.some.inj hm
      exact kI _ _ _ _ dX3_readTransactionAndKey_36 Z nb0
    · replace hm := (if_neg c10).symm.trans hm
      refine lv_aload_n hx hb dX3_readTransactionAndKey_20 rfl (lv_at hl 0 rfl) ?_
      refine lv_iconst (v := 1) hx hb dX3_readTransactionAndKey_21 (by decide) ?_
      refine lv_iconst (v := 0) hx hb dX3_readTransactionAndKey_22 (by decide) ?_
      refine lv_bipush (v := 7) hx hb dX3_readTransactionAndKey_23 (by decide) ?_
      obtain ⟨r13, g14, e11, hm⟩ := sBi2_some hm
      refine g_callVI (n := 3) (As := [.int 1, .int 0, .int 7]) (rest := []) sameC X Z (cX3_readNumber_c l e11) (oX3 k157) rfl (gooV mB341 mB342 mB343 mB335 mB331) rfl (by decide +kernel) rfl ⟨Nat.le_of_ble_eq_true rfl, Nat.le_of_ble_eq_true rfl⟩ ⟨Nat.le_of_ble_eq_true rfl, Nat.le_of_ble_eq_true rfl⟩ hl.1 rfl (Nat.le_of_ble_eq_true rfl) dX3_readTransactionAndKey_25 (fun w12 H locs Z => ?_)
      refine lv_if_eq (tgt := 35) hx hb dX3_readTransactionAndKey_28 (by decide) (fun c15 => ?_) (fun c15 => ?_)
      · replace hm := (if_pos c15).symm.trans hm
        refine lv_iconst (v := 0) hx hb dX3_readTransactionAndKey_35 (by decide) ?_
        obtain rfl := Option.some.inj hm
        exact kI _ _ _ _ dX3_readTransactionAndKey_36 Z nb0
      · replace hm := (if_neg c15).symm.trans hm
        refine lv_iconst (v := 1) hx hb dX3_readTransactionAndKey_31 (by decide) ?_
        refine lv_goto (tgt := 36) hx hb dX3_readTransactionAndKey_32 (by decide) ?_
        obtain rfl := Option.some.inj hm
        exact kI _ _ _ _ dX3_readTransactionAndKey_36 Z nb1
theorem cX3_readTransactionAndKey_c (l : Launch) {G : LY} {g : Mem} {n : Nat} {r : Int32 × Mem} (hm : sX3_readTransactionAndKey n g = some r) : cI l yX3_readTransactionAndKey wmX3_readTransactionAndKey 2 45 .boolean wC G [.ref (G.1 157)] g r.1 r.2 :=
  mk_cI sameC (by decide +kernel) rfl (Nat.le_of_ble_eq_true rfl) (fun p e s m args below meth c A Q ls X kI hl Z => bX3_readTransactionAndKey_0 X kI g  _ _ ls Z hl hm)
abbrev wmX3_readArguments : List Cond := Cond.code yX3_readArguments cX3_readArguments 1 (some .boolean) :: wA0
set_option maxHeartbeats 4000000 in
set_option maxRecDepth 100000 in
theorem bX3_readArguments_0 (X : gC p s m args meth c cX3_readArguments 1 wmX3_readArguments yX3_readArguments.cls (some .boolean) G A) {n : Nat} {r : Int32 × Mem} (kI : ∀ (pc : Nat) (ls : Array Slot) (H : Heap) (locs : List Loc), decode cX3_readArguments pc = .ok (.ireturn, 1) → WS wC G r.2 A s.heap H locs → narrow .boolean (.int r.1) = .int r.1 → W p l e { frames := 3, cells := 0, slots := 0, locals := 65 } s m args below meth c H locs 0 0 Q (F0 m pc ls [.int r.1])) : ∀ (g : Mem) (H : Heap) (locs : List Loc) (ls : Array Slot), WS wC G g A s.heap H locs → lv_has ls 1 [(0, .ref (G.1 157))] → sX3_readArguments n g = some r → W p l e { frames := 3, cells := 0, slots := 0, locals := 65 } s m args below meth c H locs 0 0 Q (F0 m 0 ls []) := by
  have hx := X.1
  have hb := X.2.1
  intro g H locs ls Z hl hm
  unfold sX3_readArguments at hm
  refine lv_aload_n hx hb dX3_readArguments_0 rfl (lv_at hl 0 rfl) ?_
  refine g_get (j := 1) (v := .int (g 157 1)) X Z (oX3 k157) (iB3 _) rfl (by decide) rfl (List.mem_cons_of_mem _ mB345) rfl dX3_readArguments_1 ?_
  by_cases c1 : (g 157 1) = 98
  · replace hm := (if_pos c1).symm.trans hm
    refine lv_lookup (tgt := 56) hx hb dX3_readArguments_4 (by decide) (by rw [c1]; try rfl) (by decide) ?_
    refine lv_aload_n hx hb dX3_readArguments_56 rfl (lv_at hl 0 rfl) ?_
    refine lv_iconst (v := 0) hx hb dX3_readArguments_57 (by decide) ?_
    refine lv_iconst (v := 0) hx hb dX3_readArguments_58 (by decide) ?_
    refine lv_iconst (v := 2) hx hb dX3_readArguments_59 (by decide) ?_
    obtain ⟨r4, g5, e2, hm⟩ := sBi2_some hm
    refine g_callVI (n := 3) (As := [.int 0, .int 0, .int 2]) (rest := []) sameC X Z (cX3_readNumber_c l e2) (oX3 k157) rfl (gooV mB341 mB342 mB343 mB335 mB331) rfl (by decide +kernel) rfl ⟨Nat.le_of_ble_eq_true rfl, Nat.le_of_ble_eq_true rfl⟩ ⟨Nat.le_of_ble_eq_true rfl, Nat.le_of_ble_eq_true rfl⟩ hl.1 rfl (Nat.le_of_ble_eq_true rfl) dX3_readArguments_60 (fun w3 H locs Z => ?_)
    obtain rfl := Option.some.inj hm
    exact kI _ _ _ _ dX3_readArguments_63 Z w3
  replace hm := (if_neg c1).symm.trans hm
  by_cases c6 : (g 157 1) = 114
  · replace hm := (if_pos c6).symm.trans hm
    refine lv_lookup (tgt := 106) hx hb dX3_readArguments_4 (by decide) (by rw [c6]; try rfl) (by decide) ?_
    refine lv_aload_n hx hb dX3_readArguments_106 rfl (lv_at hl 0 rfl) ?_
    obtain ⟨r9, g10, e7, hm⟩ := sBi2_some hm
    refine g_callVI (n := 0) (As := []) (rest := []) sameC X Z (cX3_readTransactionAndKey_c l e7) (oX3 k157) rfl (gooV mB349 mB350 mB351 mB335 mB344) rfl (by decide +kernel) rfl ⟨Nat.le_of_ble_eq_true rfl, Nat.le_of_ble_eq_true rfl⟩ ⟨Nat.le_of_ble_eq_true rfl, Nat.le_of_ble_eq_true rfl⟩ hl.1 rfl (Nat.le_of_ble_eq_true rfl) dX3_readArguments_107 (fun w8 H locs Z => ?_)
    obtain rfl := Option.some.inj hm
    exact kI _ _ _ _ dX3_readArguments_110 Z w8
  replace hm := (if_neg c6).symm.trans hm
  by_cases c11 : (g 157 1) = 115
  · replace hm := (if_pos c11).symm.trans hm
    refine lv_lookup (tgt := 74) hx hb dX3_readArguments_4 (by decide) (by rw [c11]; try rfl) (by decide) ?_
    refine lv_aload_n hx hb dX3_readArguments_74 rfl (lv_at hl 0 rfl) ?_
    refine lv_iconst (v := 0) hx hb dX3_readArguments_75 (by decide) ?_
    refine lv_iconst (v := 0) hx hb dX3_readArguments_76 (by decide) ?_
    refine lv_iconst (v := 2) hx hb dX3_readArguments_77 (by decide) ?_
    obtain ⟨r14, g15, e12, hm⟩ := sBi2_some hm
    refine g_callVI (n := 3) (As := [.int 0, .int 0, .int 2]) (rest := []) sameC X Z (cX3_readNumber_c l e12) (oX3 k157) rfl (gooV mB341 mB342 mB343 mB335 mB331) rfl (by decide +kernel) rfl ⟨Nat.le_of_ble_eq_true rfl, Nat.le_of_ble_eq_true rfl⟩ ⟨Nat.le_of_ble_eq_true rfl, Nat.le_of_ble_eq_true rfl⟩ hl.1 rfl (Nat.le_of_ble_eq_true rfl) dX3_readArguments_78 (fun w13 H locs Z => ?_)
    refine lv_if_eq (tgt := 104) hx hb dX3_readArguments_81 (by decide) (fun c16 => ?_) (fun c16 => ?_)
    · replace hm := (if_pos c16).symm.trans hm
      refine lv_iconst (v := 0) hx hb dX3_readArguments_104 (by decide) ?_
      obtain rfl := Option.some.inj hm
      exact kI _ _ _ _ dX3_readArguments_105 Z nb0
    · replace hm := (if_neg c16).symm.trans hm
      refine lv_aload_n hx hb dX3_readArguments_84 rfl (lv_at hl 0 rfl) ?_
      refine lv_bipush (v := 44) hx hb dX3_readArguments_85 (by decide) ?_
      obtain ⟨r19, g20, e17, hm⟩ := sBi2_some hm
      refine g_callVI (n := 1) (As := [.int 44]) (rest := []) sameC X Z (cX3_take_c l e17) (oX3 k157) rfl (gooV mB338 mB339 mB340 mB335 mB336) rfl (by decide +kernel) rfl ⟨Nat.le_of_ble_eq_true rfl, Nat.le_of_ble_eq_true rfl⟩ ⟨Nat.le_of_ble_eq_true rfl, Nat.le_of_ble_eq_true rfl⟩ hl.1 rfl (Nat.le_of_ble_eq_true rfl) dX3_readArguments_87 (fun w18 H locs Z => ?_)
      refine lv_if_eq (tgt := 104) hx hb dX3_readArguments_90 (by decide) (fun c21 => ?_) (fun c21 => ?_)
      · replace hm := (if_pos c21).symm.trans hm
        refine lv_iconst (v := 0) hx hb dX3_readArguments_104 (by decide) ?_
        obtain rfl := Option.some.inj hm
        exact kI _ _ _ _ dX3_readArguments_105 Z nb0
      · replace hm := (if_neg c21).symm.trans hm
        refine lv_aload_n hx hb dX3_readArguments_93 rfl (lv_at hl 0 rfl) ?_
        obtain ⟨r24, g25, e22, hm⟩ := sBi2_some hm
        refine g_callVI (n := 0) (As := []) (rest := []) sameC X Z (cX3_readOffset_c l e22) (oX3 k157) rfl (gooV mB346 mB347 mB348 mB335 mB337) rfl (by decide +kernel) rfl ⟨Nat.le_of_ble_eq_true rfl, Nat.le_of_ble_eq_true rfl⟩ ⟨Nat.le_of_ble_eq_true rfl, Nat.le_of_ble_eq_true rfl⟩ hl.1 rfl (Nat.le_of_ble_eq_true rfl) dX3_readArguments_94 (fun w23 H locs Z => ?_)
        refine lv_if_eq (tgt := 104) hx hb dX3_readArguments_97 (by decide) (fun c26 => ?_) (fun c26 => ?_)
        · replace hm := (if_pos c26).symm.trans hm
          refine lv_iconst (v := 0) hx hb dX3_readArguments_104 (by decide) ?_
          obtain rfl := Option.some.inj hm
          exact kI _ _ _ _ dX3_readArguments_105 Z nb0
        · replace hm := (if_neg c26).symm.trans hm
          refine lv_iconst (v := 1) hx hb dX3_readArguments_100 (by decide) ?_
          refine lv_goto (tgt := 105) hx hb dX3_readArguments_101 (by decide) ?_
          obtain rfl := Option.some.inj hm
          exact kI _ _ _ _ dX3_readArguments_105 Z nb1
  replace hm := (if_neg c11).symm.trans hm
  by_cases c27 : (g 157 1) = 116
  · replace hm := (if_pos c27).symm.trans hm
    refine lv_lookup (tgt := 64) hx hb dX3_readArguments_4 (by decide) (by rw [c27]; try rfl) (by decide) ?_
    refine lv_aload_n hx hb dX3_readArguments_64 rfl (lv_at hl 0 rfl) ?_
    refine lv_iconst (v := 0) hx hb dX3_readArguments_65 (by decide) ?_
    refine lv_iconst (v := 1) hx hb dX3_readArguments_66 (by decide) ?_
    refine lv_sipush (v := 1000) hx hb dX3_readArguments_67 (by decide) ?_
    obtain ⟨r30, g31, e28, hm⟩ := sBi2_some hm
    refine g_callVI (n := 3) (As := [.int 0, .int 1, .int 1000]) (rest := []) sameC X Z (cX3_readNumber_c l e28) (oX3 k157) rfl (gooV mB341 mB342 mB343 mB335 mB331) rfl (by decide +kernel) rfl ⟨Nat.le_of_ble_eq_true rfl, Nat.le_of_ble_eq_true rfl⟩ ⟨Nat.le_of_ble_eq_true rfl, Nat.le_of_ble_eq_true rfl⟩ hl.1 rfl (Nat.le_of_ble_eq_true rfl) dX3_readArguments_70 (fun w29 H locs Z => ?_)
    obtain rfl := Option.some.inj hm
    exact kI _ _ _ _ dX3_readArguments_73 Z w29
  replace hm := (if_neg c27).symm.trans hm
  by_cases c32 : (g 157 1) = 119
  · replace hm := (if_pos c32).symm.trans hm
    refine lv_lookup (tgt := 111) hx hb dX3_readArguments_4 (by decide) (by rw [c32]; try rfl) (by decide) ?_
    refine lv_aload_n hx hb dX3_readArguments_111 rfl (lv_at hl 0 rfl) ?_
    obtain ⟨r35, g36, e33, hm⟩ := sBi2_some hm
    refine g_callVI (n := 0) (As := []) (rest := []) sameC X Z (cX3_readTransactionAndKey_c l e33) (oX3 k157) rfl (gooV mB349 mB350 mB351 mB335 mB344) rfl (by decide +kernel) rfl ⟨Nat.le_of_ble_eq_true rfl, Nat.le_of_ble_eq_true rfl⟩ ⟨Nat.le_of_ble_eq_true rfl, Nat.le_of_ble_eq_true rfl⟩ hl.1 rfl (Nat.le_of_ble_eq_true rfl) dX3_readArguments_112 (fun w34 H locs Z => ?_)
    refine lv_if_eq (tgt := 143) hx hb dX3_readArguments_115 (by decide) (fun c37 => ?_) (fun c37 => ?_)
    · replace hm := (if_pos c37).symm.trans hm
      refine lv_iconst (v := 0) hx hb dX3_readArguments_143 (by decide) ?_
      obtain rfl := Option.some.inj hm
      exact kI _ _ _ _ dX3_readArguments_144 Z nb0
    · replace hm := (if_neg c37).symm.trans hm
      refine lv_aload_n hx hb dX3_readArguments_118 rfl (lv_at hl 0 rfl) ?_
      refine lv_bipush (v := 44) hx hb dX3_readArguments_119 (by decide) ?_
      obtain ⟨r40, g41, e38, hm⟩ := sBi2_some hm
      refine g_callVI (n := 1) (As := [.int 44]) (rest := []) sameC X Z (cX3_take_c l e38) (oX3 k157) rfl (gooV mB338 mB339 mB340 mB335 mB336) rfl (by decide +kernel) rfl ⟨Nat.le_of_ble_eq_true rfl, Nat.le_of_ble_eq_true rfl⟩ ⟨Nat.le_of_ble_eq_true rfl, Nat.le_of_ble_eq_true rfl⟩ hl.1 rfl (Nat.le_of_ble_eq_true rfl) dX3_readArguments_121 (fun w39 H locs Z => ?_)
      refine lv_if_eq (tgt := 143) hx hb dX3_readArguments_124 (by decide) (fun c42 => ?_) (fun c42 => ?_)
      · replace hm := (if_pos c42).symm.trans hm
        refine lv_iconst (v := 0) hx hb dX3_readArguments_143 (by decide) ?_
        obtain rfl := Option.some.inj hm
        exact kI _ _ _ _ dX3_readArguments_144 Z nb0
      · replace hm := (if_neg c42).symm.trans hm
        refine lv_aload_n hx hb dX3_readArguments_127 rfl (lv_at hl 0 rfl) ?_
        refine lv_iconst (v := 2) hx hb dX3_readArguments_128 (by decide) ?_
        refine lv_iconst (v := 0) hx hb dX3_readArguments_129 (by decide) ?_
        refine lv_sipush (v := 9999) hx hb dX3_readArguments_130 (by decide) ?_
        obtain ⟨r45, g46, e43, hm⟩ := sBi2_some hm
        refine g_callVI (n := 3) (As := [.int 2, .int 0, .int 9999]) (rest := []) sameC X Z (cX3_readNumber_c l e43) (oX3 k157) rfl (gooV mB341 mB342 mB343 mB335 mB331) rfl (by decide +kernel) rfl ⟨Nat.le_of_ble_eq_true rfl, Nat.le_of_ble_eq_true rfl⟩ ⟨Nat.le_of_ble_eq_true rfl, Nat.le_of_ble_eq_true rfl⟩ hl.1 rfl (Nat.le_of_ble_eq_true rfl) dX3_readArguments_133 (fun w44 H locs Z => ?_)
        refine lv_if_eq (tgt := 143) hx hb dX3_readArguments_136 (by decide) (fun c47 => ?_) (fun c47 => ?_)
        · replace hm := (if_pos c47).symm.trans hm
          refine lv_iconst (v := 0) hx hb dX3_readArguments_143 (by decide) ?_
          obtain rfl := Option.some.inj hm
          exact kI _ _ _ _ dX3_readArguments_144 Z nb0
        · replace hm := (if_neg c47).symm.trans hm
          refine lv_iconst (v := 1) hx hb dX3_readArguments_139 (by decide) ?_
          refine lv_goto (tgt := 144) hx hb dX3_readArguments_140 (by decide) ?_
          obtain rfl := Option.some.inj hm
          exact kI _ _ _ _ dX3_readArguments_144 Z nb1
  replace hm := (if_neg c32).symm.trans hm
  refine lv_lookup (off := 141) (tgt := 145) hx hb dX3_readArguments_4 (by decide) ((lv_osw c1 rfl).trans ((lv_osw c6 rfl).trans ((lv_osw c11 rfl).trans ((lv_osw c27 rfl).trans ((lv_osw c32 rfl).trans rfl))))) (by decide) ?_
  refine lv_aload_n hx hb dX3_readArguments_145 rfl (lv_at hl 0 rfl) ?_
  refine lv_iconst (v := 0) hx hb dX3_readArguments_146 (by decide) ?_
  refine lv_iconst (v := 0) hx hb dX3_readArguments_147 (by decide) ?_
  refine lv_bipush (v := 39) hx hb dX3_readArguments_148 (by decide) ?_
  obtain ⟨r50, g51, e48, hm⟩ := sBi2_some hm
  refine g_callVI (n := 3) (As := [.int 0, .int 0, .int 39]) (rest := []) sameC X Z (cX3_readNumber_c l e48) (oX3 k157) rfl (gooV mB341 mB342 mB343 mB335 mB331) rfl (by decide +kernel) rfl ⟨Nat.le_of_ble_eq_true rfl, Nat.le_of_ble_eq_true rfl⟩ ⟨Nat.le_of_ble_eq_true rfl, Nat.le_of_ble_eq_true rfl⟩ hl.1 rfl (Nat.le_of_ble_eq_true rfl) dX3_readArguments_150 (fun w49 H locs Z => ?_)
  obtain rfl := Option.some.inj hm
  exact kI _ _ _ _ dX3_readArguments_153 Z w49
theorem cX3_readArguments_c (l : Launch) {G : LY} {g : Mem} {n : Nat} {r : Int32 × Mem} (hm : sX3_readArguments n g = some r) : cI l yX3_readArguments wmX3_readArguments 3 65 .boolean wC G [.ref (G.1 157)] g r.1 r.2 :=
  mk_cI sameC (by decide +kernel) rfl (Nat.le_of_ble_eq_true rfl) (fun p e s m args below meth c A Q ls X kI hl Z => bX3_readArguments_0 X kI g  _ _ ls Z hl hm)
abbrev wmX3_readCommand : List Cond := Cond.code yX3_readCommand cX3_readCommand 1 (some .boolean) :: wA0
set_option maxHeartbeats 4000000 in
set_option maxRecDepth 100000 in
theorem bX3_readCommand_0 (X : gC p s m args meth c cX3_readCommand 1 wmX3_readCommand yX3_readCommand.cls (some .boolean) G A) {n : Nat} {r : Int32 × Mem} (kI : ∀ (pc : Nat) (ls : Array Slot) (H : Heap) (locs : List Loc), decode cX3_readCommand pc = .ok (.ireturn, 1) → WS wC G r.2 A s.heap H locs → narrow .boolean (.int r.1) = .int r.1 → W p l e { frames := 4, cells := 0, slots := 0, locals := 91 } s m args below meth c H locs 0 0 Q (F0 m pc ls [.int r.1])) : ∀ (g : Mem) (H : Heap) (locs : List Loc) (ls : Array Slot), WS wC G g A s.heap H locs → lv_has ls 1 [(0, .ref (G.1 157))] → sX3_readCommand n g = some r → W p l e { frames := 4, cells := 0, slots := 0, locals := 91 } s m args below meth c H locs 0 0 Q (F0 m 0 ls []) := by
  have hx := X.1
  have hb := X.2.1
  intro g H locs ls Z hl hm
  unfold sX3_readCommand at hm
  refine lv_aload_n hx hb dX3_readCommand_0 rfl (lv_at hl 0 rfl) ?_
  refine g_get (j := 3) (v := .int (g 157 3)) X Z (oX3 k157) (iB3 _) rfl (by decide) rfl (List.mem_cons_of_mem _ mB248) rfl dX3_readCommand_1 ?_
  refine lv_aload_n hx hb dX3_readCommand_4 rfl (lv_at hl 0 rfl) ?_
  refine g_get (j := 0) (v := .int (g 157 0)) X Z (oX3 k157) (iB3 _) rfl (by decide) rfl (List.mem_cons_of_mem _ mB245) rfl dX3_readCommand_5 ?_
  refine lv_icmp_ge (tgt := 28) hx hb dX3_readCommand_8 (by decide) (fun c1 => ?_) (fun c1 => ?_)
  · replace hm := (if_pos c1).symm.trans hm
    refine lv_iconst (v := 0) hx hb dX3_readCommand_28 (by decide) ?_
    obtain rfl := Option.some.inj hm
    exact kI _ _ _ _ dX3_readCommand_29 Z nb0
  · replace hm := (if_neg c1).symm.trans hm
    refine g_ldcS X dX3_readCommand_11 ?_
    refine lv_aload_n hx hb dX3_readCommand_13 rfl (lv_at hl 0 rfl) ?_
    refine g_get (j := 4) (v := .ref (G.1 159)) X Z (oX3 k157) (iB3 _) rfl (by decide) rfl (List.mem_cons_of_mem _ mB243) rfl dX3_readCommand_14 ?_
    refine lv_aload_n hx hb dX3_readCommand_17 rfl (lv_at hl 0 rfl) ?_
    refine g_get (j := 3) (v := .int (g 157 3)) X Z (oX3 k157) (iB3 _) rfl (by decide) rfl (List.mem_cons_of_mem _ mB248) rfl dX3_readCommand_18 ?_
    obtain ⟨b2, hm⟩ := sIdx_some hm
    refine g_cald X Z (aC k159) b2 dX3_readCommand_21 ?_
    obtain ⟨r5, e3, hm⟩ := sBi_some hm
    refine g_callStr (n := 1) (As := [.int (g 159 (g 157 3).toNatClampNeg)]) (rest := []) sameC X Z (cJ0_indexOf_0f7a4_c l e3) (gooV mB353 mB354 mB355 mB258 mB329) rfl (by decide +kernel) rfl ⟨Nat.le_of_ble_eq_true rfl, Nat.le_of_ble_eq_true rfl⟩ ⟨Nat.le_of_ble_eq_true rfl, Nat.le_of_ble_eq_true rfl⟩ hl.1 rfl (Nat.le_of_ble_eq_true rfl) dX3_readCommand_22 (fun w4 H locs Z => ?_)
    refine lv_if_ge (tgt := 30) hx hb dX3_readCommand_25 (by decide) (fun c6 => ?_) (fun c6 => ?_)
    · replace hm := (if_pos c6).symm.trans hm
      refine lv_aload_n hx hb dX3_readCommand_30 rfl (lv_at hl 0 rfl) ?_
      refine lv_aload_n hx hb dX3_readCommand_31 rfl (lv_at hl 0 rfl) ?_
      refine g_get (j := 4) (v := .ref (G.1 159)) X Z (oX3 k157) (iB3 _) rfl (by decide) rfl (List.mem_cons_of_mem _ mB243) rfl dX3_readCommand_32 ?_
      refine lv_aload_n hx hb dX3_readCommand_35 rfl (lv_at hl 0 rfl) ?_
      refine g_get (j := 3) (v := .int (g 157 3)) X Z (oX3 k157) (iB3 _) rfl (by decide) rfl (List.mem_cons_of_mem _ mB248) rfl dX3_readCommand_36 ?_
      obtain ⟨b7, hm⟩ := sIdx_some hm
      refine g_cald X Z (aC k159) b7 dX3_readCommand_39 ?_
      obtain ⟨g8, eg8, hm⟩ := sLet_some hm
      refine g_put (j := 1) eg8 X Z (oX3 k157) (iB3 _) rfl tyX3_ok nmX3 (by decide) rfl rfl (Nat.le_of_ble_eq_true rfl) (p3_1 G g (g 159 (g 157 3).toNatClampNeg)) rfl (List.mem_cons_of_mem _ mB345) dX3_readCommand_40 (fun H locs Z => ?_)
      refine lv_aload_n hx hb dX3_readCommand_43 rfl (lv_at hl 0 rfl) ?_
      refine lv_dup hx hb dX3_readCommand_44 rfl ?_
      refine g_get (j := 3) (v := .int (g8 157 3)) X Z (oX3 k157) (iB3 _) rfl (by decide) rfl (List.mem_cons_of_mem _ mB248) rfl dX3_readCommand_45 ?_
      refine lv_iconst (v := 1) hx hb dX3_readCommand_48 (by decide) ?_
      refine lv_iadd hx hb dX3_readCommand_49 ?_
      obtain ⟨g9, eg9, hm⟩ := sLet_some hm
      refine g_put (j := 3) eg9 X Z (oX3 k157) (iB3 _) rfl tyX3_ok nmX3 (by decide) rfl rfl (Nat.le_of_ble_eq_true rfl) (p3_3 G g8 ((g8 157 3) + (1 : Int32))) rfl (List.mem_cons_of_mem _ mB248) dX3_readCommand_50 (fun H locs Z => ?_)
      refine lv_aload_n hx hb dX3_readCommand_53 rfl (lv_at hl 0 rfl) ?_
      obtain ⟨r12, g13, e10, hm⟩ := sBi2_some hm
      refine g_callVI (n := 0) (As := []) (rest := []) sameC X Z (cX3_readArguments_c l e10) (oX3 k157) rfl (gooV mB356 mB357 mB358 mB335 mB352) rfl (by decide +kernel) rfl ⟨Nat.le_of_ble_eq_true rfl, Nat.le_of_ble_eq_true rfl⟩ ⟨Nat.le_of_ble_eq_true rfl, Nat.le_of_ble_eq_true rfl⟩ hl.1 rfl (Nat.le_of_ble_eq_true rfl) dX3_readCommand_54 (fun w11 H locs Z => ?_)
      obtain rfl := Option.some.inj hm
      exact kI _ _ _ _ dX3_readCommand_57 Z w11
    · replace hm := (if_neg c6).symm.trans hm
      refine lv_iconst (v := 0) hx hb dX3_readCommand_28 (by decide) ?_
      obtain rfl := Option.some.inj hm
      exact kI _ _ _ _ dX3_readCommand_29 Z nb0
theorem cX3_readCommand_c (l : Launch) {G : LY} {g : Mem} {n : Nat} {r : Int32 × Mem} (hm : sX3_readCommand n g = some r) : cI l yX3_readCommand wmX3_readCommand 4 91 .boolean wC G [.ref (G.1 157)] g r.1 r.2 :=
  mk_cI sameC (by decide +kernel) rfl (Nat.le_of_ble_eq_true rfl) (fun p e s m args below meth c A Q ls X kI hl Z => bX3_readCommand_0 X kI g  _ _ ls Z hl hm)
abbrev wmX3_findError : List Cond := Cond.code yX3_findError cX3_findError 2 (some .int) :: wA0
set_option maxHeartbeats 4000000 in
set_option maxRecDepth 100000 in
theorem bX3_findError_6 (X : gC p s m args meth c cX3_findError 2 wmX3_findError yX3_findError.cls (some .int) G A) {n : Nat} {r : Int32 × Mem} (kI : ∀ (pc : Nat) (ls : Array Slot) (H : Heap) (locs : List Loc), decode cX3_findError pc = .ok (.ireturn, 1) → WS wC G r.2 A s.heap H locs → narrow .int (.int r.1) = .int r.1 → W p l e { frames := 5, cells := 0, slots := 0, locals := 111 } s m args below meth c H locs 0 0 Q (F0 m pc ls [.int r.1])) : ∀ (f : Nat), ∀ (g : Mem) (x1 : Int32) (H : Heap) (locs : List Loc) (ls : Array Slot), WS wC G g A s.heap H locs → lv_has ls 2 [(0, .ref (G.1 157)), (1, .int x1)] → sX3_findError_6 n f g x1 = some r → W p l e { frames := 5, cells := 0, slots := 0, locals := 111 } s m args below meth c H locs 0 0 Q (F0 m 6 ls []) := by
  have hx := X.1
  have hb := X.2.1
  intro f
  induction f with
  | zero =>
    intro g x1 H locs ls Z hl hm
    cases hm
  | succ f ih =>
    intro g x1 H locs ls Z hl hm
    unfold sX3_findError_6 at hm
    refine lv_iload_n hx hb dX3_findError_6 rfl (lv_at hl 1 rfl) ?_
    refine lv_aload_n hx hb dX3_findError_7 rfl (lv_at hl 0 rfl) ?_
    refine g_get (j := 0) (v := .int (g 157 0)) X Z (oX3 k157) (iB3 _) rfl (by decide) rfl (List.mem_cons_of_mem _ mB245) rfl dX3_findError_8 ?_
    refine lv_icmp_ge (tgt := 59) hx hb dX3_findError_11 (by decide) (fun c1 => ?_) (fun c1 => ?_)
    · replace hm := (if_pos c1).symm.trans hm
      refine lv_aload_n hx hb dX3_findError_59 rfl (lv_at hl 0 rfl) ?_
      refine g_get (j := 3) (v := .int (g 157 3)) X Z (oX3 k157) (iB3 _) rfl (by decide) rfl (List.mem_cons_of_mem _ mB248) rfl dX3_findError_60 ?_
      obtain rfl := Option.some.inj hm
      exact kI _ _ _ _ dX3_findError_63 Z (vp_nar_int _)
    · replace hm := (if_neg c1).symm.trans hm
      refine lv_aload_n hx hb dX3_findError_14 rfl (lv_at hl 0 rfl) ?_
      obtain ⟨r4, g5, e2, hm⟩ := sBi2_some hm
      refine g_callVI (n := 0) (As := []) (rest := []) sameC X Z (cX3_readCommand_c l e2) (oX3 k157) rfl (gooV mB363 mB364 mB365 mB335 mB359) rfl (by decide +kernel) rfl ⟨Nat.le_of_ble_eq_true rfl, Nat.le_of_ble_eq_true rfl⟩ ⟨Nat.le_of_ble_eq_true rfl, Nat.le_of_ble_eq_true rfl⟩ hl.1 rfl (Nat.le_of_ble_eq_true rfl) dX3_findError_15 (fun w3 H locs Z => ?_)
      refine lv_if_ne (tgt := 26) hx hb dX3_findError_18 (by decide) (fun c6 => ?_) (fun c6 => ?_)
      · replace hm := (if_neg c6).symm.trans hm
        refine lv_aload_n hx hb dX3_findError_26 rfl (lv_at hl 0 rfl) ?_
        refine g_get (j := 3) (v := .int (g5 157 3)) X Z (oX3 k157) (iB3 _) rfl (by decide) rfl (List.mem_cons_of_mem _ mB248) rfl dX3_findError_27 ?_
        refine lv_aload_n hx hb dX3_findError_30 rfl (lv_at hl 0 rfl) ?_
        refine g_get (j := 0) (v := .int (g5 157 0)) X Z (oX3 k157) (iB3 _) rfl (by decide) rfl (List.mem_cons_of_mem _ mB245) rfl dX3_findError_31 ?_
        refine lv_icmp_ne (tgt := 39) hx hb dX3_findError_34 (by decide) (fun c7 => ?_) (fun c7 => ?_)
        · replace hm := (if_neg c7).symm.trans hm
          refine lv_aload_n hx hb dX3_findError_39 rfl (lv_at hl 0 rfl) ?_
          refine lv_bipush (v := 59) hx hb dX3_findError_40 (by decide) ?_
          obtain ⟨r10, g11, e8, hm⟩ := sBi2_some hm
          refine g_callVI (n := 1) (As := [.int 59]) (rest := []) sameC X Z (cX3_take_c l e8) (oX3 k157) rfl (gooV mB338 mB339 mB340 mB335 mB336) rfl (by decide +kernel) rfl ⟨Nat.le_of_ble_eq_true rfl, Nat.le_of_ble_eq_true rfl⟩ ⟨Nat.le_of_ble_eq_true rfl, Nat.le_of_ble_eq_true rfl⟩ hl.1 rfl (Nat.le_of_ble_eq_true rfl) dX3_findError_42 (fun w9 H locs Z => ?_)
          refine lv_if_ne (tgt := 53) hx hb dX3_findError_45 (by decide) (fun c12 => ?_) (fun c12 => ?_)
          · replace hm := (if_neg c12).symm.trans hm
            refine lv_iinc (v := (x1 + (1 : Int32))) (lv' := [(1, .int (x1 + (1 : Int32))), (0, .ref (G.1 157))]) hx hb dX3_findError_53 hl (k := 1) rfl rfl (by decide) rfl (fun ls hl => ?_)
            refine lv_goto (tgt := 6) hx hb dX3_findError_56 (by decide) ?_
            exact ih g11 (x1 + (1 : Int32)) _ _ _ Z (lv_sub hl [1, 0] rfl) hm
          · replace hm := (if_pos c12).symm.trans hm
            refine lv_aload_n hx hb dX3_findError_48 rfl (lv_at hl 0 rfl) ?_
            refine g_get (j := 3) (v := .int (g11 157 3)) X Z (oX3 k157) (iB3 _) rfl (by decide) rfl (List.mem_cons_of_mem _ mB248) rfl dX3_findError_49 ?_
            obtain rfl := Option.some.inj hm
            exact kI _ _ _ _ dX3_findError_52 Z (vp_nar_int _)
        · replace hm := (if_pos c7).symm.trans hm
          refine lv_iconst (v := (-1)) hx hb dX3_findError_37 (by decide) ?_
          obtain rfl := Option.some.inj hm
          exact kI _ _ _ _ dX3_findError_38 Z (vp_nar_int _)
      · replace hm := (if_pos c6).symm.trans hm
        refine lv_aload_n hx hb dX3_findError_21 rfl (lv_at hl 0 rfl) ?_
        refine g_get (j := 3) (v := .int (g5 157 3)) X Z (oX3 k157) (iB3 _) rfl (by decide) rfl (List.mem_cons_of_mem _ mB248) rfl dX3_findError_22 ?_
        obtain rfl := Option.some.inj hm
        exact kI _ _ _ _ dX3_findError_25 Z (vp_nar_int _)
set_option maxHeartbeats 4000000 in
set_option maxRecDepth 100000 in
theorem bX3_findError_0 (X : gC p s m args meth c cX3_findError 2 wmX3_findError yX3_findError.cls (some .int) G A) {n : Nat} {r : Int32 × Mem} (kI : ∀ (pc : Nat) (ls : Array Slot) (H : Heap) (locs : List Loc), decode cX3_findError pc = .ok (.ireturn, 1) → WS wC G r.2 A s.heap H locs → narrow .int (.int r.1) = .int r.1 → W p l e { frames := 5, cells := 0, slots := 0, locals := 111 } s m args below meth c H locs 0 0 Q (F0 m pc ls [.int r.1])) : ∀ (g : Mem) (H : Heap) (locs : List Loc) (ls : Array Slot), WS wC G g A s.heap H locs → lv_has ls 2 [(0, .ref (G.1 157))] → sX3_findError n g = some r → W p l e { frames := 5, cells := 0, slots := 0, locals := 111 } s m args below meth c H locs 0 0 Q (F0 m 0 ls []) := by
  have hx := X.1
  have hb := X.2.1
  intro g H locs ls Z hl hm
  unfold sX3_findError at hm
  refine lv_aload_n hx hb dX3_findError_0 rfl (lv_at hl 0 rfl) ?_
  obtain ⟨g3, e1, hm⟩ := sBi_some hm
  refine g_callVV (n := 0) (As := []) (rest := []) sameC X Z (cX3_rewind_c l e1) (oX3 k157) rfl (gooV mB360 mB361 mB362 mB335 mB247) rfl (by decide +kernel) rfl ⟨Nat.le_of_ble_eq_true rfl, Nat.le_of_ble_eq_true rfl⟩ ⟨Nat.le_of_ble_eq_true rfl, Nat.le_of_ble_eq_true rfl⟩ hl.1 rfl (Nat.le_of_ble_eq_true rfl) dX3_findError_1 (fun H locs Z => ?_)
  refine lv_iconst (v := 0) hx hb dX3_findError_4 (by decide) ?_
  refine lv_istore_n (lv' := [(1, .int 0), (0, .ref (G.1 157))]) hx hb dX3_findError_5 rfl hl (by decide) rfl (fun ls hl => ?_)
  exact bX3_findError_6 X kI n g3 (0 : Int32) _ _ _ Z (lv_sub hl [1, 0] rfl) hm
theorem cX3_findError_c (l : Launch) {G : LY} {g : Mem} {n : Nat} {r : Int32 × Mem} (hm : sX3_findError n g = some r) : cI l yX3_findError wmX3_findError 5 111 .int wC G [.ref (G.1 157)] g r.1 r.2 :=
  mk_cI sameC (by decide +kernel) rfl (Nat.le_of_ble_eq_true rfl) (fun p e s m args below meth c A Q ls X kI hl Z => bX3_findError_0 X kI g  _ _ ls Z hl hm)
abbrev wmX3_readNextCommand : List Cond := Cond.code yX3_readNextCommand cX3_readNextCommand 1 (some .boolean) :: wA0
set_option maxHeartbeats 4000000 in
set_option maxRecDepth 100000 in
theorem bX3_readNextCommand_0 (X : gC p s m args meth c cX3_readNextCommand 1 wmX3_readNextCommand yX3_readNextCommand.cls (some .boolean) G A) {n : Nat} {r : Int32 × Mem} (kI : ∀ (pc : Nat) (ls : Array Slot) (H : Heap) (locs : List Loc), decode cX3_readNextCommand pc = .ok (.ireturn, 1) → WS wC G r.2 A s.heap H locs → narrow .boolean (.int r.1) = .int r.1 → W p l e { frames := 5, cells := 0, slots := 0, locals := 111 } s m args below meth c H locs 0 0 Q (F0 m pc ls [.int r.1])) : ∀ (g : Mem) (H : Heap) (locs : List Loc) (ls : Array Slot), WS wC G g A s.heap H locs → lv_has ls 1 [(0, .ref (G.1 157))] → sX3_readNextCommand n g = some r → W p l e { frames := 5, cells := 0, slots := 0, locals := 111 } s m args below meth c H locs 0 0 Q (F0 m 0 ls []) := by
  have hx := X.1
  have hb := X.2.1
  intro g H locs ls Z hl hm
  unfold sX3_readNextCommand at hm
  refine lv_aload_n hx hb dX3_readNextCommand_0 rfl (lv_at hl 0 rfl) ?_
  refine lv_bipush (v := 59) hx hb dX3_readNextCommand_1 (by decide) ?_
  obtain ⟨r3, g4, e1, hm⟩ := sBi2_some hm
  refine g_callVI (n := 1) (As := [.int 59]) (rest := []) sameC X Z (cX3_take_c l e1) (oX3 k157) rfl (gooV mB338 mB339 mB340 mB335 mB336) rfl (by decide +kernel) rfl ⟨Nat.le_of_ble_eq_true rfl, Nat.le_of_ble_eq_true rfl⟩ ⟨Nat.le_of_ble_eq_true rfl, Nat.le_of_ble_eq_true rfl⟩ hl.1 rfl (Nat.le_of_ble_eq_true rfl) dX3_readNextCommand_3 (fun w2 H locs Z => ?_)
  refine lv_pop hx hb dX3_readNextCommand_6 rfl ?_
  refine lv_aload_n hx hb dX3_readNextCommand_7 rfl (lv_at hl 0 rfl) ?_
  obtain ⟨r7, g8, e5, hm⟩ := sBi2_some hm
  refine g_callVI (n := 0) (As := []) (rest := []) sameC X Z (cX3_readCommand_c l e5) (oX3 k157) rfl (gooV mB363 mB364 mB365 mB335 mB359) rfl (by decide +kernel) rfl ⟨Nat.le_of_ble_eq_true rfl, Nat.le_of_ble_eq_true rfl⟩ ⟨Nat.le_of_ble_eq_true rfl, Nat.le_of_ble_eq_true rfl⟩ hl.1 rfl (Nat.le_of_ble_eq_true rfl) dX3_readNextCommand_8 (fun w6 H locs Z => ?_)
  obtain rfl := Option.some.inj hm
  exact kI _ _ _ _ dX3_readNextCommand_11 Z w6
theorem cX3_readNextCommand_c (l : Launch) {G : LY} {g : Mem} {n : Nat} {r : Int32 × Mem} (hm : sX3_readNextCommand n g = some r) : cI l yX3_readNextCommand wmX3_readNextCommand 5 111 .boolean wC G [.ref (G.1 157)] g r.1 r.2 :=
  mk_cI sameC (by decide +kernel) rfl (Nat.le_of_ble_eq_true rfl) (fun p e s m args below meth c A Q ls X kI hl Z => bX3_readNextCommand_0 X kI g  _ _ ls Z hl hm)
end GW
