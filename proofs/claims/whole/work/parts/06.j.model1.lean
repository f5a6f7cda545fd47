section GW
variable {Qc : Array Value → State → Outcome → State → Prop} {XC : String → State → State → Prop} {p : Program} {l : Launch} {e : Env} {s : State} {m : MethodId} {args : Array Value} {below : List Frame} {meth : Method} {c : Code} {Q : State → Prop} {G : LY} {A : Nat → Prop}
abbrev wmX7_thrown : List Cond := Cond.code yX7_thrown cX7_thrown 1 (some .int) :: wA0
set_option maxHeartbeats 4000000 in
set_option maxRecDepth 100000 in
theorem bX7_thrown_0 (X : gC p s m args meth c cX7_thrown 1 wmX7_thrown yX7_thrown.cls (some .int) G A) {g : Mem} {r : Int32} (kI : ∀ (pc : Nat) (ls : Array Slot) (H : Heap) (locs : List Loc), decode cX7_thrown pc = .ok (.ireturn, 1) → WS wM G g A s.heap H locs → narrow .int (.int r) = .int r → W p l e { frames := 0, cells := 0, slots := 0, locals := 0 } s m args below meth c H locs 0 0 Q (F0 m pc ls [.int r])) : ∀ (H : Heap) (locs : List Loc) (ls : Array Slot), WS wM G g A s.heap H locs → lv_has ls 1 [(0, .ref (G.1 0))] → sX7_thrown g = some r → W p l e { frames := 0, cells := 0, slots := 0, locals := 0 } s m args below meth c H locs 0 0 Q (F0 m 0 ls []) := by
  have hx := X.1
  have hb := X.2.1
  intro H locs ls Z hl hm
  unfold sX7_thrown at hm
  refine lv_aload_n hx hb dX7_thrown_0 rfl (lv_at hl 0 rfl) ?_
  refine g_get (j := 7) (v := .int (g 0 7)) X Z oX7 (iB7 _) rfl (by decide) rfl (List.mem_cons_of_mem _ mB608) rfl dX7_thrown_1 ?_
  obtain rfl := Option.some.inj hm
  exact kI _ _ _ _ dX7_thrown_4 Z (vp_nar_int _)
theorem cX7_thrown_c (l : Launch) {G : LY} {g : Mem} {r : Int32} (hm : sX7_thrown g = some r) : cI l yX7_thrown wmX7_thrown 0 0 .int wM G [.ref (G.1 0)] g r g :=
  mk_cI sameM (by decide +kernel) rfl (Nat.le_of_ble_eq_true rfl) (fun p e s m args below meth c A Q ls X kI hl Z => bX7_thrown_0 X kI  _ _ ls Z hl hm)
abbrev wmX7_throwsAt : List Cond := Cond.code yX7_throwsAt cX7_throwsAt 2 (some .boolean) :: wA0
set_option maxHeartbeats 4000000 in
set_option maxRecDepth 100000 in
theorem bX7_throwsAt_0 (X : gC p s m args meth c cX7_throwsAt 2 wmX7_throwsAt yX7_throwsAt.cls (some .boolean) G A) {r : Int32 × Mem} (kI : ∀ (pc : Nat) (ls : Array Slot) (H : Heap) (locs : List Loc), decode cX7_throwsAt pc = .ok (.ireturn, 1) → WS wM G r.2 A s.heap H locs → narrow .boolean (.int r.1) = .int r.1 → W p l e { frames := 0, cells := 0, slots := 0, locals := 0 } s m args below meth c H locs 0 0 Q (F0 m pc ls [.int r.1])) : ∀ (g : Mem) (x1 : Int32) (H : Heap) (locs : List Loc) (ls : Array Slot), WS wM G g A s.heap H locs → lv_has ls 2 [(0, .ref (G.1 0)), (1, .int x1)] → sX7_throwsAt g x1 = some r → W p l e { frames := 0, cells := 0, slots := 0, locals := 0 } s m args below meth c H locs 0 0 Q (F0 m 0 ls []) := by
  have hx := X.1
  have hb := X.2.1
  intro g x1 H locs ls Z hl hm
  unfold sX7_throwsAt at hm
  refine lv_aload_n hx hb dX7_throwsAt_0 rfl (lv_at hl 0 rfl) ?_
  refine lv_iload_n hx hb dX7_throwsAt_1 rfl (lv_at hl 1 rfl) ?_
  obtain ⟨g1, eg1, hm⟩ := sLet_some hm
  refine g_put (j := 7) eg1 X Z oX7 (iB7 _) rfl tyX7_ok nmX7 (by decide) rfl rfl (Nat.le_of_ble_eq_true rfl) (p7_7 G g x1) rfl (List.mem_cons_of_mem _ mB608) dX7_throwsAt_2 (fun H locs Z => ?_)
  refine lv_iload_n hx hb dX7_throwsAt_5 rfl (lv_at hl 1 rfl) ?_
  refine lv_if_le (tgt := 13) hx hb dX7_throwsAt_6 (by decide) (fun c2 => ?_) (fun c2 => ?_)
  · replace hm := (if_pos c2).symm.trans hm
    refine lv_iconst (v := 0) hx hb dX7_throwsAt_13 (by decide) ?_
    obtain rfl := Option.some.inj hm
    exact kI _ _ _ _ dX7_throwsAt_14 Z nb0
  · replace hm := (if_neg c2).symm.trans hm
    refine lv_iconst (v := 1) hx hb dX7_throwsAt_9 (by decide) ?_
    refine lv_goto (tgt := 14) hx hb dX7_throwsAt_10 (by decide) ?_
    obtain rfl := Option.some.inj hm
    exact kI _ _ _ _ dX7_throwsAt_14 Z nb1
theorem cX7_throwsAt_c (l : Launch) {G : LY} {g : Mem} {x1 : Int32} {r : Int32 × Mem} (hm : sX7_throwsAt g x1 = some r) : cI l yX7_throwsAt wmX7_throwsAt 0 0 .boolean wM G [.ref (G.1 0), .int x1] g r.1 r.2 :=
  mk_cI sameM (by decide +kernel) rfl (Nat.le_of_ble_eq_true rfl) (fun p e s m args below meth c A Q ls X kI hl Z => bX7_throwsAt_0 X kI g x1 _ _ ls Z hl hm)
abbrev wmX7_in : List Cond := Cond.code yX7_in cX7_in 3 (some .boolean) :: wA0
set_option maxHeartbeats 4000000 in
set_option maxRecDepth 100000 in
theorem bX7_in_0 (X : gC p s m args meth c cX7_in 3 wmX7_in yX7_in.cls (some .boolean) G A) {g : Mem} {r : Int32} (kI : ∀ (pc : Nat) (ls : Array Slot) (H : Heap) (locs : List Loc), decode cX7_in pc = .ok (.ireturn, 1) → WS wM G g A s.heap H locs → narrow .boolean (.int r) = .int r → W p l e { frames := 0, cells := 0, slots := 0, locals := 0 } s m args below meth c H locs 0 0 Q (F0 m pc ls [.int r])) : ∀ (x0 : Int32) (x1 : Int32) (x2 : Int32) (H : Heap) (locs : List Loc) (ls : Array Slot), WS wM G g A s.heap H locs → lv_has ls 3 [(0, .int x0), (1, .int x1), (2, .int x2)] → sX7_in g x0 x1 x2 = some r → W p l e { frames := 0, cells := 0, slots := 0, locals := 0 } s m args below meth c H locs 0 0 Q (F0 m 0 ls []) := by
  have hx := X.1
  have hb := X.2.1
  intro x0 x1 x2 H locs ls Z hl hm
  unfold sX7_in at hm
  refine lv_iload_n hx hb dX7_in_0 rfl (lv_at hl 0 rfl) ?_
  refine lv_iload_n hx hb dX7_in_1 rfl (lv_at hl 1 rfl) ?_
  refine lv_icmp_lt (tgt := 14) hx hb dX7_in_2 (by decide) (fun c1 => ?_) (fun c1 => ?_)
  · replace hm := (if_pos c1).symm.trans hm
    refine lv_iconst (v := 0) hx hb dX7_in_14 (by decide) ?_
    obtain rfl := Option.some.inj hm
    exact kI _ _ _ _ dX7_in_15 Z nb0
  · replace hm := (if_neg c1).symm.trans hm
    refine lv_iload_n hx hb dX7_in_5 rfl (lv_at hl 0 rfl) ?_
    refine lv_iload_n hx hb dX7_in_6 rfl (lv_at hl 2 rfl) ?_
    refine lv_icmp_gt (tgt := 14) hx hb dX7_in_7 (by decide) (fun c2 => ?_) (fun c2 => ?_)
    · replace hm := (if_pos c2).symm.trans hm
      refine lv_iconst (v := 0) hx hb dX7_in_14 (by decide) ?_
      obtain rfl := Option.some.inj hm
      exact kI _ _ _ _ dX7_in_15 Z nb0
    · replace hm := (if_neg c2).symm.trans hm
      refine lv_iconst (v := 1) hx hb dX7_in_10 (by decide) ?_
      refine lv_goto (tgt := 15) hx hb dX7_in_11 (by decide) ?_
      obtain rfl := Option.some.inj hm
      exact kI _ _ _ _ dX7_in_15 Z nb1
theorem cX7_in_c (l : Launch) {G : LY} {g : Mem} {x0 : Int32} {x1 : Int32} {x2 : Int32} {r : Int32} (hm : sX7_in g x0 x1 x2 = some r) : cI l yX7_in wmX7_in 0 0 .boolean wM G [.int x0, .int x1, .int x2] g r g :=
  mk_cI sameM (by decide +kernel) rfl (Nat.le_of_ble_eq_true rfl) (fun p e s m args below meth c A Q ls X kI hl Z => bX7_in_0 X kI x0 x1 x2 _ _ ls Z hl hm)
abbrev wmX7_isServer : List Cond := Cond.code yX7_isServer cX7_isServer 1 (some .boolean) :: wA0
set_option maxHeartbeats 4000000 in
set_option maxRecDepth 100000 in
theorem bX7_isServer_0 (X : gC p s m args meth c cX7_isServer 1 wmX7_isServer yX7_isServer.cls (some .boolean) G A) {g : Mem} {r : Int32} (kI : ∀ (pc : Nat) (ls : Array Slot) (H : Heap) (locs : List Loc), decode cX7_isServer pc = .ok (.ireturn, 1) → WS wM G g A s.heap H locs → narrow .boolean (.int r) = .int r → W p l e { frames := 1, cells := 0, slots := 0, locals := 22 } s m args below meth c H locs 0 0 Q (F0 m pc ls [.int r])) : ∀ (x0 : Int32) (H : Heap) (locs : List Loc) (ls : Array Slot), WS wM G g A s.heap H locs → lv_has ls 1 [(0, .int x0)] → sX7_isServer g x0 = some r → W p l e { frames := 1, cells := 0, slots := 0, locals := 22 } s m args below meth c H locs 0 0 Q (F0 m 0 ls []) := by
  have hx := X.1
  have hb := X.2.1
  intro x0 H locs ls Z hl hm
  unfold sX7_isServer at hm
  refine lv_iload_n hx hb dX7_isServer_0 rfl (lv_at hl 0 rfl) ?_
  refine lv_iconst (v := 0) hx hb dX7_isServer_1 (by decide) ?_
  refine lv_iconst (v := 2) hx hb dX7_isServer_2 (by decide) ?_
  obtain ⟨r3, e1, hm⟩ := sBi_some hm
  refine g_callSI (n := 3) (As := [.int x0, .int 0, .int 2]) (rest := []) sameM X Z (cX7_in_c l e1) (gooS mB612 mB613 mB614 mB610) rfl (by decide +kernel) rfl ⟨Nat.le_of_ble_eq_true rfl, Nat.le_of_ble_eq_true rfl⟩ ⟨Nat.le_of_ble_eq_true rfl, Nat.le_of_ble_eq_true rfl⟩ hl.1 rfl (Nat.le_of_ble_eq_true rfl) dX7_isServer_3 (fun w2 H locs Z => ?_)
  obtain rfl := Option.some.inj hm
  exact kI _ _ _ _ dX7_isServer_6 Z w2
theorem cX7_isServer_c (l : Launch) {G : LY} {g : Mem} {x0 : Int32} {r : Int32} (hm : sX7_isServer g x0 = some r) : cI l yX7_isServer wmX7_isServer 1 22 .boolean wM G [.int x0] g r g :=
  mk_cI sameM (by decide +kernel) rfl (Nat.le_of_ble_eq_true rfl) (fun p e s m args below meth c A Q ls X kI hl Z => bX7_isServer_0 X kI x0 _ _ ls Z hl hm)
abbrev wmX7_isKey : List Cond := Cond.code yX7_isKey cX7_isKey 1 (some .boolean) :: wA0
set_option maxHeartbeats 4000000 in
set_option maxRecDepth 100000 in
theorem bX7_isKey_0 (X : gC p s m args meth c cX7_isKey 1 wmX7_isKey yX7_isKey.cls (some .boolean) G A) {g : Mem} {r : Int32} (kI : ∀ (pc : Nat) (ls : Array Slot) (H : Heap) (locs : List Loc), decode cX7_isKey pc = .ok (.ireturn, 1) → WS wM G g A s.heap H locs → narrow .boolean (.int r) = .int r → W p l e { frames := 1, cells := 0, slots := 0, locals := 22 } s m args below meth c H locs 0 0 Q (F0 m pc ls [.int r])) : ∀ (x0 : Int32) (H : Heap) (locs : List Loc) (ls : Array Slot), WS wM G g A s.heap H locs → lv_has ls 1 [(0, .int x0)] → sX7_isKey g x0 = some r → W p l e { frames := 1, cells := 0, slots := 0, locals := 22 } s m args below meth c H locs 0 0 Q (F0 m 0 ls []) := by
  have hx := X.1
  have hb := X.2.1
  intro x0 H locs ls Z hl hm
  unfold sX7_isKey at hm
  refine lv_iload_n hx hb dX7_isKey_0 rfl (lv_at hl 0 rfl) ?_
  refine lv_iconst (v := 0) hx hb dX7_isKey_1 (by decide) ?_
  refine lv_bipush (v := 7) hx hb dX7_isKey_2 (by decide) ?_
  obtain ⟨r3, e1, hm⟩ := sBi_some hm
  refine g_callSI (n := 3) (As := [.int x0, .int 0, .int 7]) (rest := []) sameM X Z (cX7_in_c l e1) (gooS mB612 mB613 mB614 mB610) rfl (by decide +kernel) rfl ⟨Nat.le_of_ble_eq_true rfl, Nat.le_of_ble_eq_true rfl⟩ ⟨Nat.le_of_ble_eq_true rfl, Nat.le_of_ble_eq_true rfl⟩ hl.1 rfl (Nat.le_of_ble_eq_true rfl) dX7_isKey_4 (fun w2 H locs Z => ?_)
  obtain rfl := Option.some.inj hm
  exact kI _ _ _ _ dX7_isKey_7 Z w2
theorem cX7_isKey_c (l : Launch) {G : LY} {g : Mem} {x0 : Int32} {r : Int32} (hm : sX7_isKey g x0 = some r) : cI l yX7_isKey wmX7_isKey 1 22 .boolean wM G [.int x0] g r g :=
  mk_cI sameM (by decide +kernel) rfl (Nat.le_of_ble_eq_true rfl) (fun p e s m args below meth c A Q ls X kI hl Z => bX7_isKey_0 X kI x0 _ _ ls Z hl hm)
abbrev wmX7_isTransaction : List Cond := Cond.code yX7_isTransaction cX7_isTransaction 2 (some .boolean) :: wA0
set_option maxHeartbeats 4000000 in
set_option maxRecDepth 100000 in
theorem bX7_isTransaction_0 (X : gC p s m args meth c cX7_isTransaction 2 wmX7_isTransaction yX7_isTransaction.cls (some .boolean) G A) {g : Mem} {r : Int32} (kI : ∀ (pc : Nat) (ls : Array Slot) (H : Heap) (locs : List Loc), decode cX7_isTransaction pc = .ok (.ireturn, 1) → WS wM G g A s.heap H locs → narrow .boolean (.int r) = .int r → W p l e { frames := 1, cells := 0, slots := 0, locals := 22 } s m args below meth c H locs 0 0 Q (F0 m pc ls [.int r])) : ∀ (x1 : Int32) (H : Heap) (locs : List Loc) (ls : Array Slot), WS wM G g A s.heap H locs → lv_has ls 2 [(0, .ref (G.1 0)), (1, .int x1)] → sX7_isTransaction g x1 = some r → W p l e { frames := 1, cells := 0, slots := 0, locals := 22 } s m args below meth c H locs 0 0 Q (F0 m 0 ls []) := by
  have hx := X.1
  have hb := X.2.1
  intro x1 H locs ls Z hl hm
  unfold sX7_isTransaction at hm
  refine lv_iload_n hx hb dX7_isTransaction_0 rfl (lv_at hl 1 rfl) ?_
  refine lv_iconst (v := 0) hx hb dX7_isTransaction_1 (by decide) ?_
  refine lv_aload_n hx hb dX7_isTransaction_2 rfl (lv_at hl 0 rfl) ?_
  refine g_get (j := 0) (v := .ref (G.1 1)) X Z oX7 (iB7 _) rfl (by decide) rfl (List.mem_cons_of_mem _ mB602) rfl dX7_isTransaction_3 ?_
  refine lv_iconst (v := 3) hx hb dX7_isTransaction_6 (by decide) ?_
  obtain ⟨b1, hm⟩ := sIdx_some hm
  refine g_iald X Z aM1 b1 dX7_isTransaction_7 ?_
  refine lv_iconst (v := 1) hx hb dX7_isTransaction_8 (by decide) ?_
  refine lv_isub hx hb dX7_isTransaction_9 ?_
  obtain ⟨r4, e2, hm⟩ := sBi_some hm
  refine g_callSI (n := 3) (As := [.int x1, .int 0, .int ((g 1 (3 : Int32).toNatClampNeg) - (1 : Int32))]) (rest := []) sameM X Z (cX7_in_c l e2) (gooS mB612 mB613 mB614 mB610) rfl (by decide +kernel) rfl ⟨Nat.le_of_ble_eq_true rfl, Nat.le_of_ble_eq_true rfl⟩ ⟨Nat.le_of_ble_eq_true rfl, Nat.le_of_ble_eq_true rfl⟩ hl.1 rfl (Nat.le_of_ble_eq_true rfl) dX7_isTransaction_10 (fun w3 H locs Z => ?_)
  obtain rfl := Option.some.inj hm
  exact kI _ _ _ _ dX7_isTransaction_13 Z w3
theorem cX7_isTransaction_c (l : Launch) {G : LY} {g : Mem} {x1 : Int32} {r : Int32} (hm : sX7_isTransaction g x1 = some r) : cI l yX7_isTransaction wmX7_isTransaction 1 22 .boolean wM G [.ref (G.1 0), .int x1] g r g :=
  mk_cI sameM (by decide +kernel) rfl (Nat.le_of_ble_eq_true rfl) (fun p e s m args below meth c A Q ls X kI hl Z => bX7_isTransaction_0 X kI x1 _ _ ls Z hl hm)
abbrev wmX7_greater : List Cond := Cond.code yX7_greater cX7_greater 2 (some .int) :: wA0
set_option maxHeartbeats 4000000 in
set_option maxRecDepth 100000 in
theorem bX7_greater_0 (X : gC p s m args meth c cX7_greater 2 wmX7_greater yX7_greater.cls (some .int) G A) {g : Mem} {r : Int32} (kI : ∀ (pc : Nat) (ls : Array Slot) (H : Heap) (locs : List Loc), decode cX7_greater pc = .ok (.ireturn, 1) → WS wM G g A s.heap H locs → narrow .int (.int r) = .int r → W p l e { frames := 0, cells := 0, slots := 0, locals := 0 } s m args below meth c H locs 0 0 Q (F0 m pc ls [.int r])) : ∀ (x0 : Int32) (x1 : Int32) (H : Heap) (locs : List Loc) (ls : Array Slot), WS wM G g A s.heap H locs → lv_has ls 2 [(0, .int x0), (1, .int x1)] → sX7_greater g x0 x1 = some r → W p l e { frames := 0, cells := 0, slots := 0, locals := 0 } s m args below meth c H locs 0 0 Q (F0 m 0 ls []) := by
  have hx := X.1
  have hb := X.2.1
  intro x0 x1 H locs ls Z hl hm
  unfold sX7_greater at hm
  refine lv_iload_n hx hb dX7_greater_0 rfl (lv_at hl 0 rfl) ?_
  refine lv_iload_n hx hb dX7_greater_1 rfl (lv_at hl 1 rfl) ?_
  refine lv_icmp_le (tgt := 9) hx hb dX7_greater_2 (by decide) (fun c1 => ?_) (fun c1 => ?_)
  · replace hm := (if_pos c1).symm.trans hm
    refine lv_iload_n hx hb dX7_greater_9 rfl (lv_at hl 1 rfl) ?_
    obtain rfl := Option.some.inj hm
    exact kI _ _ _ _ dX7_greater_10 Z (vp_nar_int _)
  · replace hm := (if_neg c1).symm.trans hm
    refine lv_iload_n hx hb dX7_greater_5 rfl (lv_at hl 0 rfl) ?_
    refine lv_goto (tgt := 10) hx hb dX7_greater_6 (by decide) ?_
    obtain rfl := Option.some.inj hm
    exact kI _ _ _ _ dX7_greater_10 Z (vp_nar_int _)
theorem cX7_greater_c (l : Launch) {G : LY} {g : Mem} {x0 : Int32} {x1 : Int32} {r : Int32} (hm : sX7_greater g x0 x1 = some r) : cI l yX7_greater wmX7_greater 0 0 .int wM G [.int x0, .int x1] g r g :=
  mk_cI sameM (by decide +kernel) rfl (Nat.le_of_ble_eq_true rfl) (fun p e s m args below meth c A Q ls X kI hl Z => bX7_greater_0 X kI x0 x1 _ _ ls Z hl hm)
abbrev wmX7_saves : List Cond := Cond.code yX7_saves cX7_saves 2 none :: wA0
set_option maxHeartbeats 4000000 in
set_option maxRecDepth 100000 in
theorem bX7_saves_52 (X : gC p s m args meth c cX7_saves 2 wmX7_saves yX7_saves.cls none G A) {n : Nat} {r : Mem} (kI : ∀ (pc : Nat) (ls : Array Slot) (H : Heap) (locs : List Loc), decode cX7_saves pc = .ok (.return_, 1) → WS wM G r A s.heap H locs → W p l e { frames := 0, cells := 0, slots := 0, locals := 0 } s m args below meth c H locs 0 0 Q (F0 m pc ls [])) : ∀ (f : Nat), ∀ (g : Mem) (x1 : Int32) (H : Heap) (locs : List Loc) (ls : Array Slot), WS wM G g A s.heap H locs → lv_has ls 2 [(0, .ref (G.1 0)), (1, .int x1)] → sX7_saves_52 n f g x1 = some r → W p l e { frames := 0, cells := 0, slots := 0, locals := 0 } s m args below meth c H locs 0 0 Q (F0 m 52 ls []) := by
  have hx := X.1
  have hb := X.2.1
  intro f
  induction f with
  | zero =>
    intro g x1 H locs ls Z hl hm
    cases hm
  | succ f ih =>
    intro g x1 H locs ls Z hl hm
    unfold sX7_saves_52 at hm
    refine lv_iload_n hx hb dX7_saves_52 rfl (lv_at hl 1 rfl) ?_
    refine lv_sipush (v := 865) hx hb dX7_saves_53 (by decide) ?_
    refine lv_icmp_ge (tgt := 86) hx hb dX7_saves_56 (by decide) (fun c1 => ?_) (fun c1 => ?_)
    · replace hm := (if_pos c1).symm.trans hm
      refine lv_aload_n hx hb dX7_saves_86 rfl (lv_at hl 0 rfl) ?_
      refine lv_dup hx hb dX7_saves_87 rfl ?_
      refine g_get (j := 2) (v := .int (g 0 2)) X Z oX7 (iB7 _) rfl (by decide) rfl (List.mem_cons_of_mem _ mB619) rfl dX7_saves_88 ?_
      refine lv_iconst (v := 1) hx hb dX7_saves_91 (by decide) ?_
      refine lv_iadd hx hb dX7_saves_92 ?_
      obtain ⟨g2, eg2, hm⟩ := sLet_some hm
      refine g_put (j := 2) eg2 X Z oX7 (iB7 _) rfl tyX7_ok nmX7 (by decide) rfl rfl (Nat.le_of_ble_eq_true rfl) (p7_2 G g ((g 0 2) + (1 : Int32))) rfl (List.mem_cons_of_mem _ mB619) dX7_saves_93 (fun H locs Z => ?_)
      obtain rfl := Option.some.inj hm
      exact kI _ _ _ _ dX7_saves_96 Z
    · replace hm := (if_neg c1).symm.trans hm
      refine lv_aload_n hx hb dX7_saves_59 rfl (lv_at hl 0 rfl) ?_
      refine g_get (j := 1) (v := .ref (G.1 2)) X Z oX7 (iB7 _) rfl (by decide) rfl (List.mem_cons_of_mem _ mB603) rfl dX7_saves_60 ?_
      refine lv_sipush (v := 865) hx hb dX7_saves_63 (by decide) ?_
      refine lv_aload_n hx hb dX7_saves_66 rfl (lv_at hl 0 rfl) ?_
      refine g_get (j := 2) (v := .int (g 0 2)) X Z oX7 (iB7 _) rfl (by decide) rfl (List.mem_cons_of_mem _ mB619) rfl dX7_saves_67 ?_
      refine lv_imul hx hb dX7_saves_70 ?_
      refine lv_iload_n hx hb dX7_saves_71 rfl (lv_at hl 1 rfl) ?_
      refine lv_iadd hx hb dX7_saves_72 ?_
      refine lv_aload_n hx hb dX7_saves_73 rfl (lv_at hl 0 rfl) ?_
      refine g_get (j := 0) (v := .ref (G.1 1)) X Z oX7 (iB7 _) rfl (by decide) rfl (List.mem_cons_of_mem _ mB602) rfl dX7_saves_74 ?_
      refine lv_iload_n hx hb dX7_saves_77 rfl (lv_at hl 1 rfl) ?_
      obtain ⟨b3, hm⟩ := sIdx_some hm
      refine g_iald X Z aM1 b3 dX7_saves_78 ?_
      obtain ⟨b4, hm⟩ := sIdx_some hm
      obtain ⟨g5, eg5, hm⟩ := sLet_some hm
      refine g_iast eg5 X Z aM2 b4 dX7_saves_79 (fun H locs Z => ?_)
      refine lv_iinc (v := (x1 + (1 : Int32))) (lv' := [(1, .int (x1 + (1 : Int32))), (0, .ref (G.1 0))]) hx hb dX7_saves_80 hl (k := 1) rfl rfl (by decide) rfl (fun ls hl => ?_)
      refine lv_goto (tgt := 52) hx hb dX7_saves_83 (by decide) ?_
      exact ih g5 (x1 + (1 : Int32)) _ _ _ Z (lv_sub hl [1, 0] rfl) hm
set_option maxHeartbeats 4000000 in
set_option maxRecDepth 100000 in
theorem bX7_saves_11 (X : gC p s m args meth c cX7_saves 2 wmX7_saves yX7_saves.cls none G A) {n : Nat} {r : Mem} (kI : ∀ (pc : Nat) (ls : Array Slot) (H : Heap) (locs : List Loc), decode cX7_saves pc = .ok (.return_, 1) → WS wM G r A s.heap H locs → W p l e { frames := 0, cells := 0, slots := 0, locals := 0 } s m args below meth c H locs 0 0 Q (F0 m pc ls [])) : ∀ (f : Nat), ∀ (g : Mem) (x1 : Int32) (H : Heap) (locs : List Loc) (ls : Array Slot), WS wM G g A s.heap H locs → lv_has ls 2 [(0, .ref (G.1 0)), (1, .int x1)] → sX7_saves_11 n f g x1 = some r → W p l e { frames := 0, cells := 0, slots := 0, locals := 0 } s m args below meth c H locs 0 0 Q (F0 m 11 ls []) := by
  have hx := X.1
  have hb := X.2.1
  intro f
  induction f with
  | zero =>
    intro g x1 H locs ls Z hl hm
    cases hm
  | succ f ih =>
    intro g x1 H locs ls Z hl hm
    unfold sX7_saves_11 at hm
    refine lv_iload_n hx hb dX7_saves_11 rfl (lv_at hl 1 rfl) ?_
    refine lv_sipush (v := 4325) hx hb dX7_saves_12 (by decide) ?_
    refine lv_icmp_ge (tgt := 40) hx hb dX7_saves_15 (by decide) (fun c1 => ?_) (fun c1 => ?_)
    · replace hm := (if_pos c1).symm.trans hm
      refine lv_aload_n hx hb dX7_saves_40 rfl (lv_at hl 0 rfl) ?_
      refine lv_dup hx hb dX7_saves_41 rfl ?_
      refine g_get (j := 2) (v := .int (g 0 2)) X Z oX7 (iB7 _) rfl (by decide) rfl (List.mem_cons_of_mem _ mB619) rfl dX7_saves_42 ?_
      refine lv_iconst (v := 1) hx hb dX7_saves_45 (by decide) ?_
      refine lv_isub hx hb dX7_saves_46 ?_
      obtain ⟨g2, eg2, hm⟩ := sLet_some hm
      refine g_put (j := 2) eg2 X Z oX7 (iB7 _) rfl tyX7_ok nmX7 (by decide) rfl rfl (Nat.le_of_ble_eq_true rfl) (p7_2 G g ((g 0 2) - (1 : Int32))) rfl (List.mem_cons_of_mem _ mB619) dX7_saves_47 (fun H locs Z => ?_)
      refine lv_iconst (v := 0) hx hb dX7_saves_50 (by decide) ?_
      refine lv_istore_n (lv' := [(1, .int 0), (0, .ref (G.1 0))]) hx hb dX7_saves_51 rfl hl (by decide) rfl (fun ls hl => ?_)
      exact bX7_saves_52 X kI n g2 (0 : Int32) _ _ _ Z (lv_sub hl [1, 0] rfl) hm
    · replace hm := (if_neg c1).symm.trans hm
      refine lv_aload_n hx hb dX7_saves_18 rfl (lv_at hl 0 rfl) ?_
      refine g_get (j := 1) (v := .ref (G.1 2)) X Z oX7 (iB7 _) rfl (by decide) rfl (List.mem_cons_of_mem _ mB603) rfl dX7_saves_19 ?_
      refine lv_iload_n hx hb dX7_saves_22 rfl (lv_at hl 1 rfl) ?_
      refine lv_aload_n hx hb dX7_saves_23 rfl (lv_at hl 0 rfl) ?_
      refine g_get (j := 1) (v := .ref (G.1 2)) X Z oX7 (iB7 _) rfl (by decide) rfl (List.mem_cons_of_mem _ mB603) rfl dX7_saves_24 ?_
      refine lv_sipush (v := 865) hx hb dX7_saves_27 (by decide) ?_
      refine lv_iload_n hx hb dX7_saves_30 rfl (lv_at hl 1 rfl) ?_
      refine lv_iadd hx hb dX7_saves_31 ?_
      obtain ⟨b3, hm⟩ := sIdx_some hm
      refine g_iald X Z aM2 b3 dX7_saves_32 ?_
      obtain ⟨b4, hm⟩ := sIdx_some hm
      obtain ⟨g5, eg5, hm⟩ := sLet_some hm
      refine g_iast eg5 X Z aM2 b4 dX7_saves_33 (fun H locs Z => ?_)
      refine lv_iinc (v := (x1 + (1 : Int32))) (lv' := [(1, .int (x1 + (1 : Int32))), (0, .ref (G.1 0))]) hx hb dX7_saves_34 hl (k := 1) rfl rfl (by decide) rfl (fun ls hl => ?_)
      refine lv_goto (tgt := 11) hx hb dX7_saves_37 (by decide) ?_
      exact ih g5 (x1 + (1 : Int32)) _ _ _ Z (lv_sub hl [1, 0] rfl) hm
set_option maxHeartbeats 4000000 in
set_option maxRecDepth 100000 in
theorem bX7_saves_0 (X : gC p s m args meth c cX7_saves 2 wmX7_saves yX7_saves.cls none G A) {n : Nat} {r : Mem} (kI : ∀ (pc : Nat) (ls : Array Slot) (H : Heap) (locs : List Loc), decode cX7_saves pc = .ok (.return_, 1) → WS wM G r A s.heap H locs → W p l e { frames := 0, cells := 0, slots := 0, locals := 0 } s m args below meth c H locs 0 0 Q (F0 m pc ls [])) : ∀ (g : Mem) (H : Heap) (locs : List Loc) (ls : Array Slot), WS wM G g A s.heap H locs → lv_has ls 2 [(0, .ref (G.1 0))] → sX7_saves n g = some r → W p l e { frames := 0, cells := 0, slots := 0, locals := 0 } s m args below meth c H locs 0 0 Q (F0 m 0 ls []) := by
  have hx := X.1
  have hb := X.2.1
  intro g H locs ls Z hl hm
  unfold sX7_saves at hm
  refine lv_aload_n hx hb dX7_saves_0 rfl (lv_at hl 0 rfl) ?_
  refine g_get (j := 2) (v := .int (g 0 2)) X Z oX7 (iB7 _) rfl (by decide) rfl (List.mem_cons_of_mem _ mB619) rfl dX7_saves_1 ?_
  refine lv_bipush (v := 6) hx hb dX7_saves_4 (by decide) ?_
  refine lv_icmp_ne (tgt := 50) hx hb dX7_saves_6 (by decide) (fun c1 => ?_) (fun c1 => ?_)
  · replace hm := (if_neg c1).symm.trans hm
    refine lv_iconst (v := 0) hx hb dX7_saves_50 (by decide) ?_
    refine lv_istore_n (lv' := [(1, .int 0), (0, .ref (G.1 0))]) hx hb dX7_saves_51 rfl hl (by decide) rfl (fun ls hl => ?_)
    exact bX7_saves_52 X kI n g (0 : Int32) _ _ _ Z (lv_sub hl [1, 0] rfl) hm
  · replace hm := (if_pos c1).symm.trans hm
    refine lv_iconst (v := 0) hx hb dX7_saves_9 (by decide) ?_
    refine lv_istore_n (lv' := [(1, .int 0), (0, .ref (G.1 0))]) hx hb dX7_saves_10 rfl hl (by decide) rfl (fun ls hl => ?_)
    exact bX7_saves_11 X kI n g (0 : Int32) _ _ _ Z (lv_sub hl [1, 0] rfl) hm
theorem cX7_saves_c (l : Launch) {G : LY} {g : Mem} {n : Nat} {r : Mem} (hm : sX7_saves n g = some r) : cV l yX7_saves wmX7_saves 0 0 wM G [.ref (G.1 0)] g r :=
  mk_cV sameM (by decide +kernel) rfl (Nat.le_of_ble_eq_true rfl) (fun p e s m args below meth c A Q ls X kI hl Z => bX7_saves_0 X kI g  _ _ ls Z hl hm)
abbrev wmX7_down : List Cond := Cond.code yX7_down cX7_down 1 (some .int) :: wA0
set_option maxHeartbeats 4000000 in
set_option maxRecDepth 100000 in
theorem bX7_down_0 (X : gC p s m args meth c cX7_down 1 wmX7_down yX7_down.cls (some .int) G A) {g : Mem} {r : Int32} (kI : ∀ (pc : Nat) (ls : Array Slot) (H : Heap) (locs : List Loc), decode cX7_down pc = .ok (.ireturn, 1) → WS wM G g A s.heap H locs → narrow .int (.int r) = .int r → W p l e { frames := 0, cells := 0, slots := 0, locals := 0 } s m args below meth c H locs 0 0 Q (F0 m pc ls [.int r])) : ∀ (x0 : Int32) (H : Heap) (locs : List Loc) (ls : Array Slot), WS wM G g A s.heap H locs → lv_has ls 1 [(0, .int x0)] → sX7_down g x0 = some r → W p l e { frames := 0, cells := 0, slots := 0, locals := 0 } s m args below meth c H locs 0 0 Q (F0 m 0 ls []) := by
  have hx := X.1
  have hb := X.2.1
  intro x0 H locs ls Z hl hm
  unfold sX7_down at hm
  refine lv_iload_n hx hb dX7_down_0 rfl (lv_at hl 0 rfl) ?_
  refine lv_if_lt (tgt := 12) hx hb dX7_down_1 (by decide) (fun c1 => ?_) (fun c1 => ?_)
  · replace hm := (if_pos c1).symm.trans hm
    refine lv_sipush (v := 999) hx hb dX7_down_12 (by decide) ?_
    refine lv_iload_n hx hb dX7_down_15 rfl (lv_at hl 0 rfl) ?_
    refine lv_isub hx hb dX7_down_16 ?_
    refine lv_sipush (v := 1000) hx hb dX7_down_17 (by decide) ?_
    refine lv_idiv hx hb dX7_down_20 (by decide) ?_
    refine lv_ineg hx hb dX7_down_21 ?_
    obtain rfl := Option.some.inj hm
    exact kI _ _ _ _ dX7_down_22 Z (vp_nar_int _)
  · replace hm := (if_neg c1).symm.trans hm
    refine lv_iload_n hx hb dX7_down_4 rfl (lv_at hl 0 rfl) ?_
    refine lv_sipush (v := 1000) hx hb dX7_down_5 (by decide) ?_
    refine lv_idiv hx hb dX7_down_8 (by decide) ?_
    refine lv_goto (tgt := 22) hx hb dX7_down_9 (by decide) ?_
    obtain rfl := Option.some.inj hm
    exact kI _ _ _ _ dX7_down_22 Z (vp_nar_int _)
theorem cX7_down_c (l : Launch) {G : LY} {g : Mem} {x0 : Int32} {r : Int32} (hm : sX7_down g x0 = some r) : cI l yX7_down wmX7_down 0 0 .int wM G [.int x0] g r g :=
  mk_cI sameM (by decide +kernel) rfl (Nat.le_of_ble_eq_true rfl) (fun p e s m args below meth c A Q ls X kI hl Z => bX7_down_0 X kI x0 _ _ ls Z hl hm)
abbrev wmX7_clock : List Cond := Cond.code yX7_clock cX7_clock 3 (some .int) :: wA0
set_option maxHeartbeats 4000000 in
set_option maxRecDepth 100000 in
theorem bX7_clock_0 (X : gC p s m args meth c cX7_clock 3 wmX7_clock yX7_clock.cls (some .int) G A) {g : Mem} {r : Int32} (kI : ∀ (pc : Nat) (ls : Array Slot) (H : Heap) (locs : List Loc), decode cX7_clock pc = .ok (.ireturn, 1) → WS wM G g A s.heap H locs → narrow .int (.int r) = .int r → W p l e { frames := 0, cells := 0, slots := 0, locals := 0 } s m args below meth c H locs 0 0 Q (F0 m pc ls [.int r])) : ∀ (x1 : Int32) (x2 : Int32) (H : Heap) (locs : List Loc) (ls : Array Slot), WS wM G g A s.heap H locs → lv_has ls 3 [(0, .ref (G.1 0)), (1, .int x1), (2, .int x2)] → sX7_clock g x1 x2 = some r → W p l e { frames := 0, cells := 0, slots := 0, locals := 0 } s m args below meth c H locs 0 0 Q (F0 m 0 ls []) := by
  have hx := X.1
  have hb := X.2.1
  intro x1 x2 H locs ls Z hl hm
  unfold sX7_clock at hm
  refine lv_aload_n hx hb dX7_clock_0 rfl (lv_at hl 0 rfl) ?_
  refine g_get (j := 0) (v := .ref (G.1 1)) X Z oX7 (iB7 _) rfl (by decide) rfl (List.mem_cons_of_mem _ mB602) rfl dX7_clock_1 ?_
  refine lv_bipush (v := 7) hx hb dX7_clock_4 (by decide) ?_
  refine lv_bipush (v := 6) hx hb dX7_clock_6 (by decide) ?_
  refine lv_iload_n hx hb dX7_clock_8 rfl (lv_at hl 1 rfl) ?_
  refine lv_imul hx hb dX7_clock_9 ?_
  refine lv_iadd hx hb dX7_clock_10 ?_
  refine lv_iload_n hx hb dX7_clock_11 rfl (lv_at hl 2 rfl) ?_
  refine lv_iadd hx hb dX7_clock_12 ?_
  obtain ⟨b1, hm⟩ := sIdx_some hm
  refine g_iald X Z aM1 b1 dX7_clock_13 ?_
  obtain rfl := Option.some.inj hm
  exact kI _ _ _ _ dX7_clock_14 Z (vp_nar_int _)
theorem cX7_clock_c (l : Launch) {G : LY} {g : Mem} {x1 : Int32} {x2 : Int32} {r : Int32} (hm : sX7_clock g x1 x2 = some r) : cI l yX7_clock wmX7_clock 0 0 .int wM G [.ref (G.1 0), .int x1, .int x2] g r g :=
  mk_cI sameM (by decide +kernel) rfl (Nat.le_of_ble_eq_true rfl) (fun p e s m args below meth c A Q ls X kI hl Z => bX7_clock_0 X kI x1 x2 _ _ ls Z hl hm)
abbrev wmX7_sets : List Cond := Cond.code yX7_sets cX7_sets 4 none :: wA0
set_option maxHeartbeats 4000000 in
set_option maxRecDepth 100000 in
theorem bX7_sets_0 (X : gC p s m args meth c cX7_sets 4 wmX7_sets yX7_sets.cls none G A) {r : Mem} (kI : ∀ (pc : Nat) (ls : Array Slot) (H : Heap) (locs : List Loc), decode cX7_sets pc = .ok (.return_, 1) → WS wM G r A s.heap H locs → W p l e { frames := 0, cells := 0, slots := 0, locals := 0 } s m args below meth c H locs 0 0 Q (F0 m pc ls [])) : ∀ (g : Mem) (x1 : Int32) (x2 : Int32) (x3 : Int32) (H : Heap) (locs : List Loc) (ls : Array Slot), WS wM G g A s.heap H locs → lv_has ls 4 [(0, .ref (G.1 0)), (1, .int x1), (2, .int x2), (3, .int x3)] → sX7_sets g x1 x2 x3 = some r → W p l e { frames := 0, cells := 0, slots := 0, locals := 0 } s m args below meth c H locs 0 0 Q (F0 m 0 ls []) := by
  have hx := X.1
  have hb := X.2.1
  intro g x1 x2 x3 H locs ls Z hl hm
  unfold sX7_sets at hm
  refine lv_aload_n hx hb dX7_sets_0 rfl (lv_at hl 0 rfl) ?_
  refine g_get (j := 0) (v := .ref (G.1 1)) X Z oX7 (iB7 _) rfl (by decide) rfl (List.mem_cons_of_mem _ mB602) rfl dX7_sets_1 ?_
  refine lv_bipush (v := 7) hx hb dX7_sets_4 (by decide) ?_
  refine lv_bipush (v := 6) hx hb dX7_sets_6 (by decide) ?_
  refine lv_iload_n hx hb dX7_sets_8 rfl (lv_at hl 1 rfl) ?_
  refine lv_imul hx hb dX7_sets_9 ?_
  refine lv_iadd hx hb dX7_sets_10 ?_
  refine lv_iload_n hx hb dX7_sets_11 rfl (lv_at hl 2 rfl) ?_
  refine lv_iadd hx hb dX7_sets_12 ?_
  refine lv_iload_n hx hb dX7_sets_13 rfl (lv_at hl 3 rfl) ?_
  obtain ⟨b1, hm⟩ := sIdx_some hm
  obtain ⟨g2, eg2, hm⟩ := sLet_some hm
  refine g_iast eg2 X Z aM1 b1 dX7_sets_14 (fun H locs Z => ?_)
  obtain rfl := Option.some.inj hm
  exact kI _ _ _ _ dX7_sets_15 Z
theorem cX7_sets_c (l : Launch) {G : LY} {g : Mem} {x1 : Int32} {x2 : Int32} {x3 : Int32} {r : Mem} (hm : sX7_sets g x1 x2 x3 = some r) : cV l yX7_sets wmX7_sets 0 0 wM G [.ref (G.1 0), .int x1, .int x2, .int x3] g r :=
  mk_cV sameM (by decide +kernel) rfl (Nat.le_of_ble_eq_true rfl) (fun p e s m args below meth c A Q ls X kI hl Z => bX7_sets_0 X kI g x1 x2 x3 _ _ ls Z hl hm)
abbrev wmX7_offset : List Cond := Cond.code yX7_offset cX7_offset 3 (some .int) :: wA0
set_option maxHeartbeats 4000000 in
set_option maxRecDepth 100000 in
theorem bX7_offset_0 (X : gC p s m args meth c cX7_offset 3 wmX7_offset yX7_offset.cls (some .int) G A) {g : Mem} {r : Int32} (kI : ∀ (pc : Nat) (ls : Array Slot) (H : Heap) (locs : List Loc), decode cX7_offset pc = .ok (.ireturn, 1) → WS wM G g A s.heap H locs → narrow .int (.int r) = .int r → W p l e { frames := 1, cells := 0, slots := 0, locals := 22 } s m args below meth c H locs 0 0 Q (F0 m pc ls [.int r])) : ∀ (x1 : Int32) (x2 : Int32) (H : Heap) (locs : List Loc) (ls : Array Slot), WS wM G g A s.heap H locs → lv_has ls 3 [(0, .ref (G.1 0)), (1, .int x1), (2, .int x2)] → sX7_offset g x1 x2 = some r → W p l e { frames := 1, cells := 0, slots := 0, locals := 22 } s m args below meth c H locs 0 0 Q (F0 m 0 ls []) := by
  have hx := X.1
  have hb := X.2.1
  intro x1 x2 H locs ls Z hl hm
  unfold sX7_offset at hm
  refine lv_aload_n hx hb dX7_offset_0 rfl (lv_at hl 0 rfl) ?_
  refine lv_iload_n hx hb dX7_offset_1 rfl (lv_at hl 1 rfl) ?_
  refine lv_iconst (v := 0) hx hb dX7_offset_2 (by decide) ?_
  obtain ⟨r3, e1, hm⟩ := sBi_some hm
  refine g_callVI (n := 2) (As := [.int x1, .int 0]) (rest := []) sameM X Z (cX7_clock_c l e1) oX7 rfl (gooV mB624 mB625 mB626 mB614 mB621) rfl (by decide +kernel) rfl ⟨Nat.le_of_ble_eq_true rfl, Nat.le_of_ble_eq_true rfl⟩ ⟨Nat.le_of_ble_eq_true rfl, Nat.le_of_ble_eq_true rfl⟩ hl.1 rfl (Nat.le_of_ble_eq_true rfl) dX7_offset_3 (fun w2 H locs Z => ?_)
  refine lv_aload_n hx hb dX7_offset_6 rfl (lv_at hl 0 rfl) ?_
  refine lv_iload_n hx hb dX7_offset_7 rfl (lv_at hl 1 rfl) ?_
  refine lv_iconst (v := 2) hx hb dX7_offset_8 (by decide) ?_
  obtain ⟨r6, e4, hm⟩ := sBi_some hm
  refine g_callVI (n := 2) (As := [.int x1, .int 2]) (rest := [.int r3]) sameM X Z (cX7_clock_c l e4) oX7 rfl (gooV mB624 mB625 mB626 mB614 mB621) rfl (by decide +kernel) rfl ⟨Nat.le_of_ble_eq_true rfl, Nat.le_of_ble_eq_true rfl⟩ ⟨Nat.le_of_ble_eq_true rfl, Nat.le_of_ble_eq_true rfl⟩ hl.1 rfl (Nat.le_of_ble_eq_true rfl) dX7_offset_9 (fun w5 H locs Z => ?_)
  refine lv_iload_n hx hb dX7_offset_12 rfl (lv_at hl 2 rfl) ?_
  refine lv_aload_n hx hb dX7_offset_13 rfl (lv_at hl 0 rfl) ?_
  refine lv_iload_n hx hb dX7_offset_14 rfl (lv_at hl 1 rfl) ?_
  refine lv_iconst (v := 1) hx hb dX7_offset_15 (by decide) ?_
  obtain ⟨r9, e7, hm⟩ := sBi_some hm
  refine g_callVI (n := 2) (As := [.int x1, .int 1]) (rest := [.int x2, .int r6, .int r3]) sameM X Z (cX7_clock_c l e7) oX7 rfl (gooV mB624 mB625 mB626 mB614 mB621) rfl (by decide +kernel) rfl ⟨Nat.le_of_ble_eq_true rfl, Nat.le_of_ble_eq_true rfl⟩ ⟨Nat.le_of_ble_eq_true rfl, Nat.le_of_ble_eq_true rfl⟩ hl.1 rfl (Nat.le_of_ble_eq_true rfl) dX7_offset_16 (fun w8 H locs Z => ?_)
  refine lv_isub hx hb dX7_offset_19 ?_
  refine lv_imul hx hb dX7_offset_20 ?_
  obtain ⟨r12, e10, hm⟩ := sBi_some hm
  refine g_callSI (n := 1) (As := [.int (r6 * (x2 - r9))]) (rest := [.int r3]) sameM X Z (cX7_down_c l e10) (gooS mB627 mB628 mB614 mB620) rfl (by decide +kernel) rfl ⟨Nat.le_of_ble_eq_true rfl, Nat.le_of_ble_eq_true rfl⟩ ⟨Nat.le_of_ble_eq_true rfl, Nat.le_of_ble_eq_true rfl⟩ hl.1 rfl (Nat.le_of_ble_eq_true rfl) dX7_offset_21 (fun w11 H locs Z => ?_)
  refine lv_iadd hx hb dX7_offset_24 ?_
  obtain rfl := Option.some.inj hm
  exact kI _ _ _ _ dX7_offset_25 Z (vp_nar_int _)
theorem cX7_offset_c (l : Launch) {G : LY} {g : Mem} {x1 : Int32} {x2 : Int32} {r : Int32} (hm : sX7_offset g x1 x2 = some r) : cI l yX7_offset wmX7_offset 1 22 .int wM G [.ref (G.1 0), .int x1, .int x2] g r g :=
  mk_cI sameM (by decide +kernel) rfl (Nat.le_of_ble_eq_true rfl) (fun p e s m args below meth c A Q ls X kI hl Z => bX7_offset_0 X kI x1 x2 _ _ ls Z hl hm)
abbrev wmX7_uncertainty : List Cond := Cond.code yX7_uncertainty cX7_uncertainty 3 (some .int) :: wA0
set_option maxHeartbeats 4000000 in
set_option maxRecDepth 100000 in
theorem bX7_uncertainty_0 (X : gC p s m args meth c cX7_uncertainty 3 wmX7_uncertainty yX7_uncertainty.cls (some .int) G A) {g : Mem} {r : Int32} (kI : ∀ (pc : Nat) (ls : Array Slot) (H : Heap) (locs : List Loc), decode cX7_uncertainty pc = .ok (.ireturn, 1) → WS wM G g A s.heap H locs → narrow .int (.int r) = .int r → W p l e { frames := 1, cells := 0, slots := 0, locals := 22 } s m args below meth c H locs 0 0 Q (F0 m pc ls [.int r])) : ∀ (x1 : Int32) (x2 : Int32) (H : Heap) (locs : List Loc) (ls : Array Slot), WS wM G g A s.heap H locs → lv_has ls 3 [(0, .ref (G.1 0)), (1, .int x1), (2, .int x2)] → sX7_uncertainty g x1 x2 = some r → W p l e { frames := 1, cells := 0, slots := 0, locals := 22 } s m args below meth c H locs 0 0 Q (F0 m 0 ls []) := by
  have hx := X.1
  have hb := X.2.1
  intro x1 x2 H locs ls Z hl hm
  unfold sX7_uncertainty at hm
  refine lv_aload_n hx hb dX7_uncertainty_0 rfl (lv_at hl 0 rfl) ?_
  refine lv_iload_n hx hb dX7_uncertainty_1 rfl (lv_at hl 1 rfl) ?_
  refine lv_iconst (v := 3) hx hb dX7_uncertainty_2 (by decide) ?_
  obtain ⟨r3, e1, hm⟩ := sBi_some hm
  refine g_callVI (n := 2) (As := [.int x1, .int 3]) (rest := []) sameM X Z (cX7_clock_c l e1) oX7 rfl (gooV mB624 mB625 mB626 mB614 mB621) rfl (by decide +kernel) rfl ⟨Nat.le_of_ble_eq_true rfl, Nat.le_of_ble_eq_true rfl⟩ ⟨Nat.le_of_ble_eq_true rfl, Nat.le_of_ble_eq_true rfl⟩ hl.1 rfl (Nat.le_of_ble_eq_true rfl) dX7_uncertainty_3 (fun w2 H locs Z => ?_)
  refine lv_aload_n hx hb dX7_uncertainty_6 rfl (lv_at hl 0 rfl) ?_
  refine lv_iload_n hx hb dX7_uncertainty_7 rfl (lv_at hl 1 rfl) ?_
  refine lv_iconst (v := 4) hx hb dX7_uncertainty_8 (by decide) ?_
  obtain ⟨r6, e4, hm⟩ := sBi_some hm
  refine g_callVI (n := 2) (As := [.int x1, .int 4]) (rest := [.int r3]) sameM X Z (cX7_clock_c l e4) oX7 rfl (gooV mB624 mB625 mB626 mB614 mB621) rfl (by decide +kernel) rfl ⟨Nat.le_of_ble_eq_true rfl, Nat.le_of_ble_eq_true rfl⟩ ⟨Nat.le_of_ble_eq_true rfl, Nat.le_of_ble_eq_true rfl⟩ hl.1 rfl (Nat.le_of_ble_eq_true rfl) dX7_uncertainty_9 (fun w5 H locs Z => ?_)
  refine lv_iload_n hx hb dX7_uncertainty_12 rfl (lv_at hl 2 rfl) ?_
  refine lv_aload_n hx hb dX7_uncertainty_13 rfl (lv_at hl 0 rfl) ?_
  refine lv_iload_n hx hb dX7_uncertainty_14 rfl (lv_at hl 1 rfl) ?_
  refine lv_iconst (v := 5) hx hb dX7_uncertainty_15 (by decide) ?_
  obtain ⟨r9, e7, hm⟩ := sBi_some hm
  refine g_callVI (n := 2) (As := [.int x1, .int 5]) (rest := [.int x2, .int r6, .int r3]) sameM X Z (cX7_clock_c l e7) oX7 rfl (gooV mB624 mB625 mB626 mB614 mB621) rfl (by decide +kernel) rfl ⟨Nat.le_of_ble_eq_true rfl, Nat.le_of_ble_eq_true rfl⟩ ⟨Nat.le_of_ble_eq_true rfl, Nat.le_of_ble_eq_true rfl⟩ hl.1 rfl (Nat.le_of_ble_eq_true rfl) dX7_uncertainty_16 (fun w8 H locs Z => ?_)
  refine lv_isub hx hb dX7_uncertainty_19 ?_
  refine lv_imul hx hb dX7_uncertainty_20 ?_
  refine lv_sipush (v := 999) hx hb dX7_uncertainty_21 (by decide) ?_
  refine lv_iadd hx hb dX7_uncertainty_24 ?_
  refine lv_sipush (v := 1000) hx hb dX7_uncertainty_25 (by decide) ?_
  refine lv_idiv hx hb dX7_uncertainty_28 (by decide) ?_
  refine lv_iadd hx hb dX7_uncertainty_29 ?_
  obtain rfl := Option.some.inj hm
  exact kI _ _ _ _ dX7_uncertainty_30 Z (vp_nar_int _)
theorem cX7_uncertainty_c (l : Launch) {G : LY} {g : Mem} {x1 : Int32} {x2 : Int32} {r : Int32} (hm : sX7_uncertainty g x1 x2 = some r) : cI l yX7_uncertainty wmX7_uncertainty 1 22 .int wM G [.ref (G.1 0), .int x1, .int x2] g r g :=
  mk_cI sameM (by decide +kernel) rfl (Nat.le_of_ble_eq_true rfl) (fun p e s m args below meth c A Q ls X kI hl Z => bX7_uncertainty_0 X kI x1 x2 _ _ ls Z hl hm)
abbrev wmX7_earliestAt : List Cond := Cond.code yX7_earliestAt cX7_earliestAt 3 (some .int) :: wA0
set_option maxHeartbeats 4000000 in
set_option maxRecDepth 100000 in
theorem bX7_earliestAt_0 (X : gC p s m args meth c cX7_earliestAt 3 wmX7_earliestAt yX7_earliestAt.cls (some .int) G A) {g : Mem} {r : Int32} (kI : ∀ (pc : Nat) (ls : Array Slot) (H : Heap) (locs : List Loc), decode cX7_earliestAt pc = .ok (.ireturn, 1) → WS wM G g A s.heap H locs → narrow .int (.int r) = .int r → W p l e { frames := 2, cells := 0, slots := 0, locals := 44 } s m args below meth c H locs 0 0 Q (F0 m pc ls [.int r])) : ∀ (x1 : Int32) (x2 : Int32) (H : Heap) (locs : List Loc) (ls : Array Slot), WS wM G g A s.heap H locs → lv_has ls 3 [(0, .ref (G.1 0)), (1, .int x1), (2, .int x2)] → sX7_earliestAt g x1 x2 = some r → W p l e { frames := 2, cells := 0, slots := 0, locals := 44 } s m args below meth c H locs 0 0 Q (F0 m 0 ls []) := by
  have hx := X.1
  have hb := X.2.1
  intro x1 x2 H locs ls Z hl hm
  unfold sX7_earliestAt at hm
  refine lv_iload_n hx hb dX7_earliestAt_0 rfl (lv_at hl 2 rfl) ?_
  refine lv_aload_n hx hb dX7_earliestAt_1 rfl (lv_at hl 0 rfl) ?_
  refine lv_iload_n hx hb dX7_earliestAt_2 rfl (lv_at hl 1 rfl) ?_
  refine lv_iload_n hx hb dX7_earliestAt_3 rfl (lv_at hl 2 rfl) ?_
  obtain ⟨r3, e1, hm⟩ := sBi_some hm
  refine g_callVI (n := 2) (As := [.int x1, .int x2]) (rest := [.int x2]) sameM X Z (cX7_offset_c l e1) oX7 rfl (gooV mB631 mB632 mB633 mB614 mB623) rfl (by decide +kernel) rfl ⟨Nat.le_of_ble_eq_true rfl, Nat.le_of_ble_eq_true rfl⟩ ⟨Nat.le_of_ble_eq_true rfl, Nat.le_of_ble_eq_true rfl⟩ hl.1 rfl (Nat.le_of_ble_eq_true rfl) dX7_earliestAt_4 (fun w2 H locs Z => ?_)
  refine lv_iadd hx hb dX7_earliestAt_7 ?_
  refine lv_aload_n hx hb dX7_earliestAt_8 rfl (lv_at hl 0 rfl) ?_
  refine lv_iload_n hx hb dX7_earliestAt_9 rfl (lv_at hl 1 rfl) ?_
  refine lv_iload_n hx hb dX7_earliestAt_10 rfl (lv_at hl 2 rfl) ?_
  obtain ⟨r6, e4, hm⟩ := sBi_some hm
  refine g_callVI (n := 2) (As := [.int x1, .int x2]) (rest := [.int (x2 + r3)]) sameM X Z (cX7_uncertainty_c l e4) oX7 rfl (gooV mB634 mB635 mB636 mB614 mB629) rfl (by decide +kernel) rfl ⟨Nat.le_of_ble_eq_true rfl, Nat.le_of_ble_eq_true rfl⟩ ⟨Nat.le_of_ble_eq_true rfl, Nat.le_of_ble_eq_true rfl⟩ hl.1 rfl (Nat.le_of_ble_eq_true rfl) dX7_earliestAt_11 (fun w5 H locs Z => ?_)
  refine lv_isub hx hb dX7_earliestAt_14 ?_
  obtain rfl := Option.some.inj hm
  exact kI _ _ _ _ dX7_earliestAt_15 Z (vp_nar_int _)
theorem cX7_earliestAt_c (l : Launch) {G : LY} {g : Mem} {x1 : Int32} {x2 : Int32} {r : Int32} (hm : sX7_earliestAt g x1 x2 = some r) : cI l yX7_earliestAt wmX7_earliestAt 2 44 .int wM G [.ref (G.1 0), .int x1, .int x2] g r g :=
  mk_cI sameM (by decide +kernel) rfl (Nat.le_of_ble_eq_true rfl) (fun p e s m args below meth c A Q ls X kI hl Z => bX7_earliestAt_0 X kI x1 x2 _ _ ls Z hl hm)
abbrev wmX7_latestAt : List Cond := Cond.code yX7_latestAt cX7_latestAt 3 (some .int) :: wA0
set_option maxHeartbeats 4000000 in
set_option maxRecDepth 100000 in
theorem bX7_latestAt_0 (X : gC p s m args meth c cX7_latestAt 3 wmX7_latestAt yX7_latestAt.cls (some .int) G A) {g : Mem} {r : Int32} (kI : ∀ (pc : Nat) (ls : Array Slot) (H : Heap) (locs : List Loc), decode cX7_latestAt pc = .ok (.ireturn, 1) → WS wM G g A s.heap H locs → narrow .int (.int r) = .int r → W p l e { frames := 2, cells := 0, slots := 0, locals := 44 } s m args below meth c H locs 0 0 Q (F0 m pc ls [.int r])) : ∀ (x1 : Int32) (x2 : Int32) (H : Heap) (locs : List Loc) (ls : Array Slot), WS wM G g A s.heap H locs → lv_has ls 3 [(0, .ref (G.1 0)), (1, .int x1), (2, .int x2)] → sX7_latestAt g x1 x2 = some r → W p l e { frames := 2, cells := 0, slots := 0, locals := 44 } s m args below meth c H locs 0 0 Q (F0 m 0 ls []) := by
  have hx := X.1
  have hb := X.2.1
  intro x1 x2 H locs ls Z hl hm
  unfold sX7_latestAt at hm
  refine lv_iload_n hx hb dX7_latestAt_0 rfl (lv_at hl 2 rfl) ?_
  refine lv_aload_n hx hb dX7_latestAt_1 rfl (lv_at hl 0 rfl) ?_
  refine lv_iload_n hx hb dX7_latestAt_2 rfl (lv_at hl 1 rfl) ?_
  refine lv_iload_n hx hb dX7_latestAt_3 rfl (lv_at hl 2 rfl) ?_
  obtain ⟨r3, e1, hm⟩ := sBi_some hm
  refine g_callVI (n := 2) (As := [.int x1, .int x2]) (rest := [.int x2]) sameM X Z (cX7_offset_c l e1) oX7 rfl (gooV mB631 mB632 mB633 mB614 mB623) rfl (by decide +kernel) rfl ⟨Nat.le_of_ble_eq_true rfl, Nat.le_of_ble_eq_true rfl⟩ ⟨Nat.le_of_ble_eq_true rfl, Nat.le_of_ble_eq_true rfl⟩ hl.1 rfl (Nat.le_of_ble_eq_true rfl) dX7_latestAt_4 (fun w2 H locs Z => ?_)
  refine lv_iadd hx hb dX7_latestAt_7 ?_
  refine lv_aload_n hx hb dX7_latestAt_8 rfl (lv_at hl 0 rfl) ?_
  refine lv_iload_n hx hb dX7_latestAt_9 rfl (lv_at hl 1 rfl) ?_
  refine lv_iload_n hx hb dX7_latestAt_10 rfl (lv_at hl 2 rfl) ?_
  obtain ⟨r6, e4, hm⟩ := sBi_some hm
  refine g_callVI (n := 2) (As := [.int x1, .int x2]) (rest := [.int (x2 + r3)]) sameM X Z (cX7_uncertainty_c l e4) oX7 rfl (gooV mB634 mB635 mB636 mB614 mB629) rfl (by decide +kernel) rfl ⟨Nat.le_of_ble_eq_true rfl, Nat.le_of_ble_eq_true rfl⟩ ⟨Nat.le_of_ble_eq_true rfl, Nat.le_of_ble_eq_true rfl⟩ hl.1 rfl (Nat.le_of_ble_eq_true rfl) dX7_latestAt_11 (fun w5 H locs Z => ?_)
  refine lv_iadd hx hb dX7_latestAt_14 ?_
  obtain rfl := Option.some.inj hm
  exact kI _ _ _ _ dX7_latestAt_15 Z (vp_nar_int _)
theorem cX7_latestAt_c (l : Launch) {G : LY} {g : Mem} {x1 : Int32} {x2 : Int32} {r : Int32} (hm : sX7_latestAt g x1 x2 = some r) : cI l yX7_latestAt wmX7_latestAt 2 44 .int wM G [.ref (G.1 0), .int x1, .int x2] g r g :=
  mk_cI sameM (by decide +kernel) rfl (Nat.le_of_ble_eq_true rfl) (fun p e s m args below meth c A Q ls X kI hl Z => bX7_latestAt_0 X kI x1 x2 _ _ ls Z hl hm)
abbrev wmX7_isSoundAt : List Cond := Cond.code yX7_isSoundAt cX7_isSoundAt 3 (some .boolean) :: wA0
set_option maxHeartbeats 4000000 in
set_option maxRecDepth 100000 in
theorem bX7_isSoundAt_0 (X : gC p s m args meth c cX7_isSoundAt 3 wmX7_isSoundAt yX7_isSoundAt.cls (some .boolean) G A) {g : Mem} {r : Int32} (kI : ∀ (pc : Nat) (ls : Array Slot) (H : Heap) (locs : List Loc), decode cX7_isSoundAt pc = .ok (.ireturn, 1) → WS wM G g A s.heap H locs → narrow .boolean (.int r) = .int r → W p l e { frames := 3, cells := 0, slots := 0, locals := 66 } s m args below meth c H locs 0 0 Q (F0 m pc ls [.int r])) : ∀ (x1 : Int32) (x2 : Int32) (H : Heap) (locs : List Loc) (ls : Array Slot), WS wM G g A s.heap H locs → lv_has ls 3 [(0, .ref (G.1 0)), (1, .int x1), (2, .int x2)] → sX7_isSoundAt g x1 x2 = some r → W p l e { frames := 3, cells := 0, slots := 0, locals := 66 } s m args below meth c H locs 0 0 Q (F0 m 0 ls []) := by
  have hx := X.1
  have hb := X.2.1
  intro x1 x2 H locs ls Z hl hm
  unfold sX7_isSoundAt at hm
  refine lv_aload_n hx hb dX7_isSoundAt_0 rfl (lv_at hl 0 rfl) ?_
  refine lv_iload_n hx hb dX7_isSoundAt_1 rfl (lv_at hl 1 rfl) ?_
  refine lv_iload_n hx hb dX7_isSoundAt_2 rfl (lv_at hl 2 rfl) ?_
  obtain ⟨r3, e1, hm⟩ := sBi_some hm
  refine g_callVI (n := 2) (As := [.int x1, .int x2]) (rest := []) sameM X Z (cX7_earliestAt_c l e1) oX7 rfl (gooV mB638 mB639 mB640 mB614 mB630) rfl (by decide +kernel) rfl ⟨Nat.le_of_ble_eq_true rfl, Nat.le_of_ble_eq_true rfl⟩ ⟨Nat.le_of_ble_eq_true rfl, Nat.le_of_ble_eq_true rfl⟩ hl.1 rfl (Nat.le_of_ble_eq_true rfl) dX7_isSoundAt_3 (fun w2 H locs Z => ?_)
  refine lv_iload_n hx hb dX7_isSoundAt_6 rfl (lv_at hl 2 rfl) ?_
  refine lv_icmp_gt (tgt := 24) hx hb dX7_isSoundAt_7 (by decide) (fun c4 => ?_) (fun c4 => ?_)
  · replace hm := (if_pos c4).symm.trans hm
    refine lv_iconst (v := 0) hx hb dX7_isSoundAt_24 (by decide) ?_
    obtain rfl := Option.some.inj hm
    exact kI _ _ _ _ dX7_isSoundAt_25 Z nb0
  · replace hm := (if_neg c4).symm.trans hm
    refine lv_aload_n hx hb dX7_isSoundAt_10 rfl (lv_at hl 0 rfl) ?_
    refine lv_iload_n hx hb dX7_isSoundAt_11 rfl (lv_at hl 1 rfl) ?_
    refine lv_iload_n hx hb dX7_isSoundAt_12 rfl (lv_at hl 2 rfl) ?_
    obtain ⟨r7, e5, hm⟩ := sBi_some hm
    refine g_callVI (n := 2) (As := [.int x1, .int x2]) (rest := []) sameM X Z (cX7_latestAt_c l e5) oX7 rfl (gooV mB641 mB642 mB643 mB614 mB637) rfl (by decide +kernel) rfl ⟨Nat.le_of_ble_eq_true rfl, Nat.le_of_ble_eq_true rfl⟩ ⟨Nat.le_of_ble_eq_true rfl, Nat.le_of_ble_eq_true rfl⟩ hl.1 rfl (Nat.le_of_ble_eq_true rfl) dX7_isSoundAt_13 (fun w6 H locs Z => ?_)
    refine lv_iload_n hx hb dX7_isSoundAt_16 rfl (lv_at hl 2 rfl) ?_
    refine lv_icmp_lt (tgt := 24) hx hb dX7_isSoundAt_17 (by decide) (fun c8 => ?_) (fun c8 => ?_)
    · replace hm := (if_pos c8).symm.trans hm
      refine lv_iconst (v := 0) hx hb dX7_isSoundAt_24 (by decide) ?_
      obtain rfl := Option.some.inj hm
      exact kI _ _ _ _ dX7_isSoundAt_25 Z nb0
    · replace hm := (if_neg c8).symm.trans hm
      refine lv_iconst (v := 1) hx hb dX7_isSoundAt_20 (by decide) ?_
      refine lv_goto (tgt := 25) hx hb dX7_isSoundAt_21 (by decide) ?_
      obtain rfl := Option.some.inj hm
      exact kI _ _ _ _ dX7_isSoundAt_25 Z nb1
theorem cX7_isSoundAt_c (l : Launch) {G : LY} {g : Mem} {x1 : Int32} {x2 : Int32} {r : Int32} (hm : sX7_isSoundAt g x1 x2 = some r) : cI l yX7_isSoundAt wmX7_isSoundAt 3 66 .boolean wM G [.ref (G.1 0), .int x1, .int x2] g r g :=
  mk_cI sameM (by decide +kernel) rfl (Nat.le_of_ble_eq_true rfl) (fun p e s m args below meth c A Q ls X kI hl Z => bX7_isSoundAt_0 X kI x1 x2 _ _ ls Z hl hm)
abbrev wmX7_uses : List Cond := Cond.code yX7_uses cX7_uses 2 none :: wA0
set_option maxHeartbeats 4000000 in
set_option maxRecDepth 100000 in
theorem bX7_uses_0 (X : gC p s m args meth c cX7_uses 2 wmX7_uses yX7_uses.cls none G A) {r : Mem} (kI : ∀ (pc : Nat) (ls : Array Slot) (H : Heap) (locs : List Loc), decode cX7_uses pc = .ok (.return_, 1) → WS wM G r A s.heap H locs → W p l e { frames := 4, cells := 0, slots := 0, locals := 88 } s m args below meth c H locs 0 0 Q (F0 m pc ls [])) : ∀ (g : Mem) (x1 : Int32) (H : Heap) (locs : List Loc) (ls : Array Slot), WS wM G g A s.heap H locs → lv_has ls 2 [(0, .ref (G.1 0)), (1, .int x1)] → sX7_uses g x1 = some r → W p l e { frames := 4, cells := 0, slots := 0, locals := 88 } s m args below meth c H locs 0 0 Q (F0 m 0 ls []) := by
  have hx := X.1
  have hb := X.2.1
  intro g x1 H locs ls Z hl hm
  unfold sX7_uses at hm
  refine lv_aload_n hx hb dX7_uses_0 rfl (lv_at hl 0 rfl) ?_
  refine g_get (j := 0) (v := .ref (G.1 1)) X Z oX7 (iB7 _) rfl (by decide) rfl (List.mem_cons_of_mem _ mB602) rfl dX7_uses_1 ?_
  refine lv_iconst (v := 2) hx hb dX7_uses_4 (by decide) ?_
  refine lv_dup2_11 hx hb dX7_uses_5 rfl rfl ?_
  obtain ⟨b1, hm⟩ := sIdx_some hm
  refine g_iald X Z aM1 b1 dX7_uses_6 ?_
  refine lv_aload_n hx hb dX7_uses_7 rfl (lv_at hl 0 rfl) ?_
  refine lv_iload_n hx hb dX7_uses_8 rfl (lv_at hl 1 rfl) ?_
  refine lv_aload_n hx hb dX7_uses_9 rfl (lv_at hl 0 rfl) ?_
  refine g_get (j := 0) (v := .ref (G.1 1)) X Z oX7 (iB7 _) rfl (by decide) rfl (List.mem_cons_of_mem _ mB602) rfl dX7_uses_10 ?_
  refine lv_iconst (v := 0) hx hb dX7_uses_13 (by decide) ?_
  obtain ⟨b2, hm⟩ := sIdx_some hm
  refine g_iald X Z aM1 b2 dX7_uses_14 ?_
  obtain ⟨r5, e3, hm⟩ := sBi_some hm
  refine g_callVI (n := 2) (As := [.int x1, .int (g 1 (0 : Int32).toNatClampNeg)]) (rest := [.int (g 1 (2 : Int32).toNatClampNeg), .int 2, .ref (G.1 1)]) sameM X Z (cX7_isSoundAt_c l e3) oX7 rfl (gooV mB645 mB646 mB647 mB614 mB644) rfl (by decide +kernel) rfl ⟨Nat.le_of_ble_eq_true rfl, Nat.le_of_ble_eq_true rfl⟩ ⟨Nat.le_of_ble_eq_true rfl, Nat.le_of_ble_eq_true rfl⟩ hl.1 rfl (Nat.le_of_ble_eq_true rfl) dX7_uses_15 (fun w4 H locs Z => ?_)
  refine lv_if_eq (tgt := 25) hx hb dX7_uses_18 (by decide) (fun c6 => ?_) (fun c6 => ?_)
  · replace hm := (if_pos c6).symm.trans hm
    refine lv_iconst (v := 1) hx hb dX7_uses_25 (by decide) ?_
    refine lv_iadd hx hb dX7_uses_26 ?_
    obtain ⟨b7, hm⟩ := sIdx_some hm
    obtain ⟨g8, eg8, hm⟩ := sLet_some hm
    refine g_iast eg8 X Z aM1 b7 dX7_uses_27 (fun H locs Z => ?_)
    obtain rfl := Option.some.inj hm
    exact kI _ _ _ _ dX7_uses_28 Z
  · replace hm := (if_neg c6).symm.trans hm
    refine lv_iconst (v := 0) hx hb dX7_uses_21 (by decide) ?_
    refine lv_goto (tgt := 26) hx hb dX7_uses_22 (by decide) ?_
    refine lv_iadd hx hb dX7_uses_26 ?_
    obtain ⟨b9, hm⟩ := sIdx_some hm
    obtain ⟨g10, eg10, hm⟩ := sLet_some hm
    refine g_iast eg10 X Z aM1 b9 dX7_uses_27 (fun H locs Z => ?_)
    obtain rfl := Option.some.inj hm
    exact kI _ _ _ _ dX7_uses_28 Z
theorem cX7_uses_c (l : Launch) {G : LY} {g : Mem} {x1 : Int32} {r : Mem} (hm : sX7_uses g x1 = some r) : cV l yX7_uses wmX7_uses 4 88 wM G [.ref (G.1 0), .int x1] g r :=
  mk_cV sameM (by decide +kernel) rfl (Nat.le_of_ble_eq_true rfl) (fun p e s m args below meth c A Q ls X kI hl Z => bX7_uses_0 X kI g x1 _ _ ls Z hl hm)
abbrev wmX7_of : List Cond := Cond.code yX7_of cX7_of 3 (some .int) :: wA0
set_option maxHeartbeats 4000000 in
set_option maxRecDepth 100000 in
theorem bX7_of_0 (X : gC p s m args meth c cX7_of 3 wmX7_of yX7_of.cls (some .int) G A) {g : Mem} {r : Int32} (kI : ∀ (pc : Nat) (ls : Array Slot) (H : Heap) (locs : List Loc), decode cX7_of pc = .ok (.ireturn, 1) → WS wM G g A s.heap H locs → narrow .int (.int r) = .int r → W p l e { frames := 0, cells := 0, slots := 0, locals := 0 } s m args below meth c H locs 0 0 Q (F0 m pc ls [.int r])) : ∀ (x1 : Int32) (x2 : Int32) (H : Heap) (locs : List Loc) (ls : Array Slot), WS wM G g A s.heap H locs → lv_has ls 3 [(0, .ref (G.1 0)), (1, .int x1), (2, .int x2)] → sX7_of g x1 x2 = some r → W p l e { frames := 0, cells := 0, slots := 0, locals := 0 } s m args below meth c H locs 0 0 Q (F0 m 0 ls []) := by
  have hx := X.1
  have hb := X.2.1
  intro x1 x2 H locs ls Z hl hm
  unfold sX7_of at hm
  refine lv_aload_n hx hb dX7_of_0 rfl (lv_at hl 0 rfl) ?_
  refine g_get (j := 0) (v := .ref (G.1 1)) X Z oX7 (iB7 _) rfl (by decide) rfl (List.mem_cons_of_mem _ mB602) rfl dX7_of_1 ?_
  refine lv_bipush (v := 25) hx hb dX7_of_4 (by decide) ?_
  refine lv_bipush (v := 21) hx hb dX7_of_6 (by decide) ?_
  refine lv_iload_n hx hb dX7_of_8 rfl (lv_at hl 1 rfl) ?_
  refine lv_imul hx hb dX7_of_9 ?_
  refine lv_iadd hx hb dX7_of_10 ?_
  refine lv_iload_n hx hb dX7_of_11 rfl (lv_at hl 2 rfl) ?_
  refine lv_iadd hx hb dX7_of_12 ?_
  obtain ⟨b1, hm⟩ := sIdx_some hm
  refine g_iald X Z aM1 b1 dX7_of_13 ?_
  obtain rfl := Option.some.inj hm
  exact kI _ _ _ _ dX7_of_14 Z (vp_nar_int _)
theorem cX7_of_c (l : Launch) {G : LY} {g : Mem} {x1 : Int32} {x2 : Int32} {r : Int32} (hm : sX7_of g x1 x2 = some r) : cI l yX7_of wmX7_of 0 0 .int wM G [.ref (G.1 0), .int x1, .int x2] g r g :=
  mk_cI sameM (by decide +kernel) rfl (Nat.le_of_ble_eq_true rfl) (fun p e s m args below meth c A Q ls X kI hl Z => bX7_of_0 X kI x1 x2 _ _ ls Z hl hm)
abbrev wmX7_lays : List Cond := Cond.code yX7_lays cX7_lays 3 none :: wA0
set_option maxHeartbeats 4000000 in
set_option maxRecDepth 100000 in
theorem bX7_lays_0 (X : gC p s m args meth c cX7_lays 3 wmX7_lays yX7_lays.cls none G A) {r : Mem} (kI : ∀ (pc : Nat) (ls : Array Slot) (H : Heap) (locs : List Loc), decode cX7_lays pc = .ok (.return_, 1) → WS wM G r A s.heap H locs → W p l e { frames := 0, cells := 0, slots := 0, locals := 0 } s m args below meth c H locs 0 0 Q (F0 m pc ls [])) : ∀ (g : Mem) (x1 : Int32) (x2 : Int32) (H : Heap) (locs : List Loc) (ls : Array Slot), WS wM G g A s.heap H locs → lv_has ls 3 [(0, .ref (G.1 0)), (1, .int x1), (2, .int x2)] → sX7_lays g x1 x2 = some r → W p l e { frames := 0, cells := 0, slots := 0, locals := 0 } s m args below meth c H locs 0 0 Q (F0 m 0 ls []) := by
  have hx := X.1
  have hb := X.2.1
  intro g x1 x2 H locs ls Z hl hm
  unfold sX7_lays at hm
  refine lv_aload_n hx hb dX7_lays_0 rfl (lv_at hl 0 rfl) ?_
  refine g_get (j := 0) (v := .ref (G.1 1)) X Z oX7 (iB7 _) rfl (by decide) rfl (List.mem_cons_of_mem _ mB602) rfl dX7_lays_1 ?_
  refine lv_bipush (v := 25) hx hb dX7_lays_4 (by decide) ?_
  refine lv_iload_n hx hb dX7_lays_6 rfl (lv_at hl 1 rfl) ?_
  refine lv_iadd hx hb dX7_lays_7 ?_
  refine lv_iload_n hx hb dX7_lays_8 rfl (lv_at hl 2 rfl) ?_
  obtain ⟨b1, hm⟩ := sIdx_some hm
  obtain ⟨g2, eg2, hm⟩ := sLet_some hm
  refine g_iast eg2 X Z aM1 b1 dX7_lays_9 (fun H locs Z => ?_)
  obtain rfl := Option.some.inj hm
  exact kI _ _ _ _ dX7_lays_10 Z
theorem cX7_lays_c (l : Launch) {G : LY} {g : Mem} {x1 : Int32} {x2 : Int32} {r : Mem} (hm : sX7_lays g x1 x2 = some r) : cV l yX7_lays wmX7_lays 0 0 wM G [.ref (G.1 0), .int x1, .int x2] g r :=
  mk_cV sameM (by decide +kernel) rfl (Nat.le_of_ble_eq_true rfl) (fun p e s m args below meth c A Q ls X kI hl Z => bX7_lays_0 X kI g x1 x2 _ _ ls Z hl hm)
abbrev wmX7_hasWritten : List Cond := Cond.code yX7_hasWritten cX7_hasWritten 3 (some .boolean) :: wA0
set_option maxHeartbeats 4000000 in
set_option maxRecDepth 100000 in
theorem bX7_hasWritten_0 (X : gC p s m args meth c cX7_hasWritten 3 wmX7_hasWritten yX7_hasWritten.cls (some .boolean) G A) {g : Mem} {r : Int32} (kI : ∀ (pc : Nat) (ls : Array Slot) (H : Heap) (locs : List Loc), decode cX7_hasWritten pc = .ok (.ireturn, 1) → WS wM G g A s.heap H locs → narrow .boolean (.int r) = .int r → W p l e { frames := 1, cells := 0, slots := 0, locals := 22 } s m args below meth c H locs 0 0 Q (F0 m pc ls [.int r])) : ∀ (x1 : Int32) (x2 : Int32) (H : Heap) (locs : List Loc) (ls : Array Slot), WS wM G g A s.heap H locs → lv_has ls 3 [(0, .ref (G.1 0)), (1, .int x1), (2, .int x2)] → sX7_hasWritten g x1 x2 = some r → W p l e { frames := 1, cells := 0, slots := 0, locals := 22 } s m args below meth c H locs 0 0 Q (F0 m 0 ls []) := by
  have hx := X.1
  have hb := X.2.1
  intro x1 x2 H locs ls Z hl hm
  unfold sX7_hasWritten at hm
  refine lv_aload_n hx hb dX7_hasWritten_0 rfl (lv_at hl 0 rfl) ?_
  refine lv_iload_n hx hb dX7_hasWritten_1 rfl (lv_at hl 1 rfl) ?_
  refine lv_iconst (v := 5) hx hb dX7_hasWritten_2 (by decide) ?_
  refine lv_iload_n hx hb dX7_hasWritten_3 rfl (lv_at hl 2 rfl) ?_
  refine lv_iadd hx hb dX7_hasWritten_4 ?_
  obtain ⟨r3, e1, hm⟩ := sBi_some hm
  refine g_callVI (n := 2) (As := [.int x1, .int ((5 : Int32) + x2)]) (rest := []) sameM X Z (cX7_of_c l e1) oX7 rfl (gooV mB652 mB653 mB654 mB614 mB649) rfl (by decide +kernel) rfl ⟨Nat.le_of_ble_eq_true rfl, Nat.le_of_ble_eq_true rfl⟩ ⟨Nat.le_of_ble_eq_true rfl, Nat.le_of_ble_eq_true rfl⟩ hl.1 rfl (Nat.le_of_ble_eq_true rfl) dX7_hasWritten_5 (fun w2 H locs Z => ?_)
  refine lv_if_lt (tgt := 15) hx hb dX7_hasWritten_8 (by decide) (fun c4 => ?_) (fun c4 => ?_)
  · replace hm := (if_pos c4).symm.trans hm
    refine lv_iconst (v := 0) hx hb dX7_hasWritten_15 (by decide) ?_
    obtain rfl := Option.some.inj hm
    exact kI _ _ _ _ dX7_hasWritten_16 Z nb0
  · replace hm := (if_neg c4).symm.trans hm
    refine lv_iconst (v := 1) hx hb dX7_hasWritten_11 (by decide) ?_
    refine lv_goto (tgt := 16) hx hb dX7_hasWritten_12 (by decide) ?_
    obtain rfl := Option.some.inj hm
    exact kI _ _ _ _ dX7_hasWritten_16 Z nb1
theorem cX7_hasWritten_c (l : Launch) {G : LY} {g : Mem} {x1 : Int32} {x2 : Int32} {r : Int32} (hm : sX7_hasWritten g x1 x2 = some r) : cI l yX7_hasWritten wmX7_hasWritten 1 22 .boolean wM G [.ref (G.1 0), .int x1, .int x2] g r g :=
  mk_cI sameM (by decide +kernel) rfl (Nat.le_of_ble_eq_true rfl) (fun p e s m args below meth c A Q ls X kI hl Z => bX7_hasWritten_0 X kI x1 x2 _ _ ls Z hl hm)
abbrev wmX7_hasRead : List Cond := Cond.code yX7_hasRead cX7_hasRead 3 (some .boolean) :: wA0
set_option maxHeartbeats 4000000 in
set_option maxRecDepth 100000 in
theorem bX7_hasRead_0 (X : gC p s m args meth c cX7_hasRead 3 wmX7_hasRead yX7_hasRead.cls (some .boolean) G A) {g : Mem} {r : Int32} (kI : ∀ (pc : Nat) (ls : Array Slot) (H : Heap) (locs : List Loc), decode cX7_hasRead pc = .ok (.ireturn, 1) → WS wM G g A s.heap H locs → narrow .boolean (.int r) = .int r → W p l e { frames := 1, cells := 0, slots := 0, locals := 22 } s m args below meth c H locs 0 0 Q (F0 m pc ls [.int r])) : ∀ (x1 : Int32) (x2 : Int32) (H : Heap) (locs : List Loc) (ls : Array Slot), WS wM G g A s.heap H locs → lv_has ls 3 [(0, .ref (G.1 0)), (1, .int x1), (2, .int x2)] → sX7_hasRead g x1 x2 = some r → W p l e { frames := 1, cells := 0, slots := 0, locals := 22 } s m args below meth c H locs 0 0 Q (F0 m 0 ls []) := by
  have hx := X.1
  have hb := X.2.1
  intro x1 x2 H locs ls Z hl hm
  unfold sX7_hasRead at hm
  refine lv_aload_n hx hb dX7_hasRead_0 rfl (lv_at hl 0 rfl) ?_
  refine lv_iload_n hx hb dX7_hasRead_1 rfl (lv_at hl 1 rfl) ?_
  refine lv_bipush (v := 13) hx hb dX7_hasRead_2 (by decide) ?_
  refine lv_iload_n hx hb dX7_hasRead_4 rfl (lv_at hl 2 rfl) ?_
  refine lv_iadd hx hb dX7_hasRead_5 ?_
  obtain ⟨r3, e1, hm⟩ := sBi_some hm
  refine g_callVI (n := 2) (As := [.int x1, .int ((13 : Int32) + x2)]) (rest := []) sameM X Z (cX7_of_c l e1) oX7 rfl (gooV mB652 mB653 mB654 mB614 mB649) rfl (by decide +kernel) rfl ⟨Nat.le_of_ble_eq_true rfl, Nat.le_of_ble_eq_true rfl⟩ ⟨Nat.le_of_ble_eq_true rfl, Nat.le_of_ble_eq_true rfl⟩ hl.1 rfl (Nat.le_of_ble_eq_true rfl) dX7_hasRead_6 (fun w2 H locs Z => ?_)
  refine lv_if_lt (tgt := 16) hx hb dX7_hasRead_9 (by decide) (fun c4 => ?_) (fun c4 => ?_)
  · replace hm := (if_pos c4).symm.trans hm
    refine lv_iconst (v := 0) hx hb dX7_hasRead_16 (by decide) ?_
    obtain rfl := Option.some.inj hm
    exact kI _ _ _ _ dX7_hasRead_17 Z nb0
  · replace hm := (if_neg c4).symm.trans hm
    refine lv_iconst (v := 1) hx hb dX7_hasRead_12 (by decide) ?_
    refine lv_goto (tgt := 17) hx hb dX7_hasRead_13 (by decide) ?_
    obtain rfl := Option.some.inj hm
    exact kI _ _ _ _ dX7_hasRead_17 Z nb1
theorem cX7_hasRead_c (l : Launch) {G : LY} {g : Mem} {x1 : Int32} {x2 : Int32} {r : Int32} (hm : sX7_hasRead g x1 x2 = some r) : cI l yX7_hasRead wmX7_hasRead 1 22 .boolean wM G [.ref (G.1 0), .int x1, .int x2] g r g :=
  mk_cI sameM (by decide +kernel) rfl (Nat.le_of_ble_eq_true rfl) (fun p e s m args below meth c A Q ls X kI hl Z => bX7_hasRead_0 X kI x1 x2 _ _ ls Z hl hm)
abbrev wmX7_written : List Cond := Cond.code yX7_written cX7_written 4 (some .int) :: wA0
set_option maxHeartbeats 4000000 in
set_option maxRecDepth 100000 in
theorem bX7_written_4 (X : gC p s m args meth c cX7_written 4 wmX7_written yX7_written.cls (some .int) G A) {n : Nat} {g : Mem} {r : Int32} (kI : ∀ (pc : Nat) (ls : Array Slot) (H : Heap) (locs : List Loc), decode cX7_written pc = .ok (.ireturn, 1) → WS wM G g A s.heap H locs → narrow .int (.int r) = .int r → W p l e { frames := 2, cells := 0, slots := 0, locals := 44 } s m args below meth c H locs 0 0 Q (F0 m pc ls [.int r])) : ∀ (f : Nat), ∀ (x1 : Int32) (x2 : Int32) (x3 : Int32) (H : Heap) (locs : List Loc) (ls : Array Slot), WS wM G g A s.heap H locs → lv_has ls 4 [(0, .ref (G.1 0)), (1, .int x1), (2, .int x2), (3, .int x3)] → sX7_written_4 n g f x1 x2 x3 = some r → W p l e { frames := 2, cells := 0, slots := 0, locals := 44 } s m args below meth c H locs 0 0 Q (F0 m 4 ls []) := by
  have hx := X.1
  have hb := X.2.1
  intro f
  induction f with
  | zero =>
    intro x1 x2 x3 H locs ls Z hl hm
    cases hm
  | succ f ih =>
    intro x1 x2 x3 H locs ls Z hl hm
    unfold sX7_written_4 at hm
    refine lv_iload_n hx hb dX7_written_4 rfl (lv_at hl 3 rfl) ?_
    refine lv_bipush (v := 8) hx hb dX7_written_5 (by decide) ?_
    refine lv_icmp_ge (tgt := 33) hx hb dX7_written_7 (by decide) (fun c1 => ?_) (fun c1 => ?_)
    · replace hm := (if_pos c1).symm.trans hm
      refine lv_iload_n hx hb dX7_written_33 rfl (lv_at hl 2 rfl) ?_
      obtain rfl := Option.some.inj hm
      exact kI _ _ _ _ dX7_written_34 Z (vp_nar_int _)
    · replace hm := (if_neg c1).symm.trans hm
      refine lv_iload_n hx hb dX7_written_10 rfl (lv_at hl 2 rfl) ?_
      refine lv_aload_n hx hb dX7_written_11 rfl (lv_at hl 0 rfl) ?_
      refine lv_iload_n hx hb dX7_written_12 rfl (lv_at hl 1 rfl) ?_
      refine lv_iload_n hx hb dX7_written_13 rfl (lv_at hl 3 rfl) ?_
      obtain ⟨r4, e2, hm⟩ := sBi_some hm
      refine g_callVI (n := 2) (As := [.int x1, .int x3]) (rest := [.int x2]) sameM X Z (cX7_hasWritten_c l e2) oX7 rfl (gooV mB657 mB658 mB659 mB614 mB651) rfl (by decide +kernel) rfl ⟨Nat.le_of_ble_eq_true rfl, Nat.le_of_ble_eq_true rfl⟩ ⟨Nat.le_of_ble_eq_true rfl, Nat.le_of_ble_eq_true rfl⟩ hl.1 rfl (Nat.le_of_ble_eq_true rfl) dX7_written_14 (fun w3 H locs Z => ?_)
      refine lv_if_eq (tgt := 24) hx hb dX7_written_17 (by decide) (fun c5 => ?_) (fun c5 => ?_)
      · replace hm := (if_pos c5).symm.trans hm
        refine lv_iconst (v := 0) hx hb dX7_written_24 (by decide) ?_
        refine lv_iadd hx hb dX7_written_25 ?_
        refine lv_istore_n (lv' := [(2, .int (x2 + (0 : Int32))), (0, .ref (G.1 0)), (1, .int x1), (3, .int x3)]) hx hb dX7_written_26 rfl hl (by decide) rfl (fun ls hl => ?_)
        refine lv_iinc (v := (x3 + (1 : Int32))) (lv' := [(3, .int (x3 + (1 : Int32))), (2, .int (x2 + (0 : Int32))), (0, .ref (G.1 0)), (1, .int x1)]) hx hb dX7_written_27 hl (k := 3) rfl rfl (by decide) rfl (fun ls hl => ?_)
        refine lv_goto (tgt := 4) hx hb dX7_written_30 (by decide) ?_
        exact ih x1 (x2 + (0 : Int32)) (x3 + (1 : Int32)) _ _ _ Z (lv_sub hl [2, 3, 1, 0] rfl) hm
      · replace hm := (if_neg c5).symm.trans hm
        refine lv_iconst (v := 1) hx hb dX7_written_20 (by decide) ?_
        refine lv_goto (tgt := 25) hx hb dX7_written_21 (by decide) ?_
        refine lv_iadd hx hb dX7_written_25 ?_
        refine lv_istore_n (lv' := [(2, .int (x2 + (1 : Int32))), (0, .ref (G.1 0)), (1, .int x1), (3, .int x3)]) hx hb dX7_written_26 rfl hl (by decide) rfl (fun ls hl => ?_)
        refine lv_iinc (v := (x3 + (1 : Int32))) (lv' := [(3, .int (x3 + (1 : Int32))), (2, .int (x2 + (1 : Int32))), (0, .ref (G.1 0)), (1, .int x1)]) hx hb dX7_written_27 hl (k := 3) rfl rfl (by decide) rfl (fun ls hl => ?_)
        refine lv_goto (tgt := 4) hx hb dX7_written_30 (by decide) ?_
        exact ih x1 (x2 + (1 : Int32)) (x3 + (1 : Int32)) _ _ _ Z (lv_sub hl [2, 3, 1, 0] rfl) hm
set_option maxHeartbeats 4000000 in
set_option maxRecDepth 100000 in
theorem bX7_written_0 (X : gC p s m args meth c cX7_written 4 wmX7_written yX7_written.cls (some .int) G A) {n : Nat} {g : Mem} {r : Int32} (kI : ∀ (pc : Nat) (ls : Array Slot) (H : Heap) (locs : List Loc), decode cX7_written pc = .ok (.ireturn, 1) → WS wM G g A s.heap H locs → narrow .int (.int r) = .int r → W p l e { frames := 2, cells := 0, slots := 0, locals := 44 } s m args below meth c H locs 0 0 Q (F0 m pc ls [.int r])) : ∀ (x1 : Int32) (H : Heap) (locs : List Loc) (ls : Array Slot), WS wM G g A s.heap H locs → lv_has ls 4 [(0, .ref (G.1 0)), (1, .int x1)] → sX7_written n g x1 = some r → W p l e { frames := 2, cells := 0, slots := 0, locals := 44 } s m args below meth c H locs 0 0 Q (F0 m 0 ls []) := by
  have hx := X.1
  have hb := X.2.1
  intro x1 H locs ls Z hl hm
  unfold sX7_written at hm
  refine lv_iconst (v := 0) hx hb dX7_written_0 (by decide) ?_
  refine lv_istore_n (lv' := [(2, .int 0), (0, .ref (G.1 0)), (1, .int x1)]) hx hb dX7_written_1 rfl hl (by decide) rfl (fun ls hl => ?_)
  refine lv_iconst (v := 0) hx hb dX7_written_2 (by decide) ?_
  refine lv_istore_n (lv' := [(3, .int 0), (2, .int 0), (0, .ref (G.1 0)), (1, .int x1)]) hx hb dX7_written_3 rfl hl (by decide) rfl (fun ls hl => ?_)
  exact bX7_written_4 X kI n x1 (0 : Int32) (0 : Int32) _ _ _ Z (lv_sub hl [2, 3, 1, 0] rfl) hm
theorem cX7_written_c (l : Launch) {G : LY} {g : Mem} {n : Nat} {x1 : Int32} {r : Int32} (hm : sX7_written n g x1 = some r) : cI l yX7_written wmX7_written 2 44 .int wM G [.ref (G.1 0), .int x1] g r g :=
  mk_cI sameM (by decide +kernel) rfl (Nat.le_of_ble_eq_true rfl) (fun p e s m args below meth c A Q ls X kI hl Z => bX7_written_0 X kI x1 _ _ ls Z hl hm)
abbrev wmX7_isVersion : List Cond := Cond.code yX7_isVersion cX7_isVersion 3 (some .boolean) :: wA0
set_option maxHeartbeats 4000000 in
set_option maxRecDepth 100000 in
theorem bX7_isVersion_0 (X : gC p s m args meth c cX7_isVersion 3 wmX7_isVersion yX7_isVersion.cls (some .boolean) G A) {g : Mem} {r : Int32} (kI : ∀ (pc : Nat) (ls : Array Slot) (H : Heap) (locs : List Loc), decode cX7_isVersion pc = .ok (.ireturn, 1) → WS wM G g A s.heap H locs → narrow .boolean (.int r) = .int r → W p l e { frames := 2, cells := 0, slots := 0, locals := 44 } s m args below meth c H locs 0 0 Q (F0 m pc ls [.int r])) : ∀ (x1 : Int32) (x2 : Int32) (H : Heap) (locs : List Loc) (ls : Array Slot), WS wM G g A s.heap H locs → lv_has ls 3 [(0, .ref (G.1 0)), (1, .int x1), (2, .int x2)] → sX7_isVersion g x1 x2 = some r → W p l e { frames := 2, cells := 0, slots := 0, locals := 44 } s m args below meth c H locs 0 0 Q (F0 m 0 ls []) := by
  have hx := X.1
  have hb := X.2.1
  intro x1 x2 H locs ls Z hl hm
  unfold sX7_isVersion at hm
  refine lv_aload_n hx hb dX7_isVersion_0 rfl (lv_at hl 0 rfl) ?_
  refine lv_iload_n hx hb dX7_isVersion_1 rfl (lv_at hl 1 rfl) ?_
  refine lv_iconst (v := 1) hx hb dX7_isVersion_2 (by decide) ?_
  obtain ⟨r3, e1, hm⟩ := sBi_some hm
  refine g_callVI (n := 2) (As := [.int x1, .int 1]) (rest := []) sameM X Z (cX7_of_c l e1) oX7 rfl (gooV mB652 mB653 mB654 mB614 mB649) rfl (by decide +kernel) rfl ⟨Nat.le_of_ble_eq_true rfl, Nat.le_of_ble_eq_true rfl⟩ ⟨Nat.le_of_ble_eq_true rfl, Nat.le_of_ble_eq_true rfl⟩ hl.1 rfl (Nat.le_of_ble_eq_true rfl) dX7_isVersion_3 (fun w2 H locs Z => ?_)
  refine lv_iconst (v := 2) hx hb dX7_isVersion_6 (by decide) ?_
  refine lv_icmp_ne (tgt := 23) hx hb dX7_isVersion_7 (by decide) (fun c4 => ?_) (fun c4 => ?_)
  · replace hm := (if_neg c4).symm.trans hm
    refine lv_iconst (v := 0) hx hb dX7_isVersion_23 (by decide) ?_
    obtain rfl := Option.some.inj hm
    exact kI _ _ _ _ dX7_isVersion_24 Z nb0
  · replace hm := (if_pos c4).symm.trans hm
    refine lv_aload_n hx hb dX7_isVersion_10 rfl (lv_at hl 0 rfl) ?_
    refine lv_iload_n hx hb dX7_isVersion_11 rfl (lv_at hl 1 rfl) ?_
    refine lv_iload_n hx hb dX7_isVersion_12 rfl (lv_at hl 2 rfl) ?_
    obtain ⟨r7, e5, hm⟩ := sBi_some hm
    refine g_callVI (n := 2) (As := [.int x1, .int x2]) (rest := []) sameM X Z (cX7_hasWritten_c l e5) oX7 rfl (gooV mB657 mB658 mB659 mB614 mB651) rfl (by decide +kernel) rfl ⟨Nat.le_of_ble_eq_true rfl, Nat.le_of_ble_eq_true rfl⟩ ⟨Nat.le_of_ble_eq_true rfl, Nat.le_of_ble_eq_true rfl⟩ hl.1 rfl (Nat.le_of_ble_eq_true rfl) dX7_isVersion_13 (fun w6 H locs Z => ?_)
    refine lv_if_eq (tgt := 23) hx hb dX7_isVersion_16 (by decide) (fun c8 => ?_) (fun c8 => ?_)
    · replace hm := (if_pos c8).symm.trans hm
      refine lv_iconst (v := 0) hx hb dX7_isVersion_23 (by decide) ?_
      obtain rfl := Option.some.inj hm
      exact kI _ _ _ _ dX7_isVersion_24 Z nb0
    · replace hm := (if_neg c8).symm.trans hm
      refine lv_iconst (v := 1) hx hb dX7_isVersion_19 (by decide) ?_
      refine lv_goto (tgt := 24) hx hb dX7_isVersion_20 (by decide) ?_
      obtain rfl := Option.some.inj hm
      exact kI _ _ _ _ dX7_isVersion_24 Z nb1
theorem cX7_isVersion_c (l : Launch) {G : LY} {g : Mem} {x1 : Int32} {x2 : Int32} {r : Int32} (hm : sX7_isVersion g x1 x2 = some r) : cI l yX7_isVersion wmX7_isVersion 2 44 .boolean wM G [.ref (G.1 0), .int x1, .int x2] g r g :=
  mk_cI sameM (by decide +kernel) rfl (Nat.le_of_ble_eq_true rfl) (fun p e s m args below meth c A Q ls X kI hl Z => bX7_isVersion_0 X kI x1 x2 _ _ ls Z hl hm)
abbrev wmX7_writer : List Cond := Cond.code yX7_writer cX7_writer 5 (some .int) :: wA0
set_option maxHeartbeats 4000000 in
set_option maxRecDepth 100000 in
theorem bX7_writer_5 (X : gC p s m args meth c cX7_writer 5 wmX7_writer yX7_writer.cls (some .int) G A) {n : Nat} {g : Mem} {r : Int32} (kI : ∀ (pc : Nat) (ls : Array Slot) (H : Heap) (locs : List Loc), decode cX7_writer pc = .ok (.ireturn, 1) → WS wM G g A s.heap H locs → narrow .int (.int r) = .int r → W p l e { frames := 3, cells := 0, slots := 0, locals := 66 } s m args below meth c H locs 0 0 Q (F0 m pc ls [.int r])) : ∀ (f : Nat), ∀ (x1 : Int32) (x2 : Int32) (x3 : Int32) (x4 : Int32) (H : Heap) (locs : List Loc) (ls : Array Slot), WS wM G g A s.heap H locs → lv_has ls 5 [(0, .ref (G.1 0)), (1, .int x1), (2, .int x2), (3, .int x3), (4, .int x4)] → sX7_writer_5 n g f x1 x2 x3 x4 = some r → W p l e { frames := 3, cells := 0, slots := 0, locals := 66 } s m args below meth c H locs 0 0 Q (F0 m 5 ls []) := by
  have hx := X.1
  have hb := X.2.1
  intro f
  induction f with
  | zero =>
    intro x1 x2 x3 x4 H locs ls Z hl hm
    cases hm
  | succ f ih =>
    intro x1 x2 x3 x4 H locs ls Z hl hm
    unfold sX7_writer_5 at hm
    refine lv_iload hx hb dX7_writer_5 (lv_at hl 4 rfl) ?_
    refine lv_aload_n hx hb dX7_writer_7 rfl (lv_at hl 0 rfl) ?_
    refine g_get (j := 0) (v := .ref (G.1 1)) X Z oX7 (iB7 _) rfl (by decide) rfl (List.mem_cons_of_mem _ mB602) rfl dX7_writer_8 ?_
    refine lv_iconst (v := 3) hx hb dX7_writer_11 (by decide) ?_
    obtain ⟨b1, hm⟩ := sIdx_some hm
    refine g_iald X Z aM1 b1 dX7_writer_12 ?_
    refine lv_icmp_ge (tgt := 67) hx hb dX7_writer_13 (by decide) (fun c2 => ?_) (fun c2 => ?_)
    · replace hm := (if_pos c2).symm.trans hm
      refine lv_iload_n hx hb dX7_writer_67 rfl (lv_at hl 3 rfl) ?_
      obtain rfl := Option.some.inj hm
      exact kI _ _ _ _ dX7_writer_68 Z (vp_nar_int _)
    · replace hm := (if_neg c2).symm.trans hm
      refine lv_aload_n hx hb dX7_writer_16 rfl (lv_at hl 0 rfl) ?_
      refine lv_iload hx hb dX7_writer_17 (lv_at hl 4 rfl) ?_
      refine lv_iload_n hx hb dX7_writer_19 rfl (lv_at hl 1 rfl) ?_
      obtain ⟨r5, e3, hm⟩ := sBi_some hm
      refine g_callVI (n := 2) (As := [.int x4, .int x1]) (rest := []) sameM X Z (cX7_isVersion_c l e3) oX7 rfl (gooV mB662 mB663 mB664 mB614 mB660) rfl (by decide +kernel) rfl ⟨Nat.le_of_ble_eq_true rfl, Nat.le_of_ble_eq_true rfl⟩ ⟨Nat.le_of_ble_eq_true rfl, Nat.le_of_ble_eq_true rfl⟩ hl.1 rfl (Nat.le_of_ble_eq_true rfl) dX7_writer_20 (fun w4 H locs Z => ?_)
      refine lv_if_eq (tgt := 61) hx hb dX7_writer_23 (by decide) (fun c6 => ?_) (fun c6 => ?_)
      · replace hm := (if_pos c6).symm.trans hm
        refine lv_iinc (v := (x4 + (1 : Int32))) (lv' := [(4, .int (x4 + (1 : Int32))), (0, .ref (G.1 0)), (1, .int x1), (2, .int x2), (3, .int x3)]) hx hb dX7_writer_61 hl (k := 4) rfl rfl (by decide) rfl (fun ls hl => ?_)
        refine lv_goto (tgt := 5) hx hb dX7_writer_64 (by decide) ?_
        exact ih x1 x2 x3 (x4 + (1 : Int32)) _ _ _ Z (lv_sub hl [1, 2, 3, 4, 0] rfl) hm
      · replace hm := (if_neg c6).symm.trans hm
        refine lv_aload_n hx hb dX7_writer_26 rfl (lv_at hl 0 rfl) ?_
        refine lv_iload hx hb dX7_writer_27 (lv_at hl 4 rfl) ?_
        refine lv_iconst (v := 2) hx hb dX7_writer_29 (by decide) ?_
        obtain ⟨r9, e7, hm⟩ := sBi_some hm
        refine g_callVI (n := 2) (As := [.int x4, .int 2]) (rest := []) sameM X Z (cX7_of_c l e7) oX7 rfl (gooV mB652 mB653 mB654 mB614 mB649) rfl (by decide +kernel) rfl ⟨Nat.le_of_ble_eq_true rfl, Nat.le_of_ble_eq_true rfl⟩ ⟨Nat.le_of_ble_eq_true rfl, Nat.le_of_ble_eq_true rfl⟩ hl.1 rfl (Nat.le_of_ble_eq_true rfl) dX7_writer_30 (fun w8 H locs Z => ?_)
        refine lv_iload_n hx hb dX7_writer_33 rfl (lv_at hl 2 rfl) ?_
        refine lv_icmp_gt (tgt := 61) hx hb dX7_writer_34 (by decide) (fun c10 => ?_) (fun c10 => ?_)
        · replace hm := (if_pos c10).symm.trans hm
          refine lv_iinc (v := (x4 + (1 : Int32))) (lv' := [(4, .int (x4 + (1 : Int32))), (0, .ref (G.1 0)), (1, .int x1), (2, .int x2), (3, .int x3)]) hx hb dX7_writer_61 hl (k := 4) rfl rfl (by decide) rfl (fun ls hl => ?_)
          refine lv_goto (tgt := 5) hx hb dX7_writer_64 (by decide) ?_
          exact ih x1 x2 x3 (x4 + (1 : Int32)) _ _ _ Z (lv_sub hl [1, 2, 3, 4, 0] rfl) hm
        · replace hm := (if_neg c10).symm.trans hm
          refine lv_iload_n hx hb dX7_writer_37 rfl (lv_at hl 3 rfl) ?_
          refine lv_iconst (v := (-1)) hx hb dX7_writer_38 (by decide) ?_
          refine lv_icmp_eq (tgt := 58) hx hb dX7_writer_39 (by decide) (fun c11 => ?_) (fun c11 => ?_)
          · replace hm := (if_pos c11).symm.trans hm
            refine lv_iload hx hb dX7_writer_58 (lv_at hl 4 rfl) ?_
            refine lv_istore_n (lv' := [(3, .int x4), (0, .ref (G.1 0)), (1, .int x1), (2, .int x2), (4, .int x4)]) hx hb dX7_writer_60 rfl hl (by decide) rfl (fun ls hl => ?_)
            refine lv_iinc (v := (x4 + (1 : Int32))) (lv' := [(4, .int (x4 + (1 : Int32))), (3, .int x4), (0, .ref (G.1 0)), (1, .int x1), (2, .int x2)]) hx hb dX7_writer_61 hl (k := 4) rfl rfl (by decide) rfl (fun ls hl => ?_)
            refine lv_goto (tgt := 5) hx hb dX7_writer_64 (by decide) ?_
            exact ih x1 x2 x4 (x4 + (1 : Int32)) _ _ _ Z (lv_sub hl [2, 3, 4, 1, 0] rfl) hm
          · replace hm := (if_neg c11).symm.trans hm
            refine lv_aload_n hx hb dX7_writer_42 rfl (lv_at hl 0 rfl) ?_
            refine lv_iload hx hb dX7_writer_43 (lv_at hl 4 rfl) ?_
            refine lv_iconst (v := 2) hx hb dX7_writer_45 (by decide) ?_
            obtain ⟨r14, e12, hm⟩ := sBi_some hm
            refine g_callVI (n := 2) (As := [.int x4, .int 2]) (rest := []) sameM X Z (cX7_of_c l e12) oX7 rfl (gooV mB652 mB653 mB654 mB614 mB649) rfl (by decide +kernel) rfl ⟨Nat.le_of_ble_eq_true rfl, Nat.le_of_ble_eq_true rfl⟩ ⟨Nat.le_of_ble_eq_true rfl, Nat.le_of_ble_eq_true rfl⟩ hl.1 rfl (Nat.le_of_ble_eq_true rfl) dX7_writer_46 (fun w13 H locs Z => ?_)
            refine lv_aload_n hx hb dX7_writer_49 rfl (lv_at hl 0 rfl) ?_
            refine lv_iload_n hx hb dX7_writer_50 rfl (lv_at hl 3 rfl) ?_
            refine lv_iconst (v := 2) hx hb dX7_writer_51 (by decide) ?_
            obtain ⟨r17, e15, hm⟩ := sBi_some hm
            refine g_callVI (n := 2) (As := [.int x3, .int 2]) (rest := [.int r14]) sameM X Z (cX7_of_c l e15) oX7 rfl (gooV mB652 mB653 mB654 mB614 mB649) rfl (by decide +kernel) rfl ⟨Nat.le_of_ble_eq_true rfl, Nat.le_of_ble_eq_true rfl⟩ ⟨Nat.le_of_ble_eq_true rfl, Nat.le_of_ble_eq_true rfl⟩ hl.1 rfl (Nat.le_of_ble_eq_true rfl) dX7_writer_52 (fun w16 H locs Z => ?_)
            refine lv_icmp_le (tgt := 61) hx hb dX7_writer_55 (by decide) (fun c18 => ?_) (fun c18 => ?_)
            · replace hm := (if_pos c18).symm.trans hm
              refine lv_iinc (v := (x4 + (1 : Int32))) (lv' := [(4, .int (x4 + (1 : Int32))), (0, .ref (G.1 0)), (1, .int x1), (2, .int x2), (3, .int x3)]) hx hb dX7_writer_61 hl (k := 4) rfl rfl (by decide) rfl (fun ls hl => ?_)
              refine lv_goto (tgt := 5) hx hb dX7_writer_64 (by decide) ?_
              exact ih x1 x2 x3 (x4 + (1 : Int32)) _ _ _ Z (lv_sub hl [1, 2, 3, 4, 0] rfl) hm
            · replace hm := (if_neg c18).symm.trans hm
              refine lv_iload hx hb dX7_writer_58 (lv_at hl 4 rfl) ?_
              refine lv_istore_n (lv' := [(3, .int x4), (0, .ref (G.1 0)), (1, .int x1), (2, .int x2), (4, .int x4)]) hx hb dX7_writer_60 rfl hl (by decide) rfl (fun ls hl => ?_)
              refine lv_iinc (v := (x4 + (1 : Int32))) (lv' := [(4, .int (x4 + (1 : Int32))), (3, .int x4), (0, .ref (G.1 0)), (1, .int x1), (2, .int x2)]) hx hb dX7_writer_61 hl (k := 4) rfl rfl (by decide) rfl (fun ls hl => ?_)
              refine lv_goto (tgt := 5) hx hb dX7_writer_64 (by decide) ?_
              exact ih x1 x2 x4 (x4 + (1 : Int32)) _ _ _ Z (lv_sub hl [2, 3, 4, 1, 0] rfl) hm
set_option maxHeartbeats 4000000 in
set_option maxRecDepth 100000 in
theorem bX7_writer_0 (X : gC p s m args meth c cX7_writer 5 wmX7_writer yX7_writer.cls (some .int) G A) {n : Nat} {g : Mem} {r : Int32} (kI : ∀ (pc : Nat) (ls : Array Slot) (H : Heap) (locs : List Loc), decode cX7_writer pc = .ok (.ireturn, 1) → WS wM G g A s.heap H locs → narrow .int (.int r) = .int r → W p l e { frames := 3, cells := 0, slots := 0, locals := 66 } s m args below meth c H locs 0 0 Q (F0 m pc ls [.int r])) : ∀ (x1 : Int32) (x2 : Int32) (H : Heap) (locs : List Loc) (ls : Array Slot), WS wM G g A s.heap H locs → lv_has ls 5 [(0, .ref (G.1 0)), (1, .int x1), (2, .int x2)] → sX7_writer n g x1 x2 = some r → W p l e { frames := 3, cells := 0, slots := 0, locals := 66 } s m args below meth c H locs 0 0 Q (F0 m 0 ls []) := by
  have hx := X.1
  have hb := X.2.1
  intro x1 x2 H locs ls Z hl hm
  unfold sX7_writer at hm
  refine lv_iconst (v := (-1)) hx hb dX7_writer_0 (by decide) ?_
  refine lv_istore_n (lv' := [(3, .int (-1)), (0, .ref (G.1 0)), (1, .int x1), (2, .int x2)]) hx hb dX7_writer_1 rfl hl (by decide) rfl (fun ls hl => ?_)
  refine lv_iconst (v := 0) hx hb dX7_writer_2 (by decide) ?_
  refine lv_istore (lv' := [(4, .int 0), (3, .int (-1)), (0, .ref (G.1 0)), (1, .int x1), (2, .int x2)]) hx hb dX7_writer_3 hl (by decide) rfl (fun ls hl => ?_)
  exact bX7_writer_5 X kI n x1 x2 (-1 : Int32) (0 : Int32) _ _ _ Z (lv_sub hl [2, 3, 4, 1, 0] rfl) hm
theorem cX7_writer_c (l : Launch) {G : LY} {g : Mem} {n : Nat} {x1 : Int32} {x2 : Int32} {r : Int32} (hm : sX7_writer n g x1 x2 = some r) : cI l yX7_writer wmX7_writer 3 66 .int wM G [.ref (G.1 0), .int x1, .int x2] g r g :=
  mk_cI sameM (by decide +kernel) rfl (Nat.le_of_ble_eq_true rfl) (fun p e s m args below meth c A Q ls X kI hl Z => bX7_writer_0 X kI x1 x2 _ _ ls Z hl hm)
abbrev wmX7_value : List Cond := Cond.code yX7_value cX7_value 4 (some .int) :: wA0
set_option maxHeartbeats 4000000 in
set_option maxRecDepth 100000 in
theorem bX7_value_0 (X : gC p s m args meth c cX7_value 4 wmX7_value yX7_value.cls (some .int) G A) {n : Nat} {g : Mem} {r : Int32} (kI : ∀ (pc : Nat) (ls : Array Slot) (H : Heap) (locs : List Loc), decode cX7_value pc = .ok (.ireturn, 1) → WS wM G g A s.heap H locs → narrow .int (.int r) = .int r → W p l e { frames := 4, cells := 0, slots := 0, locals := 90 } s m args below meth c H locs 0 0 Q (F0 m pc ls [.int r])) : ∀ (x1 : Int32) (x2 : Int32) (H : Heap) (locs : List Loc) (ls : Array Slot), WS wM G g A s.heap H locs → lv_has ls 4 [(0, .ref (G.1 0)), (1, .int x1), (2, .int x2)] → sX7_value n g x1 x2 = some r → W p l e { frames := 4, cells := 0, slots := 0, locals := 90 } s m args below meth c H locs 0 0 Q (F0 m 0 ls []) := by
  have hx := X.1
  have hb := X.2.1
  intro x1 x2 H locs ls Z hl hm
  unfold sX7_value at hm
  refine lv_aload_n hx hb dX7_value_0 rfl (lv_at hl 0 rfl) ?_
  refine lv_iload_n hx hb dX7_value_1 rfl (lv_at hl 1 rfl) ?_
  refine lv_iload_n hx hb dX7_value_2 rfl (lv_at hl 2 rfl) ?_
  obtain ⟨r3, e1, hm⟩ := sBi_some hm
  refine g_callVI (n := 2) (As := [.int x1, .int x2]) (rest := []) sameM X Z (cX7_writer_c l e1) oX7 rfl (gooV mB666 mB667 mB668 mB614 mB661) rfl (by decide +kernel) rfl ⟨Nat.le_of_ble_eq_true rfl, Nat.le_of_ble_eq_true rfl⟩ ⟨Nat.le_of_ble_eq_true rfl, Nat.le_of_ble_eq_true rfl⟩ hl.1 rfl (Nat.le_of_ble_eq_true rfl) dX7_value_3 (fun w2 H locs Z => ?_)
  refine lv_istore_n (lv' := [(3, .int r3), (0, .ref (G.1 0)), (1, .int x1), (2, .int x2)]) hx hb dX7_value_6 rfl hl (by decide) rfl (fun ls hl => ?_)
  refine lv_iload_n hx hb dX7_value_7 rfl (lv_at hl 0 rfl) ?_
  refine lv_iconst (v := (-1)) hx hb dX7_value_8 (by decide) ?_
  refine lv_icmp_ne (tgt := 16) hx hb dX7_value_9 (by decide) (fun c4 => ?_) (fun c4 => ?_)
  · replace hm := (if_neg c4).symm.trans hm
    refine lv_aload_n hx hb dX7_value_16 rfl (lv_at hl 1 rfl) ?_
    refine lv_iload_n hx hb dX7_value_17 rfl (lv_at hl 0 rfl) ?_
    refine lv_iconst (v := 5) hx hb dX7_value_18 (by decide) ?_
    refine lv_iload_n hx hb dX7_value_19 rfl (lv_at hl 2 rfl) ?_
    refine lv_iadd hx hb dX7_value_20 ?_
    obtain ⟨r7, e5, hm⟩ := sBi_some hm
    refine g_callVI (n := 2) (As := [.int r3, .int ((5 : Int32) + x1)]) (rest := []) sameM X Z (cX7_of_c l e5) oX7 rfl (gooV mB652 mB653 mB654 mB614 mB649) rfl (by decide +kernel) rfl ⟨Nat.le_of_ble_eq_true rfl, Nat.le_of_ble_eq_true rfl⟩ ⟨Nat.le_of_ble_eq_true rfl, Nat.le_of_ble_eq_true rfl⟩ hl.1 rfl (Nat.le_of_ble_eq_true rfl) dX7_value_21 (fun w6 H locs Z => ?_)
    obtain rfl := Option.some.inj hm
    exact kI _ _ _ _ dX7_value_24 Z (vp_nar_int _)
  · replace hm := (if_pos c4).symm.trans hm
    refine lv_iconst (v := 0) hx hb dX7_value_12 (by decide) ?_
    refine lv_goto (tgt := 24) hx hb dX7_value_13 (by decide) ?_
    obtain rfl := Option.some.inj hm
    exact kI _ _ _ _ dX7_value_24 Z (vp_nar_int _)
theorem cX7_value_c (l : Launch) {G : LY} {g : Mem} {n : Nat} {x1 : Int32} {x2 : Int32} {r : Int32} (hm : sX7_value n g x1 x2 = some r) : cI l yX7_value wmX7_value 4 90 .int wM G [.ref (G.1 0), .int x1, .int x2] g r g :=
  mk_cI sameM (by decide +kernel) rfl (Nat.le_of_ble_eq_true rfl) (fun p e s m args below meth c A Q ls X kI hl Z => bX7_value_0 X kI x1 x2 _ _ ls Z hl hm)
abbrev wmX7_newest : List Cond := Cond.code yX7_newest cX7_newest 3 (some .int) :: wA0
set_option maxHeartbeats 4000000 in
set_option maxRecDepth 100000 in
theorem bX7_newest_0 (X : gC p s m args meth c cX7_newest 3 wmX7_newest yX7_newest.cls (some .int) G A) {n : Nat} {g : Mem} {r : Int32} (kI : ∀ (pc : Nat) (ls : Array Slot) (H : Heap) (locs : List Loc), decode cX7_newest pc = .ok (.ireturn, 1) → WS wM G g A s.heap H locs → narrow .int (.int r) = .int r → W p l e { frames := 4, cells := 0, slots := 0, locals := 90 } s m args below meth c H locs 0 0 Q (F0 m pc ls [.int r])) : ∀ (x1 : Int32) (H : Heap) (locs : List Loc) (ls : Array Slot), WS wM G g A s.heap H locs → lv_has ls 3 [(0, .ref (G.1 0)), (1, .int x1)] → sX7_newest n g x1 = some r → W p l e { frames := 4, cells := 0, slots := 0, locals := 90 } s m args below meth c H locs 0 0 Q (F0 m 0 ls []) := by
  have hx := X.1
  have hb := X.2.1
  intro x1 H locs ls Z hl hm
  unfold sX7_newest at hm
  refine lv_aload_n hx hb dX7_newest_0 rfl (lv_at hl 0 rfl) ?_
  refine lv_iload_n hx hb dX7_newest_1 rfl (lv_at hl 1 rfl) ?_
  refine lv_ldc (v := 2000000000) hx hb X.2.2.2.1 (X.2.2.2.2.1 _ (List.mem_cons_of_mem _ mB670)) dX7_newest_2 ?_
  obtain ⟨r3, e1, hm⟩ := sBi_some hm
  refine g_callVI (n := 2) (As := [.int x1, .int 2000000000]) (rest := []) sameM X Z (cX7_writer_c l e1) oX7 rfl (gooV mB666 mB667 mB668 mB614 mB661) rfl (by decide +kernel) rfl ⟨Nat.le_of_ble_eq_true rfl, Nat.le_of_ble_eq_true rfl⟩ ⟨Nat.le_of_ble_eq_true rfl, Nat.le_of_ble_eq_true rfl⟩ hl.1 rfl (Nat.le_of_ble_eq_true rfl) dX7_newest_4 (fun w2 H locs Z => ?_)
  refine lv_istore_n (lv' := [(2, .int r3), (0, .ref (G.1 0)), (1, .int x1)]) hx hb dX7_newest_7 rfl hl (by decide) rfl (fun ls hl => ?_)
  refine lv_iload_n hx hb dX7_newest_8 rfl (lv_at hl 0 rfl) ?_
  refine lv_iconst (v := (-1)) hx hb dX7_newest_9 (by decide) ?_
  refine lv_icmp_ne (tgt := 17) hx hb dX7_newest_10 (by decide) (fun c4 => ?_) (fun c4 => ?_)
  · replace hm := (if_neg c4).symm.trans hm
    refine lv_aload_n hx hb dX7_newest_17 rfl (lv_at hl 1 rfl) ?_
    refine lv_iload_n hx hb dX7_newest_18 rfl (lv_at hl 0 rfl) ?_
    refine lv_iconst (v := 2) hx hb dX7_newest_19 (by decide) ?_
    obtain ⟨r7, e5, hm⟩ := sBi_some hm
    refine g_callVI (n := 2) (As := [.int r3, .int 2]) (rest := []) sameM X Z (cX7_of_c l e5) oX7 rfl (gooV mB652 mB653 mB654 mB614 mB649) rfl (by decide +kernel) rfl ⟨Nat.le_of_ble_eq_true rfl, Nat.le_of_ble_eq_true rfl⟩ ⟨Nat.le_of_ble_eq_true rfl, Nat.le_of_ble_eq_true rfl⟩ hl.1 rfl (Nat.le_of_ble_eq_true rfl) dX7_newest_20 (fun w6 H locs Z => ?_)
    obtain rfl := Option.some.inj hm
    exact kI _ _ _ _ dX7_newest_23 Z (vp_nar_int _)
  · replace hm := (if_pos c4).symm.trans hm
    refine lv_iconst (v := 0) hx hb dX7_newest_13 (by decide) ?_
    refine lv_goto (tgt := 23) hx hb dX7_newest_14 (by decide) ?_
    obtain rfl := Option.some.inj hm
    exact kI _ _ _ _ dX7_newest_23 Z (vp_nar_int _)
theorem cX7_newest_c (l : Launch) {G : LY} {g : Mem} {n : Nat} {x1 : Int32} {r : Int32} (hm : sX7_newest n g x1 = some r) : cI l yX7_newest wmX7_newest 4 90 .int wM G [.ref (G.1 0), .int x1] g r g :=
  mk_cI sameM (by decide +kernel) rfl (Nat.le_of_ble_eq_true rfl) (fun p e s m args below meth c A Q ls X kI hl Z => bX7_newest_0 X kI x1 _ _ ls Z hl hm)
abbrev wmX7_mark : List Cond := Cond.code yX7_mark cX7_mark 4 (some .int) :: wA0
set_option maxHeartbeats 4000000 in
set_option maxRecDepth 100000 in
theorem bX7_mark_4 (X : gC p s m args meth c cX7_mark 4 wmX7_mark yX7_mark.cls (some .int) G A) {n : Nat} {g : Mem} {r : Int32} (kI : ∀ (pc : Nat) (ls : Array Slot) (H : Heap) (locs : List Loc), decode cX7_mark pc = .ok (.ireturn, 1) → WS wM G g A s.heap H locs → narrow .int (.int r) = .int r → W p l e { frames := 2, cells := 0, slots := 0, locals := 44 } s m args below meth c H locs 0 0 Q (F0 m pc ls [.int r])) : ∀ (f : Nat), ∀ (x1 : Int32) (x2 : Int32) (x3 : Int32) (H : Heap) (locs : List Loc) (ls : Array Slot), WS wM G g A s.heap H locs → lv_has ls 4 [(0, .ref (G.1 0)), (1, .int x1), (2, .int x2), (3, .int x3)] → sX7_mark_4 n g f x1 x2 x3 = some r → W p l e { frames := 2, cells := 0, slots := 0, locals := 44 } s m args below meth c H locs 0 0 Q (F0 m 4 ls []) := by
  have hx := X.1
  have hb := X.2.1
  intro f
  induction f with
  | zero =>
    intro x1 x2 x3 H locs ls Z hl hm
    cases hm
  | succ f ih =>
    intro x1 x2 x3 H locs ls Z hl hm
    unfold sX7_mark_4 at hm
    refine lv_iload_n hx hb dX7_mark_4 rfl (lv_at hl 3 rfl) ?_
    refine lv_aload_n hx hb dX7_mark_5 rfl (lv_at hl 0 rfl) ?_
    refine g_get (j := 0) (v := .ref (G.1 1)) X Z oX7 (iB7 _) rfl (by decide) rfl (List.mem_cons_of_mem _ mB602) rfl dX7_mark_6 ?_
    refine lv_iconst (v := 3) hx hb dX7_mark_9 (by decide) ?_
    obtain ⟨b1, hm⟩ := sIdx_some hm
    refine g_iald X Z aM1 b1 dX7_mark_10 ?_
    refine lv_icmp_ge (tgt := 54) hx hb dX7_mark_11 (by decide) (fun c2 => ?_) (fun c2 => ?_)
    · replace hm := (if_pos c2).symm.trans hm
      refine lv_iload_n hx hb dX7_mark_54 rfl (lv_at hl 2 rfl) ?_
      obtain rfl := Option.some.inj hm
      exact kI _ _ _ _ dX7_mark_55 Z (vp_nar_int _)
    · replace hm := (if_neg c2).symm.trans hm
      refine lv_aload_n hx hb dX7_mark_14 rfl (lv_at hl 0 rfl) ?_
      refine lv_iload_n hx hb dX7_mark_15 rfl (lv_at hl 3 rfl) ?_
      refine lv_iconst (v := 1) hx hb dX7_mark_16 (by decide) ?_
      obtain ⟨r5, e3, hm⟩ := sBi_some hm
      refine g_callVI (n := 2) (As := [.int x3, .int 1]) (rest := []) sameM X Z (cX7_of_c l e3) oX7 rfl (gooV mB652 mB653 mB654 mB614 mB649) rfl (by decide +kernel) rfl ⟨Nat.le_of_ble_eq_true rfl, Nat.le_of_ble_eq_true rfl⟩ ⟨Nat.le_of_ble_eq_true rfl, Nat.le_of_ble_eq_true rfl⟩ hl.1 rfl (Nat.le_of_ble_eq_true rfl) dX7_mark_17 (fun w4 H locs Z => ?_)
      refine lv_iconst (v := 2) hx hb dX7_mark_20 (by decide) ?_
      refine lv_icmp_ne (tgt := 46) hx hb dX7_mark_21 (by decide) (fun c6 => ?_) (fun c6 => ?_)
      · replace hm := (if_neg c6).symm.trans hm
        refine lv_iload_n hx hb dX7_mark_46 rfl (lv_at hl 2 rfl) ?_
        refine lv_istore_n (lv' := [(2, .int x2), (0, .ref (G.1 0)), (1, .int x1), (3, .int x3)]) hx hb dX7_mark_47 rfl hl (by decide) rfl (fun ls hl => ?_)
        refine lv_iinc (v := (x3 + (1 : Int32))) (lv' := [(3, .int (x3 + (1 : Int32))), (2, .int x2), (0, .ref (G.1 0)), (1, .int x1)]) hx hb dX7_mark_48 hl (k := 3) rfl rfl (by decide) rfl (fun ls hl => ?_)
        refine lv_goto (tgt := 4) hx hb dX7_mark_51 (by decide) ?_
        exact ih x1 x2 (x3 + (1 : Int32)) _ _ _ Z (lv_sub hl [2, 3, 1, 0] rfl) hm
      · replace hm := (if_pos c6).symm.trans hm
        refine lv_aload_n hx hb dX7_mark_24 rfl (lv_at hl 0 rfl) ?_
        refine lv_iload_n hx hb dX7_mark_25 rfl (lv_at hl 3 rfl) ?_
        refine lv_iload_n hx hb dX7_mark_26 rfl (lv_at hl 1 rfl) ?_
        obtain ⟨r9, e7, hm⟩ := sBi_some hm
        refine g_callVI (n := 2) (As := [.int x3, .int x1]) (rest := []) sameM X Z (cX7_hasRead_c l e7) oX7 rfl (gooV mB672 mB673 mB674 mB614 mB655) rfl (by decide +kernel) rfl ⟨Nat.le_of_ble_eq_true rfl, Nat.le_of_ble_eq_true rfl⟩ ⟨Nat.le_of_ble_eq_true rfl, Nat.le_of_ble_eq_true rfl⟩ hl.1 rfl (Nat.le_of_ble_eq_true rfl) dX7_mark_27 (fun w8 H locs Z => ?_)
        refine lv_if_eq (tgt := 46) hx hb dX7_mark_30 (by decide) (fun c10 => ?_) (fun c10 => ?_)
        · replace hm := (if_pos c10).symm.trans hm
          refine lv_iload_n hx hb dX7_mark_46 rfl (lv_at hl 2 rfl) ?_
          refine lv_istore_n (lv' := [(2, .int x2), (0, .ref (G.1 0)), (1, .int x1), (3, .int x3)]) hx hb dX7_mark_47 rfl hl (by decide) rfl (fun ls hl => ?_)
          refine lv_iinc (v := (x3 + (1 : Int32))) (lv' := [(3, .int (x3 + (1 : Int32))), (2, .int x2), (0, .ref (G.1 0)), (1, .int x1)]) hx hb dX7_mark_48 hl (k := 3) rfl rfl (by decide) rfl (fun ls hl => ?_)
          refine lv_goto (tgt := 4) hx hb dX7_mark_51 (by decide) ?_
          exact ih x1 x2 (x3 + (1 : Int32)) _ _ _ Z (lv_sub hl [2, 3, 1, 0] rfl) hm
        · replace hm := (if_neg c10).symm.trans hm
          refine lv_iload_n hx hb dX7_mark_33 rfl (lv_at hl 2 rfl) ?_
          refine lv_aload_n hx hb dX7_mark_34 rfl (lv_at hl 0 rfl) ?_
          refine lv_iload_n hx hb dX7_mark_35 rfl (lv_at hl 3 rfl) ?_
          refine lv_iconst (v := 2) hx hb dX7_mark_36 (by decide) ?_
          obtain ⟨r13, e11, hm⟩ := sBi_some hm
          refine g_callVI (n := 2) (As := [.int x3, .int 2]) (rest := [.int x2]) sameM X Z (cX7_of_c l e11) oX7 rfl (gooV mB652 mB653 mB654 mB614 mB649) rfl (by decide +kernel) rfl ⟨Nat.le_of_ble_eq_true rfl, Nat.le_of_ble_eq_true rfl⟩ ⟨Nat.le_of_ble_eq_true rfl, Nat.le_of_ble_eq_true rfl⟩ hl.1 rfl (Nat.le_of_ble_eq_true rfl) dX7_mark_37 (fun w12 H locs Z => ?_)
          obtain ⟨r16, e14, hm⟩ := sBi_some hm
          refine g_callSI (n := 2) (As := [.int x2, .int r13]) (rest := []) sameM X Z (cX7_greater_c l e14) (gooS mB675 mB676 mB614 mB617) rfl (by decide +kernel) rfl ⟨Nat.le_of_ble_eq_true rfl, Nat.le_of_ble_eq_true rfl⟩ ⟨Nat.le_of_ble_eq_true rfl, Nat.le_of_ble_eq_true rfl⟩ hl.1 rfl (Nat.le_of_ble_eq_true rfl) dX7_mark_40 (fun w15 H locs Z => ?_)
          refine lv_goto (tgt := 47) hx hb dX7_mark_43 (by decide) ?_
          refine lv_istore_n (lv' := [(2, .int r16), (0, .ref (G.1 0)), (1, .int x1), (3, .int x3)]) hx hb dX7_mark_47 rfl hl (by decide) rfl (fun ls hl => ?_)
          refine lv_iinc (v := (x3 + (1 : Int32))) (lv' := [(3, .int (x3 + (1 : Int32))), (2, .int r16), (0, .ref (G.1 0)), (1, .int x1)]) hx hb dX7_mark_48 hl (k := 3) rfl rfl (by decide) rfl (fun ls hl => ?_)
          refine lv_goto (tgt := 4) hx hb dX7_mark_51 (by decide) ?_
          exact ih x1 r16 (x3 + (1 : Int32)) _ _ _ Z (lv_sub hl [2, 3, 1, 0] rfl) hm
set_option maxHeartbeats 4000000 in
set_option maxRecDepth 100000 in
theorem bX7_mark_0 (X : gC p s m args meth c cX7_mark 4 wmX7_mark yX7_mark.cls (some .int) G A) {n : Nat} {g : Mem} {r : Int32} (kI : ∀ (pc : Nat) (ls : Array Slot) (H : Heap) (locs : List Loc), decode cX7_mark pc = .ok (.ireturn, 1) → WS wM G g A s.heap H locs → narrow .int (.int r) = .int r → W p l e { frames := 2, cells := 0, slots := 0, locals := 44 } s m args below meth c H locs 0 0 Q (F0 m pc ls [.int r])) : ∀ (x1 : Int32) (H : Heap) (locs : List Loc) (ls : Array Slot), WS wM G g A s.heap H locs → lv_has ls 4 [(0, .ref (G.1 0)), (1, .int x1)] → sX7_mark n g x1 = some r → W p l e { frames := 2, cells := 0, slots := 0, locals := 44 } s m args below meth c H locs 0 0 Q (F0 m 0 ls []) := by
  have hx := X.1
  have hb := X.2.1
  intro x1 H locs ls Z hl hm
  unfold sX7_mark at hm
  refine lv_iconst (v := 0) hx hb dX7_mark_0 (by decide) ?_
  refine lv_istore_n (lv' := [(2, .int 0), (0, .ref (G.1 0)), (1, .int x1)]) hx hb dX7_mark_1 rfl hl (by decide) rfl (fun ls hl => ?_)
  refine lv_iconst (v := 0) hx hb dX7_mark_2 (by decide) ?_
  refine lv_istore_n (lv' := [(3, .int 0), (2, .int 0), (0, .ref (G.1 0)), (1, .int x1)]) hx hb dX7_mark_3 rfl hl (by decide) rfl (fun ls hl => ?_)
  exact bX7_mark_4 X kI n x1 (0 : Int32) (0 : Int32) _ _ _ Z (lv_sub hl [2, 3, 1, 0] rfl) hm
theorem cX7_mark_c (l : Launch) {G : LY} {g : Mem} {n : Nat} {x1 : Int32} {r : Int32} (hm : sX7_mark n g x1 = some r) : cI l yX7_mark wmX7_mark 2 44 .int wM G [.ref (G.1 0), .int x1] g r g :=
  mk_cI sameM (by decide +kernel) rfl (Nat.le_of_ble_eq_true rfl) (fun p e s m args below meth c A Q ls X kI hl Z => bX7_mark_0 X kI x1 _ _ ls Z hl hm)
abbrev wmX7_isConflict : List Cond := Cond.code yX7_isConflict cX7_isConflict 4 (some .boolean) :: wA0
set_option maxHeartbeats 4000000 in
set_option maxRecDepth 100000 in
theorem bX7_isConflict_4 (X : gC p s m args meth c cX7_isConflict 4 wmX7_isConflict yX7_isConflict.cls (some .boolean) G A) {n : Nat} {g : Mem} {r : Int32} (kI : ∀ (pc : Nat) (ls : Array Slot) (H : Heap) (locs : List Loc), decode cX7_isConflict pc = .ok (.ireturn, 1) → WS wM G g A s.heap H locs → narrow .boolean (.int r) = .int r → W p l e { frames := 5, cells := 0, slots := 0, locals := 112 } s m args below meth c H locs 0 0 Q (F0 m pc ls [.int r])) : ∀ (f : Nat), ∀ (x1 : Int32) (x2 : Int32) (x3 : Int32) (H : Heap) (locs : List Loc) (ls : Array Slot), WS wM G g A s.heap H locs → lv_has ls 4 [(0, .ref (G.1 0)), (1, .int x1), (2, .int x2), (3, .int x3)] → sX7_isConflict_4 n g f x1 x2 x3 = some r → W p l e { frames := 5, cells := 0, slots := 0, locals := 112 } s m args below meth c H locs 0 0 Q (F0 m 4 ls []) := by
  have hx := X.1
  have hb := X.2.1
  intro f
  induction f with
  | zero =>
    intro x1 x2 x3 H locs ls Z hl hm
    cases hm
  | succ f ih =>
    intro x1 x2 x3 H locs ls Z hl hm
    unfold sX7_isConflict_4 at hm
    refine lv_iload_n hx hb dX7_isConflict_4 rfl (lv_at hl 3 rfl) ?_
    refine lv_bipush (v := 8) hx hb dX7_isConflict_5 (by decide) ?_
    refine lv_icmp_ge (tgt := 52) hx hb dX7_isConflict_7 (by decide) (fun c1 => ?_) (fun c1 => ?_)
    · replace hm := (if_pos c1).symm.trans hm
      refine lv_iload_n hx hb dX7_isConflict_52 rfl (lv_at hl 2 rfl) ?_
      obtain ⟨w2, hm⟩ := sBb_some hm
      obtain rfl := Option.some.inj hm
      exact kI _ _ _ _ dX7_isConflict_53 Z w2
    · replace hm := (if_neg c1).symm.trans hm
      refine lv_iload_n hx hb dX7_isConflict_10 rfl (lv_at hl 2 rfl) ?_
      refine lv_if_ne (tgt := 40) hx hb dX7_isConflict_11 (by decide) (fun c3 => ?_) (fun c3 => ?_)
      · replace hm := (if_neg c3).symm.trans hm
        refine lv_iconst (v := 1) hx hb dX7_isConflict_40 (by decide) ?_
        refine lv_goto (tgt := 45) hx hb dX7_isConflict_41 (by decide) ?_
        refine lv_istore_n (lv' := [(2, .int 1), (0, .ref (G.1 0)), (1, .int x1), (3, .int x3)]) hx hb dX7_isConflict_45 rfl hl (by decide) rfl (fun ls hl => ?_)
        refine lv_iinc (v := (x3 + (1 : Int32))) (lv' := [(3, .int (x3 + (1 : Int32))), (2, .int 1), (0, .ref (G.1 0)), (1, .int x1)]) hx hb dX7_isConflict_46 hl (k := 3) rfl rfl (by decide) rfl (fun ls hl => ?_)
        refine lv_goto (tgt := 4) hx hb dX7_isConflict_49 (by decide) ?_
        exact ih x1 (1 : Int32) (x3 + (1 : Int32)) _ _ _ Z (lv_sub hl [2, 3, 1, 0] rfl) hm
      · replace hm := (if_pos c3).symm.trans hm
        refine lv_aload_n hx hb dX7_isConflict_14 rfl (lv_at hl 0 rfl) ?_
        refine lv_iload_n hx hb dX7_isConflict_15 rfl (lv_at hl 1 rfl) ?_
        refine lv_iload_n hx hb dX7_isConflict_16 rfl (lv_at hl 3 rfl) ?_
        obtain ⟨r6, e4, hm⟩ := sBi_some hm
        refine g_callVI (n := 2) (As := [.int x1, .int x3]) (rest := []) sameM X Z (cX7_hasRead_c l e4) oX7 rfl (gooV mB672 mB673 mB674 mB614 mB655) rfl (by decide +kernel) rfl ⟨Nat.le_of_ble_eq_true rfl, Nat.le_of_ble_eq_true rfl⟩ ⟨Nat.le_of_ble_eq_true rfl, Nat.le_of_ble_eq_true rfl⟩ hl.1 rfl (Nat.le_of_ble_eq_true rfl) dX7_isConflict_17 (fun w5 H locs Z => ?_)
        refine lv_if_eq (tgt := 44) hx hb dX7_isConflict_20 (by decide) (fun c7 => ?_) (fun c7 => ?_)
        · replace hm := (if_pos c7).symm.trans hm
          refine lv_iconst (v := 0) hx hb dX7_isConflict_44 (by decide) ?_
          refine lv_istore_n (lv' := [(2, .int 0), (0, .ref (G.1 0)), (1, .int x1), (3, .int x3)]) hx hb dX7_isConflict_45 rfl hl (by decide) rfl (fun ls hl => ?_)
          refine lv_iinc (v := (x3 + (1 : Int32))) (lv' := [(3, .int (x3 + (1 : Int32))), (2, .int 0), (0, .ref (G.1 0)), (1, .int x1)]) hx hb dX7_isConflict_46 hl (k := 3) rfl rfl (by decide) rfl (fun ls hl => ?_)
          refine lv_goto (tgt := 4) hx hb dX7_isConflict_49 (by decide) ?_
          exact ih x1 (0 : Int32) (x3 + (1 : Int32)) _ _ _ Z (lv_sub hl [2, 3, 1, 0] rfl) hm
        · replace hm := (if_neg c7).symm.trans hm
          refine lv_aload_n hx hb dX7_isConflict_23 rfl (lv_at hl 0 rfl) ?_
          refine lv_iload_n hx hb dX7_isConflict_24 rfl (lv_at hl 3 rfl) ?_
          obtain ⟨r10, e8, hm⟩ := sBi_some hm
          refine g_callVI (n := 1) (As := [.int x3]) (rest := []) sameM X Z (cX7_newest_c l e8) oX7 rfl (gooV mB677 mB678 mB679 mB614 mB669) rfl (by decide +kernel) rfl ⟨Nat.le_of_ble_eq_true rfl, Nat.le_of_ble_eq_true rfl⟩ ⟨Nat.le_of_ble_eq_true rfl, Nat.le_of_ble_eq_true rfl⟩ hl.1 rfl (Nat.le_of_ble_eq_true rfl) dX7_isConflict_25 (fun w9 H locs Z => ?_)
          refine lv_aload_n hx hb dX7_isConflict_28 rfl (lv_at hl 0 rfl) ?_
          refine lv_iload_n hx hb dX7_isConflict_29 rfl (lv_at hl 1 rfl) ?_
          refine lv_bipush (v := 13) hx hb dX7_isConflict_30 (by decide) ?_
          refine lv_iload_n hx hb dX7_isConflict_32 rfl (lv_at hl 3 rfl) ?_
          refine lv_iadd hx hb dX7_isConflict_33 ?_
          obtain ⟨r13, e11, hm⟩ := sBi_some hm
          refine g_callVI (n := 2) (As := [.int x1, .int ((13 : Int32) + x3)]) (rest := [.int r10]) sameM X Z (cX7_of_c l e11) oX7 rfl (gooV mB652 mB653 mB654 mB614 mB649) rfl (by decide +kernel) rfl ⟨Nat.le_of_ble_eq_true rfl, Nat.le_of_ble_eq_true rfl⟩ ⟨Nat.le_of_ble_eq_true rfl, Nat.le_of_ble_eq_true rfl⟩ hl.1 rfl (Nat.le_of_ble_eq_true rfl) dX7_isConflict_34 (fun w12 H locs Z => ?_)
          refine lv_icmp_eq (tgt := 44) hx hb dX7_isConflict_37 (by decide) (fun c14 => ?_) (fun c14 => ?_)
          · replace hm := (if_pos c14).symm.trans hm
            refine lv_iconst (v := 0) hx hb dX7_isConflict_44 (by decide) ?_
            refine lv_istore_n (lv' := [(2, .int 0), (0, .ref (G.1 0)), (1, .int x1), (3, .int x3)]) hx hb dX7_isConflict_45 rfl hl (by decide) rfl (fun ls hl => ?_)
            refine lv_iinc (v := (x3 + (1 : Int32))) (lv' := [(3, .int (x3 + (1 : Int32))), (2, .int 0), (0, .ref (G.1 0)), (1, .int x1)]) hx hb dX7_isConflict_46 hl (k := 3) rfl rfl (by decide) rfl (fun ls hl => ?_)
            refine lv_goto (tgt := 4) hx hb dX7_isConflict_49 (by decide) ?_
            exact ih x1 (0 : Int32) (x3 + (1 : Int32)) _ _ _ Z (lv_sub hl [2, 3, 1, 0] rfl) hm
          · replace hm := (if_neg c14).symm.trans hm
            refine lv_iconst (v := 1) hx hb dX7_isConflict_40 (by decide) ?_
            refine lv_goto (tgt := 45) hx hb dX7_isConflict_41 (by decide) ?_
            refine lv_istore_n (lv' := [(2, .int 1), (0, .ref (G.1 0)), (1, .int x1), (3, .int x3)]) hx hb dX7_isConflict_45 rfl hl (by decide) rfl (fun ls hl => ?_)
            refine lv_iinc (v := (x3 + (1 : Int32))) (lv' := [(3, .int (x3 + (1 : Int32))), (2, .int 1), (0, .ref (G.1 0)), (1, .int x1)]) hx hb dX7_isConflict_46 hl (k := 3) rfl rfl (by decide) rfl (fun ls hl => ?_)
            refine lv_goto (tgt := 4) hx hb dX7_isConflict_49 (by decide) ?_
            exact ih x1 (1 : Int32) (x3 + (1 : Int32)) _ _ _ Z (lv_sub hl [2, 3, 1, 0] rfl) hm
set_option maxHeartbeats 4000000 in
set_option maxRecDepth 100000 in
theorem bX7_isConflict_0 (X : gC p s m args meth c cX7_isConflict 4 wmX7_isConflict yX7_isConflict.cls (some .boolean) G A) {n : Nat} {g : Mem} {r : Int32} (kI : ∀ (pc : Nat) (ls : Array Slot) (H : Heap) (locs : List Loc), decode cX7_isConflict pc = .ok (.ireturn, 1) → WS wM G g A s.heap H locs → narrow .boolean (.int r) = .int r → W p l e { frames := 5, cells := 0, slots := 0, locals := 112 } s m args below meth c H locs 0 0 Q (F0 m pc ls [.int r])) : ∀ (x1 : Int32) (H : Heap) (locs : List Loc) (ls : Array Slot), WS wM G g A s.heap H locs → lv_has ls 4 [(0, .ref (G.1 0)), (1, .int x1)] → sX7_isConflict n g x1 = some r → W p l e { frames := 5, cells := 0, slots := 0, locals := 112 } s m args below meth c H locs 0 0 Q (F0 m 0 ls []) := by
  have hx := X.1
  have hb := X.2.1
  intro x1 H locs ls Z hl hm
  unfold sX7_isConflict at hm
  refine lv_iconst (v := 0) hx hb dX7_isConflict_0 (by decide) ?_
  refine lv_istore_n (lv' := [(2, .int 0), (0, .ref (G.1 0)), (1, .int x1)]) hx hb dX7_isConflict_1 rfl hl (by decide) rfl (fun ls hl => ?_)
  refine lv_iconst (v := 0) hx hb dX7_isConflict_2 (by decide) ?_
  refine lv_istore_n (lv' := [(3, .int 0), (2, .int 0), (0, .ref (G.1 0)), (1, .int x1)]) hx hb dX7_isConflict_3 rfl hl (by decide) rfl (fun ls hl => ?_)
  exact bX7_isConflict_4 X kI n x1 (0 : Int32) (0 : Int32) _ _ _ Z (lv_sub hl [2, 3, 1, 0] rfl) hm
theorem cX7_isConflict_c (l : Launch) {G : LY} {g : Mem} {n : Nat} {x1 : Int32} {r : Int32} (hm : sX7_isConflict n g x1 = some r) : cI l yX7_isConflict wmX7_isConflict 5 112 .boolean wM G [.ref (G.1 0), .int x1] g r g :=
  mk_cI sameM (by decide +kernel) rfl (Nat.le_of_ble_eq_true rfl) (fun p e s m args below meth c A Q ls X kI hl Z => bX7_isConflict_0 X kI x1 _ _ ls Z hl hm)
abbrev wmX7_bars : List Cond := Cond.code yX7_bars cX7_bars 6 (some .boolean) :: wA0
set_option maxHeartbeats 4000000 in
set_option maxRecDepth 100000 in
theorem bX7_bars_58 (X : gC p s m args meth c cX7_bars 6 wmX7_bars yX7_bars.cls (some .boolean) G A) {n : Nat} {g : Mem} {r : Int32} (kI : ∀ (pc : Nat) (ls : Array Slot) (H : Heap) (locs : List Loc), decode cX7_bars pc = .ok (.ireturn, 1) → WS wM G g A s.heap H locs → narrow .boolean (.int r) = .int r → W p l e { frames := 2, cells := 0, slots := 0, locals := 44 } s m args below meth c H locs 0 0 Q (F0 m pc ls [.int r])) {rec5 : Int32 → Int32 → Int32 → Int32 → Option (Int32)} (h5 : ∀ (x1 : Int32) (x2 : Int32) (x3 : Int32) (x4 : Int32) (H : Heap) (locs : List Loc) (ls : Array Slot), WS wM G g A s.heap H locs → lv_has ls 6 [(0, .ref (G.1 0)), (1, .int x1), (2, .int x2), (3, .int x3), (4, .int x4)] → rec5 x1 x2 x3 x4 = some r → W p l e { frames := 2, cells := 0, slots := 0, locals := 44 } s m args below meth c H locs 0 0 Q (F0 m 5 ls [])) : ∀ (x1 : Int32) (x2 : Int32) (x4 : Int32) (H : Heap) (locs : List Loc) (ls : Array Slot), WS wM G g A s.heap H locs → lv_has ls 6 [(0, .ref (G.1 0)), (1, .int x1), (2, .int x2), (4, .int x4)] → sX7_bars_58 n g rec5 x1 x2 x4 = some r → W p l e { frames := 2, cells := 0, slots := 0, locals := 44 } s m args below meth c H locs 0 0 Q (F0 m 58 ls []) := by
  have hx := X.1
  have hb := X.2.1
  intro x1 x2 x4 H locs ls Z hl hm
  unfold sX7_bars_58 at hm
  refine lv_aload_n hx hb dX7_bars_58 rfl (lv_at hl 0 rfl) ?_
  refine lv_iload_n hx hb dX7_bars_59 rfl (lv_at hl 1 rfl) ?_
  refine lv_iload hx hb dX7_bars_60 (lv_at hl 3 rfl) ?_
  obtain ⟨r3, e1, hm⟩ := sBi_some hm
  refine g_callVI (n := 2) (As := [.int x1, .int x4]) (rest := []) sameM X Z (cX7_hasRead_c l e1) oX7 rfl (gooV mB672 mB673 mB674 mB614 mB655) rfl (by decide +kernel) rfl ⟨Nat.le_of_ble_eq_true rfl, Nat.le_of_ble_eq_true rfl⟩ ⟨Nat.le_of_ble_eq_true rfl, Nat.le_of_ble_eq_true rfl⟩ hl.1 rfl (Nat.le_of_ble_eq_true rfl) dX7_bars_62 (fun w2 H locs Z => ?_)
  refine lv_if_eq (tgt := 82) hx hb dX7_bars_65 (by decide) (fun c4 => ?_) (fun c4 => ?_)
  · replace hm := (if_pos c4).symm.trans hm
    refine lv_iconst (v := 0) hx hb dX7_bars_82 (by decide) ?_
    refine lv_istore_n (lv' := [(3, .int 0), (0, .ref (G.1 0)), (1, .int x1), (2, .int x2), (4, .int x4)]) hx hb dX7_bars_83 rfl hl (by decide) rfl (fun ls hl => ?_)
    refine lv_iinc (v := (x4 + (1 : Int32))) (lv' := [(4, .int (x4 + (1 : Int32))), (3, .int 0), (0, .ref (G.1 0)), (1, .int x1), (2, .int x2)]) hx hb dX7_bars_84 hl (k := 4) rfl rfl (by decide) rfl (fun ls hl => ?_)
    refine lv_goto (tgt := 5) hx hb dX7_bars_87 (by decide) ?_
    exact h5 x1 x2 (0 : Int32) (x4 + (1 : Int32)) _ _ _ Z (lv_sub hl [2, 3, 4, 1, 0] rfl) hm
  · replace hm := (if_neg c4).symm.trans hm
    refine lv_aload_n hx hb dX7_bars_68 rfl (lv_at hl 0 rfl) ?_
    refine lv_iload_n hx hb dX7_bars_69 rfl (lv_at hl 2 rfl) ?_
    refine lv_iload hx hb dX7_bars_70 (lv_at hl 3 rfl) ?_
    obtain ⟨r7, e5, hm⟩ := sBi_some hm
    refine g_callVI (n := 2) (As := [.int x2, .int x4]) (rest := []) sameM X Z (cX7_hasWritten_c l e5) oX7 rfl (gooV mB657 mB658 mB659 mB614 mB651) rfl (by decide +kernel) rfl ⟨Nat.le_of_ble_eq_true rfl, Nat.le_of_ble_eq_true rfl⟩ ⟨Nat.le_of_ble_eq_true rfl, Nat.le_of_ble_eq_true rfl⟩ hl.1 rfl (Nat.le_of_ble_eq_true rfl) dX7_bars_72 (fun w6 H locs Z => ?_)
    refine lv_if_eq (tgt := 82) hx hb dX7_bars_75 (by decide) (fun c8 => ?_) (fun c8 => ?_)
    · replace hm := (if_pos c8).symm.trans hm
      refine lv_iconst (v := 0) hx hb dX7_bars_82 (by decide) ?_
      refine lv_istore_n (lv' := [(3, .int 0), (0, .ref (G.1 0)), (1, .int x1), (2, .int x2), (4, .int x4)]) hx hb dX7_bars_83 rfl hl (by decide) rfl (fun ls hl => ?_)
      refine lv_iinc (v := (x4 + (1 : Int32))) (lv' := [(4, .int (x4 + (1 : Int32))), (3, .int 0), (0, .ref (G.1 0)), (1, .int x1), (2, .int x2)]) hx hb dX7_bars_84 hl (k := 4) rfl rfl (by decide) rfl (fun ls hl => ?_)
      refine lv_goto (tgt := 5) hx hb dX7_bars_87 (by decide) ?_
      exact h5 x1 x2 (0 : Int32) (x4 + (1 : Int32)) _ _ _ Z (lv_sub hl [2, 3, 4, 1, 0] rfl) hm
    · replace hm := (if_neg c8).symm.trans hm
      refine lv_iconst (v := 1) hx hb dX7_bars_78 (by decide) ?_
      refine lv_goto (tgt := 83) hx hb dX7_bars_79 (by decide) ?_
      refine lv_istore_n (lv' := [(3, .int 1), (0, .ref (G.1 0)), (1, .int x1), (2, .int x2), (4, .int x4)]) hx hb dX7_bars_83 rfl hl (by decide) rfl (fun ls hl => ?_)
      refine lv_iinc (v := (x4 + (1 : Int32))) (lv' := [(4, .int (x4 + (1 : Int32))), (3, .int 1), (0, .ref (G.1 0)), (1, .int x1), (2, .int x2)]) hx hb dX7_bars_84 hl (k := 4) rfl rfl (by decide) rfl (fun ls hl => ?_)
      refine lv_goto (tgt := 5) hx hb dX7_bars_87 (by decide) ?_
      exact h5 x1 x2 (1 : Int32) (x4 + (1 : Int32)) _ _ _ Z (lv_sub hl [2, 3, 4, 1, 0] rfl) hm
set_option maxHeartbeats 4000000 in
set_option maxRecDepth 100000 in
theorem bX7_bars_32 (X : gC p s m args meth c cX7_bars 6 wmX7_bars yX7_bars.cls (some .boolean) G A) {n : Nat} {g : Mem} {r : Int32} (kI : ∀ (pc : Nat) (ls : Array Slot) (H : Heap) (locs : List Loc), decode cX7_bars pc = .ok (.ireturn, 1) → WS wM G g A s.heap H locs → narrow .boolean (.int r) = .int r → W p l e { frames := 2, cells := 0, slots := 0, locals := 44 } s m args below meth c H locs 0 0 Q (F0 m pc ls [.int r])) {rec5 : Int32 → Int32 → Int32 → Int32 → Option (Int32)} (h5 : ∀ (x1 : Int32) (x2 : Int32) (x3 : Int32) (x4 : Int32) (H : Heap) (locs : List Loc) (ls : Array Slot), WS wM G g A s.heap H locs → lv_has ls 6 [(0, .ref (G.1 0)), (1, .int x1), (2, .int x2), (3, .int x3), (4, .int x4)] → rec5 x1 x2 x3 x4 = some r → W p l e { frames := 2, cells := 0, slots := 0, locals := 44 } s m args below meth c H locs 0 0 Q (F0 m 5 ls [])) : ∀ (x1 : Int32) (x2 : Int32) (x3 : Int32) (x4 : Int32) (H : Heap) (locs : List Loc) (ls : Array Slot), WS wM G g A s.heap H locs → lv_has ls 6 [(0, .ref (G.1 0)), (1, .int x1), (2, .int x2), (3, .int x3), (4, .int x4)] → sX7_bars_32 n g rec5 x1 x2 x3 x4 = some r → W p l e { frames := 2, cells := 0, slots := 0, locals := 44 } s m args below meth c H locs 0 0 Q (F0 m 32 ls []) := by
  have hx := X.1
  have hb := X.2.1
  intro x1 x2 x3 x4 H locs ls Z hl hm
  unfold sX7_bars_32 at hm
  refine lv_iconst (v := 1) hx hb dX7_bars_32 (by decide) ?_
  refine lv_goto (tgt := 37) hx hb dX7_bars_33 (by decide) ?_
  refine lv_istore (lv' := [(5, .int 1), (0, .ref (G.1 0)), (1, .int x1), (2, .int x2), (3, .int x3), (4, .int x4)]) hx hb dX7_bars_37 hl (by decide) rfl (fun ls hl => ?_)
  refine lv_iload_n hx hb dX7_bars_39 rfl (lv_at hl 4 rfl) ?_
  refine lv_if_ne (tgt := 78) hx hb dX7_bars_40 (by decide) (fun c1 => ?_) (fun c1 => ?_)
  · replace hm := (if_neg c1).symm.trans hm
    refine lv_iconst (v := 1) hx hb dX7_bars_78 (by decide) ?_
    refine lv_goto (tgt := 83) hx hb dX7_bars_79 (by decide) ?_
    refine lv_istore_n (lv' := [(3, .int 1), (5, .int 1), (0, .ref (G.1 0)), (1, .int x1), (2, .int x2), (4, .int x4)]) hx hb dX7_bars_83 rfl hl (by decide) rfl (fun ls hl => ?_)
    refine lv_iinc (v := (x4 + (1 : Int32))) (lv' := [(4, .int (x4 + (1 : Int32))), (3, .int 1), (5, .int 1), (0, .ref (G.1 0)), (1, .int x1), (2, .int x2)]) hx hb dX7_bars_84 hl (k := 5) rfl rfl (by decide) rfl (fun ls hl => ?_)
    refine lv_goto (tgt := 5) hx hb dX7_bars_87 (by decide) ?_
    exact h5 x1 x2 (1 : Int32) (x4 + (1 : Int32)) _ _ _ Z (lv_sub hl [3, 4, 5, 1, 0] rfl) hm
  · replace hm := (if_pos c1).symm.trans hm
    refine lv_aload_n hx hb dX7_bars_43 rfl (lv_at hl 1 rfl) ?_
    refine lv_iload_n hx hb dX7_bars_44 rfl (lv_at hl 2 rfl) ?_
    refine lv_iload hx hb dX7_bars_45 (lv_at hl 5 rfl) ?_
    obtain ⟨r4, e2, hm⟩ := sBi_some hm
    refine g_callVI (n := 2) (As := [.int x1, .int x4]) (rest := []) sameM X Z (cX7_hasWritten_c l e2) oX7 rfl (gooV mB657 mB658 mB659 mB614 mB651) rfl (by decide +kernel) rfl ⟨Nat.le_of_ble_eq_true rfl, Nat.le_of_ble_eq_true rfl⟩ ⟨Nat.le_of_ble_eq_true rfl, Nat.le_of_ble_eq_true rfl⟩ hl.1 rfl (Nat.le_of_ble_eq_true rfl) dX7_bars_47 (fun w3 H locs Z => ?_)
    refine lv_if_eq (tgt := 58) hx hb dX7_bars_50 (by decide) (fun c5 => ?_) (fun c5 => ?_)
    · replace hm := (if_pos c5).symm.trans hm
      exact bX7_bars_58 X kI h5 x1 x2 x4 _ _ _ Z (lv_sub hl [1, 2, 3, 5] rfl) hm
    · replace hm := (if_neg c5).symm.trans hm
      refine lv_iload hx hb dX7_bars_53 (lv_at hl 0 rfl) ?_
      refine lv_if_ne (tgt := 78) hx hb dX7_bars_55 (by decide) (fun c6 => ?_) (fun c6 => ?_)
      rotate_left
      · first | exact absurd c6 (by decide) | exact absurd (by decide) c6
      refine lv_iconst (v := 1) hx hb dX7_bars_78 (by decide) ?_
      refine lv_goto (tgt := 83) hx hb dX7_bars_79 (by decide) ?_
      refine lv_istore_n (lv' := [(3, .int 1), (5, .int 1), (0, .ref (G.1 0)), (1, .int x1), (2, .int x2), (4, .int x4)]) hx hb dX7_bars_83 rfl hl (by decide) rfl (fun ls hl => ?_)
      refine lv_iinc (v := (x4 + (1 : Int32))) (lv' := [(4, .int (x4 + (1 : Int32))), (3, .int 1), (5, .int 1), (0, .ref (G.1 0)), (1, .int x1), (2, .int x2)]) hx hb dX7_bars_84 hl (k := 5) rfl rfl (by decide) rfl (fun ls hl => ?_)
      refine lv_goto (tgt := 5) hx hb dX7_bars_87 (by decide) ?_
      exact h5 x1 x2 (1 : Int32) (x4 + (1 : Int32)) _ _ _ Z (lv_sub hl [3, 4, 5, 1, 0] rfl) hm
set_option maxHeartbeats 4000000 in
set_option maxRecDepth 100000 in
theorem bX7_bars_5 (X : gC p s m args meth c cX7_bars 6 wmX7_bars yX7_bars.cls (some .boolean) G A) {n : Nat} {g : Mem} {r : Int32} (kI : ∀ (pc : Nat) (ls : Array Slot) (H : Heap) (locs : List Loc), decode cX7_bars pc = .ok (.ireturn, 1) → WS wM G g A s.heap H locs → narrow .boolean (.int r) = .int r → W p l e { frames := 2, cells := 0, slots := 0, locals := 44 } s m args below meth c H locs 0 0 Q (F0 m pc ls [.int r])) : ∀ (f : Nat), ∀ (x1 : Int32) (x2 : Int32) (x3 : Int32) (x4 : Int32) (H : Heap) (locs : List Loc) (ls : Array Slot), WS wM G g A s.heap H locs → lv_has ls 6 [(0, .ref (G.1 0)), (1, .int x1), (2, .int x2), (3, .int x3), (4, .int x4)] → sX7_bars_5 n g f x1 x2 x3 x4 = some r → W p l e { frames := 2, cells := 0, slots := 0, locals := 44 } s m args below meth c H locs 0 0 Q (F0 m 5 ls []) := by
  have hx := X.1
  have hb := X.2.1
  intro f
  induction f with
  | zero =>
    intro x1 x2 x3 x4 H locs ls Z hl hm
    cases hm
  | succ f ih =>
    intro x1 x2 x3 x4 H locs ls Z hl hm
    unfold sX7_bars_5 at hm
    refine lv_iload hx hb dX7_bars_5 (lv_at hl 4 rfl) ?_
    refine lv_bipush (v := 8) hx hb dX7_bars_7 (by decide) ?_
    refine lv_icmp_ge (tgt := 90) hx hb dX7_bars_9 (by decide) (fun c1 => ?_) (fun c1 => ?_)
    · replace hm := (if_pos c1).symm.trans hm
      refine lv_iload_n hx hb dX7_bars_90 rfl (lv_at hl 3 rfl) ?_
      obtain ⟨w2, hm⟩ := sBb_some hm
      obtain rfl := Option.some.inj hm
      exact kI _ _ _ _ dX7_bars_91 Z w2
    · replace hm := (if_neg c1).symm.trans hm
      refine lv_aload_n hx hb dX7_bars_12 rfl (lv_at hl 0 rfl) ?_
      refine lv_iload_n hx hb dX7_bars_13 rfl (lv_at hl 2 rfl) ?_
      refine lv_iload hx hb dX7_bars_14 (lv_at hl 4 rfl) ?_
      obtain ⟨r5, e3, hm⟩ := sBi_some hm
      refine g_callVI (n := 2) (As := [.int x2, .int x4]) (rest := []) sameM X Z (cX7_hasRead_c l e3) oX7 rfl (gooV mB672 mB673 mB674 mB614 mB655) rfl (by decide +kernel) rfl ⟨Nat.le_of_ble_eq_true rfl, Nat.le_of_ble_eq_true rfl⟩ ⟨Nat.le_of_ble_eq_true rfl, Nat.le_of_ble_eq_true rfl⟩ hl.1 rfl (Nat.le_of_ble_eq_true rfl) dX7_bars_16 (fun w4 H locs Z => ?_)
      refine lv_if_ne (tgt := 32) hx hb dX7_bars_19 (by decide) (fun c6 => ?_) (fun c6 => ?_)
      · replace hm := (if_neg c6).symm.trans hm
        exact bX7_bars_32 X kI ih x1 x2 x3 x4 _ _ _ Z (lv_sub hl [0, 1, 2, 3, 4] rfl) hm
      · replace hm := (if_pos c6).symm.trans hm
        refine lv_aload_n hx hb dX7_bars_22 rfl (lv_at hl 0 rfl) ?_
        refine lv_iload_n hx hb dX7_bars_23 rfl (lv_at hl 2 rfl) ?_
        refine lv_iload hx hb dX7_bars_24 (lv_at hl 4 rfl) ?_
        obtain ⟨r9, e7, hm⟩ := sBi_some hm
        refine g_callVI (n := 2) (As := [.int x2, .int x4]) (rest := []) sameM X Z (cX7_hasWritten_c l e7) oX7 rfl (gooV mB657 mB658 mB659 mB614 mB651) rfl (by decide +kernel) rfl ⟨Nat.le_of_ble_eq_true rfl, Nat.le_of_ble_eq_true rfl⟩ ⟨Nat.le_of_ble_eq_true rfl, Nat.le_of_ble_eq_true rfl⟩ hl.1 rfl (Nat.le_of_ble_eq_true rfl) dX7_bars_26 (fun w8 H locs Z => ?_)
        refine lv_if_eq (tgt := 36) hx hb dX7_bars_29 (by decide) (fun c10 => ?_) (fun c10 => ?_)
        · replace hm := (if_pos c10).symm.trans hm
          refine lv_iconst (v := 0) hx hb dX7_bars_36 (by decide) ?_
          refine lv_istore (lv' := [(5, .int 0), (0, .ref (G.1 0)), (1, .int x1), (2, .int x2), (3, .int x3), (4, .int x4)]) hx hb dX7_bars_37 hl (by decide) rfl (fun ls hl => ?_)
          refine lv_iload_n hx hb dX7_bars_39 rfl (lv_at hl 4 rfl) ?_
          refine lv_if_ne (tgt := 78) hx hb dX7_bars_40 (by decide) (fun c11 => ?_) (fun c11 => ?_)
          · replace hm := (if_neg c11).symm.trans hm
            refine lv_iconst (v := 1) hx hb dX7_bars_78 (by decide) ?_
            refine lv_goto (tgt := 83) hx hb dX7_bars_79 (by decide) ?_
            refine lv_istore_n (lv' := [(3, .int 1), (5, .int 0), (0, .ref (G.1 0)), (1, .int x1), (2, .int x2), (4, .int x4)]) hx hb dX7_bars_83 rfl hl (by decide) rfl (fun ls hl => ?_)
            refine lv_iinc (v := (x4 + (1 : Int32))) (lv' := [(4, .int (x4 + (1 : Int32))), (3, .int 1), (5, .int 0), (0, .ref (G.1 0)), (1, .int x1), (2, .int x2)]) hx hb dX7_bars_84 hl (k := 5) rfl rfl (by decide) rfl (fun ls hl => ?_)
            refine lv_goto (tgt := 5) hx hb dX7_bars_87 (by decide) ?_
            exact ih x1 x2 (1 : Int32) (x4 + (1 : Int32)) _ _ _ Z (lv_sub hl [3, 4, 5, 1, 0] rfl) hm
          · replace hm := (if_pos c11).symm.trans hm
            refine lv_aload_n hx hb dX7_bars_43 rfl (lv_at hl 1 rfl) ?_
            refine lv_iload_n hx hb dX7_bars_44 rfl (lv_at hl 2 rfl) ?_
            refine lv_iload hx hb dX7_bars_45 (lv_at hl 5 rfl) ?_
            obtain ⟨r14, e12, hm⟩ := sBi_some hm
            refine g_callVI (n := 2) (As := [.int x1, .int x4]) (rest := []) sameM X Z (cX7_hasWritten_c l e12) oX7 rfl (gooV mB657 mB658 mB659 mB614 mB651) rfl (by decide +kernel) rfl ⟨Nat.le_of_ble_eq_true rfl, Nat.le_of_ble_eq_true rfl⟩ ⟨Nat.le_of_ble_eq_true rfl, Nat.le_of_ble_eq_true rfl⟩ hl.1 rfl (Nat.le_of_ble_eq_true rfl) dX7_bars_47 (fun w13 H locs Z => ?_)
            refine lv_if_eq (tgt := 58) hx hb dX7_bars_50 (by decide) (fun c15 => ?_) (fun c15 => ?_)
            · replace hm := (if_pos c15).symm.trans hm
              exact bX7_bars_58 X kI ih x1 x2 x4 _ _ _ Z (lv_sub hl [1, 2, 3, 5] rfl) hm
            · replace hm := (if_neg c15).symm.trans hm
              refine lv_iload hx hb dX7_bars_53 (lv_at hl 0 rfl) ?_
              refine lv_if_ne (tgt := 78) hx hb dX7_bars_55 (by decide) (fun c16 => ?_) (fun c16 => ?_)
              · first | exact absurd c16 (by decide) | exact absurd (by decide) c16
              exact bX7_bars_58 X kI ih x1 x2 x4 _ _ _ Z (lv_sub hl [1, 2, 3, 5] rfl) hm
        · replace hm := (if_neg c10).symm.trans hm
          exact bX7_bars_32 X kI ih x1 x2 x3 x4 _ _ _ Z (lv_sub hl [0, 1, 2, 3, 4] rfl) hm
set_option maxHeartbeats 4000000 in
set_option maxRecDepth 100000 in
theorem bX7_bars_0 (X : gC p s m args meth c cX7_bars 6 wmX7_bars yX7_bars.cls (some .boolean) G A) {n : Nat} {g : Mem} {r : Int32} (kI : ∀ (pc : Nat) (ls : Array Slot) (H : Heap) (locs : List Loc), decode cX7_bars pc = .ok (.ireturn, 1) → WS wM G g A s.heap H locs → narrow .boolean (.int r) = .int r → W p l e { frames := 2, cells := 0, slots := 0, locals := 44 } s m args below meth c H locs 0 0 Q (F0 m pc ls [.int r])) : ∀ (x1 : Int32) (x2 : Int32) (H : Heap) (locs : List Loc) (ls : Array Slot), WS wM G g A s.heap H locs → lv_has ls 6 [(0, .ref (G.1 0)), (1, .int x1), (2, .int x2)] → sX7_bars n g x1 x2 = some r → W p l e { frames := 2, cells := 0, slots := 0, locals := 44 } s m args below meth c H locs 0 0 Q (F0 m 0 ls []) := by
  have hx := X.1
  have hb := X.2.1
  intro x1 x2 H locs ls Z hl hm
  unfold sX7_bars at hm
  refine lv_iconst (v := 0) hx hb dX7_bars_0 (by decide) ?_
  refine lv_istore_n (lv' := [(3, .int 0), (0, .ref (G.1 0)), (1, .int x1), (2, .int x2)]) hx hb dX7_bars_1 rfl hl (by decide) rfl (fun ls hl => ?_)
  refine lv_iconst (v := 0) hx hb dX7_bars_2 (by decide) ?_
  refine lv_istore (lv' := [(4, .int 0), (3, .int 0), (0, .ref (G.1 0)), (1, .int x1), (2, .int x2)]) hx hb dX7_bars_3 hl (by decide) rfl (fun ls hl => ?_)
  exact bX7_bars_5 X kI n x1 x2 (0 : Int32) (0 : Int32) _ _ _ Z (lv_sub hl [2, 3, 4, 1, 0] rfl) hm
theorem cX7_bars_c (l : Launch) {G : LY} {g : Mem} {n : Nat} {x1 : Int32} {x2 : Int32} {r : Int32} (hm : sX7_bars n g x1 x2 = some r) : cI l yX7_bars wmX7_bars 2 44 .boolean wM G [.ref (G.1 0), .int x1, .int x2] g r g :=
  mk_cI sameM (by decide +kernel) rfl (Nat.le_of_ble_eq_true rfl) (fun p e s m args below meth c A Q ls X kI hl Z => bX7_bars_0 X kI x1 x2 _ _ ls Z hl hm)
abbrev wmX7_isLocked : List Cond := Cond.code yX7_isLocked cX7_isLocked 4 (some .boolean) :: wA0
set_option maxHeartbeats 4000000 in
set_option maxRecDepth 100000 in
theorem bX7_isLocked_4 (X : gC p s m args meth c cX7_isLocked 4 wmX7_isLocked yX7_isLocked.cls (some .boolean) G A) {n : Nat} {g : Mem} {r : Int32} (kI : ∀ (pc : Nat) (ls : Array Slot) (H : Heap) (locs : List Loc), decode cX7_isLocked pc = .ok (.ireturn, 1) → WS wM G g A s.heap H locs → narrow .boolean (.int r) = .int r → W p l e { frames := 3, cells := 0, slots := 0, locals := 69 } s m args below meth c H locs 0 0 Q (F0 m pc ls [.int r])) : ∀ (f : Nat), ∀ (x1 : Int32) (x2 : Int32) (x3 : Int32) (H : Heap) (locs : List Loc) (ls : Array Slot), WS wM G g A s.heap H locs → lv_has ls 4 [(0, .ref (G.1 0)), (1, .int x1), (2, .int x2), (3, .int x3)] → sX7_isLocked_4 n g f x1 x2 x3 = some r → W p l e { frames := 3, cells := 0, slots := 0, locals := 69 } s m args below meth c H locs 0 0 Q (F0 m 4 ls []) := by
  have hx := X.1
  have hb := X.2.1
  intro f
  induction f with
  | zero =>
    intro x1 x2 x3 H locs ls Z hl hm
    cases hm
  | succ f ih =>
    intro x1 x2 x3 H locs ls Z hl hm
    unfold sX7_isLocked_4 at hm
    refine lv_iload_n hx hb dX7_isLocked_4 rfl (lv_at hl 3 rfl) ?_
    refine lv_aload_n hx hb dX7_isLocked_5 rfl (lv_at hl 0 rfl) ?_
    refine g_get (j := 0) (v := .ref (G.1 1)) X Z oX7 (iB7 _) rfl (by decide) rfl (List.mem_cons_of_mem _ mB602) rfl dX7_isLocked_6 ?_
    refine lv_iconst (v := 3) hx hb dX7_isLocked_9 (by decide) ?_
    obtain ⟨b1, hm⟩ := sIdx_some hm
    refine g_iald X Z aM1 b1 dX7_isLocked_10 ?_
    refine lv_icmp_ge (tgt := 49) hx hb dX7_isLocked_11 (by decide) (fun c2 => ?_) (fun c2 => ?_)
    · replace hm := (if_pos c2).symm.trans hm
      refine lv_iload_n hx hb dX7_isLocked_49 rfl (lv_at hl 2 rfl) ?_
      obtain ⟨w3, hm⟩ := sBb_some hm
      obtain rfl := Option.some.inj hm
      exact kI _ _ _ _ dX7_isLocked_50 Z w3
    · replace hm := (if_neg c2).symm.trans hm
      refine lv_iload_n hx hb dX7_isLocked_14 rfl (lv_at hl 2 rfl) ?_
      refine lv_if_ne (tgt := 37) hx hb dX7_isLocked_15 (by decide) (fun c4 => ?_) (fun c4 => ?_)
      · replace hm := (if_neg c4).symm.trans hm
        refine lv_iconst (v := 1) hx hb dX7_isLocked_37 (by decide) ?_
        refine lv_goto (tgt := 42) hx hb dX7_isLocked_38 (by decide) ?_
        refine lv_istore_n (lv' := [(2, .int 1), (0, .ref (G.1 0)), (1, .int x1), (3, .int x3)]) hx hb dX7_isLocked_42 rfl hl (by decide) rfl (fun ls hl => ?_)
        refine lv_iinc (v := (x3 + (1 : Int32))) (lv' := [(3, .int (x3 + (1 : Int32))), (2, .int 1), (0, .ref (G.1 0)), (1, .int x1)]) hx hb dX7_isLocked_43 hl (k := 3) rfl rfl (by decide) rfl (fun ls hl => ?_)
        refine lv_goto (tgt := 4) hx hb dX7_isLocked_46 (by decide) ?_
        exact ih x1 (1 : Int32) (x3 + (1 : Int32)) _ _ _ Z (lv_sub hl [2, 3, 1, 0] rfl) hm
      · replace hm := (if_pos c4).symm.trans hm
        refine lv_aload_n hx hb dX7_isLocked_18 rfl (lv_at hl 0 rfl) ?_
        refine lv_iload_n hx hb dX7_isLocked_19 rfl (lv_at hl 3 rfl) ?_
        refine lv_iconst (v := 1) hx hb dX7_isLocked_20 (by decide) ?_
        obtain ⟨r7, e5, hm⟩ := sBi_some hm
        refine g_callVI (n := 2) (As := [.int x3, .int 1]) (rest := []) sameM X Z (cX7_of_c l e5) oX7 rfl (gooV mB652 mB653 mB654 mB614 mB649) rfl (by decide +kernel) rfl ⟨Nat.le_of_ble_eq_true rfl, Nat.le_of_ble_eq_true rfl⟩ ⟨Nat.le_of_ble_eq_true rfl, Nat.le_of_ble_eq_true rfl⟩ hl.1 rfl (Nat.le_of_ble_eq_true rfl) dX7_isLocked_21 (fun w6 H locs Z => ?_)
        refine lv_iconst (v := 1) hx hb dX7_isLocked_24 (by decide) ?_
        refine lv_icmp_ne (tgt := 41) hx hb dX7_isLocked_25 (by decide) (fun c8 => ?_) (fun c8 => ?_)
        · replace hm := (if_neg c8).symm.trans hm
          refine lv_iconst (v := 0) hx hb dX7_isLocked_41 (by decide) ?_
          refine lv_istore_n (lv' := [(2, .int 0), (0, .ref (G.1 0)), (1, .int x1), (3, .int x3)]) hx hb dX7_isLocked_42 rfl hl (by decide) rfl (fun ls hl => ?_)
          refine lv_iinc (v := (x3 + (1 : Int32))) (lv' := [(3, .int (x3 + (1 : Int32))), (2, .int 0), (0, .ref (G.1 0)), (1, .int x1)]) hx hb dX7_isLocked_43 hl (k := 3) rfl rfl (by decide) rfl (fun ls hl => ?_)
          refine lv_goto (tgt := 4) hx hb dX7_isLocked_46 (by decide) ?_
          exact ih x1 (0 : Int32) (x3 + (1 : Int32)) _ _ _ Z (lv_sub hl [2, 3, 1, 0] rfl) hm
        · replace hm := (if_pos c8).symm.trans hm
          refine lv_aload_n hx hb dX7_isLocked_28 rfl (lv_at hl 0 rfl) ?_
          refine lv_iload_n hx hb dX7_isLocked_29 rfl (lv_at hl 3 rfl) ?_
          refine lv_iload_n hx hb dX7_isLocked_30 rfl (lv_at hl 1 rfl) ?_
          obtain ⟨r11, e9, hm⟩ := sBi_some hm
          refine g_callVI (n := 2) (As := [.int x3, .int x1]) (rest := []) sameM X Z (cX7_bars_c l e9) oX7 rfl (gooV mB683 mB684 mB685 mB614 mB681) rfl (by decide +kernel) rfl ⟨Nat.le_of_ble_eq_true rfl, Nat.le_of_ble_eq_true rfl⟩ ⟨Nat.le_of_ble_eq_true rfl, Nat.le_of_ble_eq_true rfl⟩ hl.1 rfl (Nat.le_of_ble_eq_true rfl) dX7_isLocked_31 (fun w10 H locs Z => ?_)
          refine lv_if_eq (tgt := 41) hx hb dX7_isLocked_34 (by decide) (fun c12 => ?_) (fun c12 => ?_)
          · replace hm := (if_pos c12).symm.trans hm
            refine lv_iconst (v := 0) hx hb dX7_isLocked_41 (by decide) ?_
            refine lv_istore_n (lv' := [(2, .int 0), (0, .ref (G.1 0)), (1, .int x1), (3, .int x3)]) hx hb dX7_isLocked_42 rfl hl (by decide) rfl (fun ls hl => ?_)
            refine lv_iinc (v := (x3 + (1 : Int32))) (lv' := [(3, .int (x3 + (1 : Int32))), (2, .int 0), (0, .ref (G.1 0)), (1, .int x1)]) hx hb dX7_isLocked_43 hl (k := 3) rfl rfl (by decide) rfl (fun ls hl => ?_)
            refine lv_goto (tgt := 4) hx hb dX7_isLocked_46 (by decide) ?_
            exact ih x1 (0 : Int32) (x3 + (1 : Int32)) _ _ _ Z (lv_sub hl [2, 3, 1, 0] rfl) hm
          · replace hm := (if_neg c12).symm.trans hm
            refine lv_iconst (v := 1) hx hb dX7_isLocked_37 (by decide) ?_
            refine lv_goto (tgt := 42) hx hb dX7_isLocked_38 (by decide) ?_
            refine lv_istore_n (lv' := [(2, .int 1), (0, .ref (G.1 0)), (1, .int x1), (3, .int x3)]) hx hb dX7_isLocked_42 rfl hl (by decide) rfl (fun ls hl => ?_)
            refine lv_iinc (v := (x3 + (1 : Int32))) (lv' := [(3, .int (x3 + (1 : Int32))), (2, .int 1), (0, .ref (G.1 0)), (1, .int x1)]) hx hb dX7_isLocked_43 hl (k := 3) rfl rfl (by decide) rfl (fun ls hl => ?_)
            refine lv_goto (tgt := 4) hx hb dX7_isLocked_46 (by decide) ?_
            exact ih x1 (1 : Int32) (x3 + (1 : Int32)) _ _ _ Z (lv_sub hl [2, 3, 1, 0] rfl) hm
set_option maxHeartbeats 4000000 in
set_option maxRecDepth 100000 in
theorem bX7_isLocked_0 (X : gC p s m args meth c cX7_isLocked 4 wmX7_isLocked yX7_isLocked.cls (some .boolean) G A) {n : Nat} {g : Mem} {r : Int32} (kI : ∀ (pc : Nat) (ls : Array Slot) (H : Heap) (locs : List Loc), decode cX7_isLocked pc = .ok (.ireturn, 1) → WS wM G g A s.heap H locs → narrow .boolean (.int r) = .int r → W p l e { frames := 3, cells := 0, slots := 0, locals := 69 } s m args below meth c H locs 0 0 Q (F0 m pc ls [.int r])) : ∀ (x1 : Int32) (H : Heap) (locs : List Loc) (ls : Array Slot), WS wM G g A s.heap H locs → lv_has ls 4 [(0, .ref (G.1 0)), (1, .int x1)] → sX7_isLocked n g x1 = some r → W p l e { frames := 3, cells := 0, slots := 0, locals := 69 } s m args below meth c H locs 0 0 Q (F0 m 0 ls []) := by
  have hx := X.1
  have hb := X.2.1
  intro x1 H locs ls Z hl hm
  unfold sX7_isLocked at hm
  refine lv_iconst (v := 0) hx hb dX7_isLocked_0 (by decide) ?_
  refine lv_istore_n (lv' := [(2, .int 0), (0, .ref (G.1 0)), (1, .int x1)]) hx hb dX7_isLocked_1 rfl hl (by decide) rfl (fun ls hl => ?_)
  refine lv_iconst (v := 0) hx hb dX7_isLocked_2 (by decide) ?_
  refine lv_istore_n (lv' := [(3, .int 0), (2, .int 0), (0, .ref (G.1 0)), (1, .int x1)]) hx hb dX7_isLocked_3 rfl hl (by decide) rfl (fun ls hl => ?_)
  exact bX7_isLocked_4 X kI n x1 (0 : Int32) (0 : Int32) _ _ _ Z (lv_sub hl [2, 3, 1, 0] rfl) hm
theorem cX7_isLocked_c (l : Launch) {G : LY} {g : Mem} {n : Nat} {x1 : Int32} {r : Int32} (hm : sX7_isLocked n g x1 = some r) : cI l yX7_isLocked wmX7_isLocked 3 69 .boolean wM G [.ref (G.1 0), .int x1] g r g :=
  mk_cI sameM (by decide +kernel) rfl (Nat.le_of_ble_eq_true rfl) (fun p e s m args below meth c A Q ls X kI hl Z => bX7_isLocked_0 X kI x1 _ _ ls Z hl hm)
abbrev wmX7_next : List Cond := Cond.code yX7_next cX7_next 4 (some .int) :: wA0
set_option maxHeartbeats 4000000 in
set_option maxRecDepth 100000 in
theorem bX7_next_0 (X : gC p s m args meth c cX7_next 4 wmX7_next yX7_next.cls (some .int) G A) {g : Mem} {r : Int32} (kI : ∀ (pc : Nat) (ls : Array Slot) (H : Heap) (locs : List Loc), decode cX7_next pc = .ok (.ireturn, 1) → WS wM G g A s.heap H locs → narrow .int (.int r) = .int r → W p l e { frames := 3, cells := 0, slots := 0, locals := 66 } s m args below meth c H locs 0 0 Q (F0 m pc ls [.int r])) : ∀ (x1 : Int32) (x2 : Int32) (H : Heap) (locs : List Loc) (ls : Array Slot), WS wM G g A s.heap H locs → lv_has ls 4 [(0, .ref (G.1 0)), (1, .int x1), (2, .int x2)] → sX7_next g x1 x2 = some r → W p l e { frames := 3, cells := 0, slots := 0, locals := 66 } s m args below meth c H locs 0 0 Q (F0 m 0 ls []) := by
  have hx := X.1
  have hb := X.2.1
  intro x1 x2 H locs ls Z hl hm
  unfold sX7_next at hm
  refine lv_iconst (v := 1) hx hb dX7_next_0 (by decide) ?_
  refine lv_aload_n hx hb dX7_next_1 rfl (lv_at hl 0 rfl) ?_
  refine g_get (j := 0) (v := .ref (G.1 1)) X Z oX7 (iB7 _) rfl (by decide) rfl (List.mem_cons_of_mem _ mB602) rfl dX7_next_2 ?_
  refine lv_iconst (v := 4) hx hb dX7_next_5 (by decide) ?_
  refine lv_iload_n hx hb dX7_next_6 rfl (lv_at hl 1 rfl) ?_
  refine lv_iadd hx hb dX7_next_7 ?_
  obtain ⟨b1, hm⟩ := sIdx_some hm
  refine g_iald X Z aM1 b1 dX7_next_8 ?_
  refine lv_aload_n hx hb dX7_next_9 rfl (lv_at hl 0 rfl) ?_
  refine g_get (j := 0) (v := .ref (G.1 1)) X Z oX7 (iB7 _) rfl (by decide) rfl (List.mem_cons_of_mem _ mB602) rfl dX7_next_10 ?_
  refine lv_iconst (v := 1) hx hb dX7_next_13 (by decide) ?_
  obtain ⟨b2, hm⟩ := sIdx_some hm
  refine g_iald X Z aM1 b2 dX7_next_14 ?_
  obtain ⟨r5, e3, hm⟩ := sBi_some hm
  refine g_callSI (n := 2) (As := [.int (g 1 ((4 : Int32) + x1).toNatClampNeg), .int (g 1 (1 : Int32).toNatClampNeg)]) (rest := [.int 1]) sameM X Z (cX7_greater_c l e3) (gooS mB675 mB676 mB614 mB617) rfl (by decide +kernel) rfl ⟨Nat.le_of_ble_eq_true rfl, Nat.le_of_ble_eq_true rfl⟩ ⟨Nat.le_of_ble_eq_true rfl, Nat.le_of_ble_eq_true rfl⟩ hl.1 rfl (Nat.le_of_ble_eq_true rfl) dX7_next_15 (fun w4 H locs Z => ?_)
  refine lv_iadd hx hb dX7_next_18 ?_
  refine lv_istore_n (lv' := [(3, .int ((1 : Int32) + r5)), (0, .ref (G.1 0)), (1, .int x1), (2, .int x2)]) hx hb dX7_next_19 rfl hl (by decide) rfl (fun ls hl => ?_)
  refine lv_aload_n hx hb dX7_next_20 rfl (lv_at hl 1 rfl) ?_
  refine lv_iload_n hx hb dX7_next_21 rfl (lv_at hl 2 rfl) ?_
  refine lv_iload_n hx hb dX7_next_22 rfl (lv_at hl 3 rfl) ?_
  obtain ⟨r8, e6, hm⟩ := sBi_some hm
  refine g_callVI (n := 2) (As := [.int x1, .int x2]) (rest := []) sameM X Z (cX7_latestAt_c l e6) oX7 rfl (gooV mB641 mB642 mB643 mB614 mB637) rfl (by decide +kernel) rfl ⟨Nat.le_of_ble_eq_true rfl, Nat.le_of_ble_eq_true rfl⟩ ⟨Nat.le_of_ble_eq_true rfl, Nat.le_of_ble_eq_true rfl⟩ hl.1 rfl (Nat.le_of_ble_eq_true rfl) dX7_next_23 (fun w7 H locs Z => ?_)
  refine lv_iload_n hx hb dX7_next_26 rfl (lv_at hl 0 rfl) ?_
  obtain ⟨r11, e9, hm⟩ := sBi_some hm
  refine g_callSI (n := 2) (As := [.int r8, .int ((1 : Int32) + r5)]) (rest := []) sameM X Z (cX7_greater_c l e9) (gooS mB675 mB676 mB614 mB617) rfl (by decide +kernel) rfl ⟨Nat.le_of_ble_eq_true rfl, Nat.le_of_ble_eq_true rfl⟩ ⟨Nat.le_of_ble_eq_true rfl, Nat.le_of_ble_eq_true rfl⟩ hl.1 rfl (Nat.le_of_ble_eq_true rfl) dX7_next_27 (fun w10 H locs Z => ?_)
  obtain rfl := Option.some.inj hm
  exact kI _ _ _ _ dX7_next_30 Z (vp_nar_int _)
theorem cX7_next_c (l : Launch) {G : LY} {g : Mem} {x1 : Int32} {x2 : Int32} {r : Int32} (hm : sX7_next g x1 x2 = some r) : cI l yX7_next wmX7_next 3 66 .int wM G [.ref (G.1 0), .int x1, .int x2] g r g :=
  mk_cI sameM (by decide +kernel) rfl (Nat.le_of_ble_eq_true rfl) (fun p e s m args below meth c A Q ls X kI hl Z => bX7_next_0 X kI x1 x2 _ _ ls Z hl hm)
abbrev wmX7_stamp : List Cond := Cond.code yX7_stamp cX7_stamp 5 (some .int) :: wA0
set_option maxHeartbeats 4000000 in
set_option maxRecDepth 100000 in
theorem bX7_stamp_66 (X : gC p s m args meth c cX7_stamp 5 wmX7_stamp yX7_stamp.cls (some .int) G A) {n : Nat} {g : Mem} {r : Int32} (kI : ∀ (pc : Nat) (ls : Array Slot) (H : Heap) (locs : List Loc), decode cX7_stamp pc = .ok (.ireturn, 1) → WS wM G g A s.heap H locs → narrow .int (.int r) = .int r → W p l e { frames := 5, cells := 0, slots := 0, locals := 112 } s m args below meth c H locs 0 0 Q (F0 m pc ls [.int r])) {rec26 : Int32 → Int32 → Int32 → Option (Int32)} (h26 : ∀ (x1 : Int32) (x3 : Int32) (x4 : Int32) (H : Heap) (locs : List Loc) (ls : Array Slot), WS wM G g A s.heap H locs → lv_has ls 5 [(0, .ref (G.1 0)), (1, .int x1), (3, .int x3), (4, .int x4)] → rec26 x1 x3 x4 = some r → W p l e { frames := 5, cells := 0, slots := 0, locals := 112 } s m args below meth c H locs 0 0 Q (F0 m 26 ls [])) : ∀ (x1 : Int32) (x3 : Int32) (x4 : Int32) (H : Heap) (locs : List Loc) (ls : Array Slot), WS wM G g A s.heap H locs → lv_has ls 5 [(0, .ref (G.1 0)), (1, .int x1), (3, .int x3), (4, .int x4)] → sX7_stamp_66 n g rec26 x1 x3 x4 = some r → W p l e { frames := 5, cells := 0, slots := 0, locals := 112 } s m args below meth c H locs 0 0 Q (F0 m 66 ls []) := by
  have hx := X.1
  have hb := X.2.1
  intro x1 x3 x4 H locs ls Z hl hm
  unfold sX7_stamp_66 at hm
  refine lv_aload_n hx hb dX7_stamp_66 rfl (lv_at hl 0 rfl) ?_
  refine lv_iload_n hx hb dX7_stamp_67 rfl (lv_at hl 1 rfl) ?_
  refine lv_iload hx hb dX7_stamp_68 (lv_at hl 3 rfl) ?_
  obtain ⟨r3, e1, hm⟩ := sBi_some hm
  refine g_callVI (n := 2) (As := [.int x1, .int x4]) (rest := []) sameM X Z (cX7_hasWritten_c l e1) oX7 rfl (gooV mB657 mB658 mB659 mB614 mB651) rfl (by decide +kernel) rfl ⟨Nat.le_of_ble_eq_true rfl, Nat.le_of_ble_eq_true rfl⟩ ⟨Nat.le_of_ble_eq_true rfl, Nat.le_of_ble_eq_true rfl⟩ hl.1 rfl (Nat.le_of_ble_eq_true rfl) dX7_stamp_70 (fun w2 H locs Z => ?_)
  refine lv_if_eq (tgt := 89) hx hb dX7_stamp_73 (by decide) (fun c4 => ?_) (fun c4 => ?_)
  · replace hm := (if_pos c4).symm.trans hm
    refine lv_iinc (v := (x4 + (1 : Int32))) (lv' := [(4, .int (x4 + (1 : Int32))), (0, .ref (G.1 0)), (1, .int x1), (3, .int x3)]) hx hb dX7_stamp_89 hl (k := 3) rfl rfl (by decide) rfl (fun ls hl => ?_)
    refine lv_goto (tgt := 26) hx hb dX7_stamp_92 (by decide) ?_
    exact h26 x1 x3 (x4 + (1 : Int32)) _ _ _ Z (lv_sub hl [1, 2, 3, 0] rfl) hm
  · replace hm := (if_neg c4).symm.trans hm
    refine lv_iload_n hx hb dX7_stamp_76 rfl (lv_at hl 2 rfl) ?_
    refine lv_iconst (v := 1) hx hb dX7_stamp_77 (by decide) ?_
    refine lv_aload_n hx hb dX7_stamp_78 rfl (lv_at hl 0 rfl) ?_
    refine lv_iload hx hb dX7_stamp_79 (lv_at hl 3 rfl) ?_
    obtain ⟨r7, e5, hm⟩ := sBi_some hm
    refine g_callVI (n := 1) (As := [.int x4]) (rest := [.int 1, .int x3]) sameM X Z (cX7_mark_c l e5) oX7 rfl (gooV mB690 mB691 mB692 mB614 mB671) rfl (by decide +kernel) rfl ⟨Nat.le_of_ble_eq_true rfl, Nat.le_of_ble_eq_true rfl⟩ ⟨Nat.le_of_ble_eq_true rfl, Nat.le_of_ble_eq_true rfl⟩ hl.1 rfl (Nat.le_of_ble_eq_true rfl) dX7_stamp_81 (fun w6 H locs Z => ?_)
    refine lv_iadd hx hb dX7_stamp_84 ?_
    obtain ⟨r10, e8, hm⟩ := sBi_some hm
    refine g_callSI (n := 2) (As := [.int x3, .int ((1 : Int32) + r7)]) (rest := []) sameM X Z (cX7_greater_c l e8) (gooS mB675 mB676 mB614 mB617) rfl (by decide +kernel) rfl ⟨Nat.le_of_ble_eq_true rfl, Nat.le_of_ble_eq_true rfl⟩ ⟨Nat.le_of_ble_eq_true rfl, Nat.le_of_ble_eq_true rfl⟩ hl.1 rfl (Nat.le_of_ble_eq_true rfl) dX7_stamp_85 (fun w9 H locs Z => ?_)
    refine lv_istore_n (lv' := [(3, .int r10), (0, .ref (G.1 0)), (1, .int x1), (4, .int x4)]) hx hb dX7_stamp_88 rfl hl (by decide) rfl (fun ls hl => ?_)
    refine lv_iinc (v := (x4 + (1 : Int32))) (lv' := [(4, .int (x4 + (1 : Int32))), (3, .int r10), (0, .ref (G.1 0)), (1, .int x1)]) hx hb dX7_stamp_89 hl (k := 3) rfl rfl (by decide) rfl (fun ls hl => ?_)
    refine lv_goto (tgt := 26) hx hb dX7_stamp_92 (by decide) ?_
    exact h26 x1 r10 (x4 + (1 : Int32)) _ _ _ Z (lv_sub hl [2, 3, 1, 0] rfl) hm
set_option maxHeartbeats 4000000 in
set_option maxRecDepth 100000 in
theorem bX7_stamp_26 (X : gC p s m args meth c cX7_stamp 5 wmX7_stamp yX7_stamp.cls (some .int) G A) {n : Nat} {g : Mem} {r : Int32} (kI : ∀ (pc : Nat) (ls : Array Slot) (H : Heap) (locs : List Loc), decode cX7_stamp pc = .ok (.ireturn, 1) → WS wM G g A s.heap H locs → narrow .int (.int r) = .int r → W p l e { frames := 5, cells := 0, slots := 0, locals := 112 } s m args below meth c H locs 0 0 Q (F0 m pc ls [.int r])) : ∀ (f : Nat), ∀ (x1 : Int32) (x3 : Int32) (x4 : Int32) (H : Heap) (locs : List Loc) (ls : Array Slot), WS wM G g A s.heap H locs → lv_has ls 5 [(0, .ref (G.1 0)), (1, .int x1), (3, .int x3), (4, .int x4)] → sX7_stamp_26 n g f x1 x3 x4 = some r → W p l e { frames := 5, cells := 0, slots := 0, locals := 112 } s m args below meth c H locs 0 0 Q (F0 m 26 ls []) := by
  have hx := X.1
  have hb := X.2.1
  intro f
  induction f with
  | zero =>
    intro x1 x3 x4 H locs ls Z hl hm
    cases hm
  | succ f ih =>
    intro x1 x3 x4 H locs ls Z hl hm
    unfold sX7_stamp_26 at hm
    refine lv_iload hx hb dX7_stamp_26 (lv_at hl 3 rfl) ?_
    refine lv_bipush (v := 8) hx hb dX7_stamp_28 (by decide) ?_
    refine lv_icmp_ge (tgt := 95) hx hb dX7_stamp_30 (by decide) (fun c1 => ?_) (fun c1 => ?_)
    · replace hm := (if_pos c1).symm.trans hm
      refine lv_iload_n hx hb dX7_stamp_95 rfl (lv_at hl 2 rfl) ?_
      obtain rfl := Option.some.inj hm
      exact kI _ _ _ _ dX7_stamp_96 Z (vp_nar_int _)
    · replace hm := (if_neg c1).symm.trans hm
      refine lv_aload_n hx hb dX7_stamp_33 rfl (lv_at hl 0 rfl) ?_
      refine lv_iload_n hx hb dX7_stamp_34 rfl (lv_at hl 1 rfl) ?_
      refine lv_iload hx hb dX7_stamp_35 (lv_at hl 3 rfl) ?_
      obtain ⟨r4, e2, hm⟩ := sBi_some hm
      refine g_callVI (n := 2) (As := [.int x1, .int x4]) (rest := []) sameM X Z (cX7_hasRead_c l e2) oX7 rfl (gooV mB672 mB673 mB674 mB614 mB655) rfl (by decide +kernel) rfl ⟨Nat.le_of_ble_eq_true rfl, Nat.le_of_ble_eq_true rfl⟩ ⟨Nat.le_of_ble_eq_true rfl, Nat.le_of_ble_eq_true rfl⟩ hl.1 rfl (Nat.le_of_ble_eq_true rfl) dX7_stamp_37 (fun w3 H locs Z => ?_)
      refine lv_if_ne (tgt := 53) hx hb dX7_stamp_40 (by decide) (fun c5 => ?_) (fun c5 => ?_)
      · replace hm := (if_neg c5).symm.trans hm
        refine lv_iload_n hx hb dX7_stamp_53 rfl (lv_at hl 2 rfl) ?_
        refine lv_iconst (v := 1) hx hb dX7_stamp_54 (by decide) ?_
        refine lv_aload_n hx hb dX7_stamp_55 rfl (lv_at hl 0 rfl) ?_
        refine lv_iload hx hb dX7_stamp_56 (lv_at hl 3 rfl) ?_
        obtain ⟨r8, e6, hm⟩ := sBi_some hm
        refine g_callVI (n := 1) (As := [.int x4]) (rest := [.int 1, .int x3]) sameM X Z (cX7_newest_c l e6) oX7 rfl (gooV mB677 mB678 mB679 mB614 mB669) rfl (by decide +kernel) rfl ⟨Nat.le_of_ble_eq_true rfl, Nat.le_of_ble_eq_true rfl⟩ ⟨Nat.le_of_ble_eq_true rfl, Nat.le_of_ble_eq_true rfl⟩ hl.1 rfl (Nat.le_of_ble_eq_true rfl) dX7_stamp_58 (fun w7 H locs Z => ?_)
        refine lv_iadd hx hb dX7_stamp_61 ?_
        obtain ⟨r11, e9, hm⟩ := sBi_some hm
        refine g_callSI (n := 2) (As := [.int x3, .int ((1 : Int32) + r8)]) (rest := []) sameM X Z (cX7_greater_c l e9) (gooS mB675 mB676 mB614 mB617) rfl (by decide +kernel) rfl ⟨Nat.le_of_ble_eq_true rfl, Nat.le_of_ble_eq_true rfl⟩ ⟨Nat.le_of_ble_eq_true rfl, Nat.le_of_ble_eq_true rfl⟩ hl.1 rfl (Nat.le_of_ble_eq_true rfl) dX7_stamp_62 (fun w10 H locs Z => ?_)
        refine lv_istore_n (lv' := [(3, .int r11), (0, .ref (G.1 0)), (1, .int x1), (4, .int x4)]) hx hb dX7_stamp_65 rfl hl (by decide) rfl (fun ls hl => ?_)
        exact bX7_stamp_66 X kI ih x1 r11 x4 _ _ _ Z (lv_sub hl [1, 2, 0, 3] rfl) hm
      · replace hm := (if_pos c5).symm.trans hm
        refine lv_aload_n hx hb dX7_stamp_43 rfl (lv_at hl 0 rfl) ?_
        refine lv_iload_n hx hb dX7_stamp_44 rfl (lv_at hl 1 rfl) ?_
        refine lv_iload hx hb dX7_stamp_45 (lv_at hl 3 rfl) ?_
        obtain ⟨r14, e12, hm⟩ := sBi_some hm
        refine g_callVI (n := 2) (As := [.int x1, .int x4]) (rest := []) sameM X Z (cX7_hasWritten_c l e12) oX7 rfl (gooV mB657 mB658 mB659 mB614 mB651) rfl (by decide +kernel) rfl ⟨Nat.le_of_ble_eq_true rfl, Nat.le_of_ble_eq_true rfl⟩ ⟨Nat.le_of_ble_eq_true rfl, Nat.le_of_ble_eq_true rfl⟩ hl.1 rfl (Nat.le_of_ble_eq_true rfl) dX7_stamp_47 (fun w13 H locs Z => ?_)
        refine lv_if_eq (tgt := 66) hx hb dX7_stamp_50 (by decide) (fun c15 => ?_) (fun c15 => ?_)
        · replace hm := (if_pos c15).symm.trans hm
          exact bX7_stamp_66 X kI ih x1 x3 x4 _ _ _ Z (lv_sub hl [0, 1, 2, 3] rfl) hm
        · replace hm := (if_neg c15).symm.trans hm
          refine lv_iload_n hx hb dX7_stamp_53 rfl (lv_at hl 2 rfl) ?_
          refine lv_iconst (v := 1) hx hb dX7_stamp_54 (by decide) ?_
          refine lv_aload_n hx hb dX7_stamp_55 rfl (lv_at hl 0 rfl) ?_
          refine lv_iload hx hb dX7_stamp_56 (lv_at hl 3 rfl) ?_
          obtain ⟨r18, e16, hm⟩ := sBi_some hm
          refine g_callVI (n := 1) (As := [.int x4]) (rest := [.int 1, .int x3]) sameM X Z (cX7_newest_c l e16) oX7 rfl (gooV mB677 mB678 mB679 mB614 mB669) rfl (by decide +kernel) rfl ⟨Nat.le_of_ble_eq_true rfl, Nat.le_of_ble_eq_true rfl⟩ ⟨Nat.le_of_ble_eq_true rfl, Nat.le_of_ble_eq_true rfl⟩ hl.1 rfl (Nat.le_of_ble_eq_true rfl) dX7_stamp_58 (fun w17 H locs Z => ?_)
          refine lv_iadd hx hb dX7_stamp_61 ?_
          obtain ⟨r21, e19, hm⟩ := sBi_some hm
          refine g_callSI (n := 2) (As := [.int x3, .int ((1 : Int32) + r18)]) (rest := []) sameM X Z (cX7_greater_c l e19) (gooS mB675 mB676 mB614 mB617) rfl (by decide +kernel) rfl ⟨Nat.le_of_ble_eq_true rfl, Nat.le_of_ble_eq_true rfl⟩ ⟨Nat.le_of_ble_eq_true rfl, Nat.le_of_ble_eq_true rfl⟩ hl.1 rfl (Nat.le_of_ble_eq_true rfl) dX7_stamp_62 (fun w20 H locs Z => ?_)
          refine lv_istore_n (lv' := [(3, .int r21), (0, .ref (G.1 0)), (1, .int x1), (4, .int x4)]) hx hb dX7_stamp_65 rfl hl (by decide) rfl (fun ls hl => ?_)
          exact bX7_stamp_66 X kI ih x1 r21 x4 _ _ _ Z (lv_sub hl [1, 2, 0, 3] rfl) hm
set_option maxHeartbeats 4000000 in
set_option maxRecDepth 100000 in
theorem bX7_stamp_0 (X : gC p s m args meth c cX7_stamp 5 wmX7_stamp yX7_stamp.cls (some .int) G A) {n : Nat} {g : Mem} {r : Int32} (kI : ∀ (pc : Nat) (ls : Array Slot) (H : Heap) (locs : List Loc), decode cX7_stamp pc = .ok (.ireturn, 1) → WS wM G g A s.heap H locs → narrow .int (.int r) = .int r → W p l e { frames := 5, cells := 0, slots := 0, locals := 112 } s m args below meth c H locs 0 0 Q (F0 m pc ls [.int r])) : ∀ (x1 : Int32) (H : Heap) (locs : List Loc) (ls : Array Slot), WS wM G g A s.heap H locs → lv_has ls 5 [(0, .ref (G.1 0)), (1, .int x1)] → sX7_stamp n g x1 = some r → W p l e { frames := 5, cells := 0, slots := 0, locals := 112 } s m args below meth c H locs 0 0 Q (F0 m 0 ls []) := by
  have hx := X.1
  have hb := X.2.1
  intro x1 H locs ls Z hl hm
  unfold sX7_stamp at hm
  refine lv_aload_n hx hb dX7_stamp_0 rfl (lv_at hl 0 rfl) ?_
  refine lv_iload_n hx hb dX7_stamp_1 rfl (lv_at hl 1 rfl) ?_
  refine lv_iconst (v := 0) hx hb dX7_stamp_2 (by decide) ?_
  obtain ⟨r3, e1, hm⟩ := sBi_some hm
  refine g_callVI (n := 2) (As := [.int x1, .int 0]) (rest := []) sameM X Z (cX7_of_c l e1) oX7 rfl (gooV mB652 mB653 mB654 mB614 mB649) rfl (by decide +kernel) rfl ⟨Nat.le_of_ble_eq_true rfl, Nat.le_of_ble_eq_true rfl⟩ ⟨Nat.le_of_ble_eq_true rfl, Nat.le_of_ble_eq_true rfl⟩ hl.1 rfl (Nat.le_of_ble_eq_true rfl) dX7_stamp_3 (fun w2 H locs Z => ?_)
  refine lv_istore_n (lv' := [(2, .int r3), (0, .ref (G.1 0)), (1, .int x1)]) hx hb dX7_stamp_6 rfl hl (by decide) rfl (fun ls hl => ?_)
  refine lv_aload_n hx hb dX7_stamp_7 rfl (lv_at hl 1 rfl) ?_
  refine lv_iload_n hx hb dX7_stamp_8 rfl (lv_at hl 0 rfl) ?_
  refine lv_aload_n hx hb dX7_stamp_9 rfl (lv_at hl 1 rfl) ?_
  refine g_get (j := 0) (v := .ref (G.1 1)) X Z oX7 (iB7 _) rfl (by decide) rfl (List.mem_cons_of_mem _ mB602) rfl dX7_stamp_10 ?_
  refine lv_iconst (v := 0) hx hb dX7_stamp_13 (by decide) ?_
  obtain ⟨b4, hm⟩ := sIdx_some hm
  refine g_iald X Z aM1 b4 dX7_stamp_14 ?_
  obtain ⟨r7, e5, hm⟩ := sBi_some hm
  refine g_callVI (n := 2) (As := [.int r3, .int (g 1 (0 : Int32).toNatClampNeg)]) (rest := []) sameM X Z (cX7_next_c l e5) oX7 rfl (gooV mB687 mB688 mB689 mB614 mB686) rfl (by decide +kernel) rfl ⟨Nat.le_of_ble_eq_true rfl, Nat.le_of_ble_eq_true rfl⟩ ⟨Nat.le_of_ble_eq_true rfl, Nat.le_of_ble_eq_true rfl⟩ hl.1 rfl (Nat.le_of_ble_eq_true rfl) dX7_stamp_15 (fun w6 H locs Z => ?_)
  refine lv_iconst (v := 0) hx hb dX7_stamp_18 (by decide) ?_
  obtain ⟨r10, e8, hm⟩ := sBi_some hm
  refine g_callSI (n := 2) (As := [.int r7, .int 0]) (rest := []) sameM X Z (cX7_greater_c l e8) (gooS mB675 mB676 mB614 mB617) rfl (by decide +kernel) rfl ⟨Nat.le_of_ble_eq_true rfl, Nat.le_of_ble_eq_true rfl⟩ ⟨Nat.le_of_ble_eq_true rfl, Nat.le_of_ble_eq_true rfl⟩ hl.1 rfl (Nat.le_of_ble_eq_true rfl) dX7_stamp_19 (fun w9 H locs Z => ?_)
  refine lv_istore_n (lv' := [(3, .int r10), (2, .int r3), (0, .ref (G.1 0)), (1, .int x1)]) hx hb dX7_stamp_22 rfl hl (by decide) rfl (fun ls hl => ?_)
  refine lv_iconst (v := 0) hx hb dX7_stamp_23 (by decide) ?_
  refine lv_istore (lv' := [(4, .int 0), (3, .int r10), (2, .int r3), (0, .ref (G.1 0)), (1, .int x1)]) hx hb dX7_stamp_24 hl (by decide) rfl (fun ls hl => ?_)
  exact bX7_stamp_26 X kI n x1 r10 (0 : Int32) _ _ _ Z (lv_sub hl [3, 4, 1, 0] rfl) hm
theorem cX7_stamp_c (l : Launch) {G : LY} {g : Mem} {n : Nat} {x1 : Int32} {r : Int32} (hm : sX7_stamp n g x1 = some r) : cI l yX7_stamp wmX7_stamp 5 112 .int wM G [.ref (G.1 0), .int x1] g r g :=
  mk_cI sameM (by decide +kernel) rfl (Nat.le_of_ble_eq_true rfl) (fun p e s m args below meth c A Q ls X kI hl Z => bX7_stamp_0 X kI x1 _ _ ls Z hl hm)
abbrev wmX7_outcome : List Cond := Cond.code yX7_outcome cX7_outcome 2 (some .int) :: wA0
set_option maxHeartbeats 4000000 in
set_option maxRecDepth 100000 in
theorem bX7_outcome_0 (X : gC p s m args meth c cX7_outcome 2 wmX7_outcome yX7_outcome.cls (some .int) G A) {n : Nat} {g : Mem} {r : Int32} (kI : ∀ (pc : Nat) (ls : Array Slot) (H : Heap) (locs : List Loc), decode cX7_outcome pc = .ok (.ireturn, 1) → WS wM G g A s.heap H locs → narrow .int (.int r) = .int r → W p l e { frames := 6, cells := 0, slots := 0, locals := 136 } s m args below meth c H locs 0 0 Q (F0 m pc ls [.int r])) : ∀ (x1 : Int32) (H : Heap) (locs : List Loc) (ls : Array Slot), WS wM G g A s.heap H locs → lv_has ls 2 [(0, .ref (G.1 0)), (1, .int x1)] → sX7_outcome n g x1 = some r → W p l e { frames := 6, cells := 0, slots := 0, locals := 136 } s m args below meth c H locs 0 0 Q (F0 m 0 ls []) := by
  have hx := X.1
  have hb := X.2.1
  intro x1 H locs ls Z hl hm
  unfold sX7_outcome at hm
  refine lv_aload_n hx hb dX7_outcome_0 rfl (lv_at hl 0 rfl) ?_
  refine lv_iload_n hx hb dX7_outcome_1 rfl (lv_at hl 1 rfl) ?_
  obtain ⟨r3, e1, hm⟩ := sBi_some hm
  refine g_callVI (n := 1) (As := [.int x1]) (rest := []) sameM X Z (cX7_isConflict_c l e1) oX7 rfl (gooV mB694 mB695 mB696 mB614 mB680) rfl (by decide +kernel) rfl ⟨Nat.le_of_ble_eq_true rfl, Nat.le_of_ble_eq_true rfl⟩ ⟨Nat.le_of_ble_eq_true rfl, Nat.le_of_ble_eq_true rfl⟩ hl.1 rfl (Nat.le_of_ble_eq_true rfl) dX7_outcome_2 (fun w2 H locs Z => ?_)
  refine lv_if_eq (tgt := 11) hx hb dX7_outcome_5 (by decide) (fun c4 => ?_) (fun c4 => ?_)
  · replace hm := (if_pos c4).symm.trans hm
    refine lv_aload_n hx hb dX7_outcome_11 rfl (lv_at hl 0 rfl) ?_
    refine lv_iload_n hx hb dX7_outcome_12 rfl (lv_at hl 1 rfl) ?_
    obtain ⟨r7, e5, hm⟩ := sBi_some hm
    refine g_callVI (n := 1) (As := [.int x1]) (rest := []) sameM X Z (cX7_isLocked_c l e5) oX7 rfl (gooV mB697 mB698 mB699 mB614 mB682) rfl (by decide +kernel) rfl ⟨Nat.le_of_ble_eq_true rfl, Nat.le_of_ble_eq_true rfl⟩ ⟨Nat.le_of_ble_eq_true rfl, Nat.le_of_ble_eq_true rfl⟩ hl.1 rfl (Nat.le_of_ble_eq_true rfl) dX7_outcome_13 (fun w6 H locs Z => ?_)
    refine lv_if_eq (tgt := 24) hx hb dX7_outcome_16 (by decide) (fun c8 => ?_) (fun c8 => ?_)
    · replace hm := (if_pos c8).symm.trans hm
      refine lv_aload_n hx hb dX7_outcome_24 rfl (lv_at hl 0 rfl) ?_
      refine lv_iload_n hx hb dX7_outcome_25 rfl (lv_at hl 1 rfl) ?_
      obtain ⟨r11, e9, hm⟩ := sBi_some hm
      refine g_callVI (n := 1) (As := [.int x1]) (rest := []) sameM X Z (cX7_stamp_c l e9) oX7 rfl (gooV mB700 mB701 mB702 mB614 mB693) rfl (by decide +kernel) rfl ⟨Nat.le_of_ble_eq_true rfl, Nat.le_of_ble_eq_true rfl⟩ ⟨Nat.le_of_ble_eq_true rfl, Nat.le_of_ble_eq_true rfl⟩ hl.1 rfl (Nat.le_of_ble_eq_true rfl) dX7_outcome_26 (fun w10 H locs Z => ?_)
      obtain rfl := Option.some.inj hm
      exact kI _ _ _ _ dX7_outcome_29 Z (vp_nar_int _)
    · replace hm := (if_neg c8).symm.trans hm
      refine lv_bipush (v := (-3)) hx hb dX7_outcome_19 (by decide) ?_
      refine lv_goto (tgt := 29) hx hb dX7_outcome_21 (by decide) ?_
      obtain rfl := Option.some.inj hm
      exact kI _ _ _ _ dX7_outcome_29 Z (vp_nar_int _)
  · replace hm := (if_neg c4).symm.trans hm
    refine lv_bipush (v := (-2)) hx hb dX7_outcome_8 (by decide) ?_
    obtain rfl := Option.some.inj hm
    exact kI _ _ _ _ dX7_outcome_10 Z (vp_nar_int _)
theorem cX7_outcome_c (l : Launch) {G : LY} {g : Mem} {n : Nat} {x1 : Int32} {r : Int32} (hm : sX7_outcome n g x1 = some r) : cI l yX7_outcome wmX7_outcome 6 136 .int wM G [.ref (G.1 0), .int x1] g r g :=
  mk_cI sameM (by decide +kernel) rfl (Nat.le_of_ble_eq_true rfl) (fun p e s m args below meth c A Q ls X kI hl Z => bX7_outcome_0 X kI x1 _ _ ls Z hl hm)
abbrev wmX7_whyNotBegin : List Cond := Cond.code yX7_whyNotBegin cX7_whyNotBegin 2 (some .int) :: wA0
set_option maxHeartbeats 4000000 in
set_option maxRecDepth 100000 in
theorem bX7_whyNotBegin_0 (X : gC p s m args meth c cX7_whyNotBegin 2 wmX7_whyNotBegin yX7_whyNotBegin.cls (some .int) G A) {g : Mem} {r : Int32} (kI : ∀ (pc : Nat) (ls : Array Slot) (H : Heap) (locs : List Loc), decode cX7_whyNotBegin pc = .ok (.ireturn, 1) → WS wM G g A s.heap H locs → narrow .int (.int r) = .int r → W p l e { frames := 2, cells := 0, slots := 0, locals := 42 } s m args below meth c H locs 0 0 Q (F0 m pc ls [.int r])) : ∀ (x1 : Int32) (H : Heap) (locs : List Loc) (ls : Array Slot), WS wM G g A s.heap H locs → lv_has ls 2 [(0, .ref (G.1 0)), (1, .int x1)] → sX7_whyNotBegin g x1 = some r → W p l e { frames := 2, cells := 0, slots := 0, locals := 42 } s m args below meth c H locs 0 0 Q (F0 m 0 ls []) := by
  have hx := X.1
  have hb := X.2.1
  intro x1 H locs ls Z hl hm
  unfold sX7_whyNotBegin at hm
  refine lv_iload_n hx hb dX7_whyNotBegin_0 rfl (lv_at hl 1 rfl) ?_
  obtain ⟨r3, e1, hm⟩ := sBi_some hm
  refine g_callSI (n := 1) (As := [.int x1]) (rest := []) sameM X Z (cX7_isServer_c l e1) (gooS mB705 mB706 mB614 mB611) rfl (by decide +kernel) rfl ⟨Nat.le_of_ble_eq_true rfl, Nat.le_of_ble_eq_true rfl⟩ ⟨Nat.le_of_ble_eq_true rfl, Nat.le_of_ble_eq_true rfl⟩ hl.1 rfl (Nat.le_of_ble_eq_true rfl) dX7_whyNotBegin_1 (fun w2 H locs Z => ?_)
  refine lv_if_ne (tgt := 11) hx hb dX7_whyNotBegin_4 (by decide) (fun c4 => ?_) (fun c4 => ?_)
  · replace hm := (if_neg c4).symm.trans hm
    refine lv_aload_n hx hb dX7_whyNotBegin_11 rfl (lv_at hl 0 rfl) ?_
    refine g_get (j := 0) (v := .ref (G.1 1)) X Z oX7 (iB7 _) rfl (by decide) rfl (List.mem_cons_of_mem _ mB602) rfl dX7_whyNotBegin_12 ?_
    refine lv_iconst (v := 3) hx hb dX7_whyNotBegin_15 (by decide) ?_
    obtain ⟨b5, hm⟩ := sIdx_some hm
    refine g_iald X Z aM1 b5 dX7_whyNotBegin_16 ?_
    refine lv_bipush (v := 40) hx hb dX7_whyNotBegin_17 (by decide) ?_
    refine lv_icmp_ne (tgt := 26) hx hb dX7_whyNotBegin_19 (by decide) (fun c6 => ?_) (fun c6 => ?_)
    · replace hm := (if_neg c6).symm.trans hm
      refine lv_iconst (v := 0) hx hb dX7_whyNotBegin_26 (by decide) ?_
      obtain rfl := Option.some.inj hm
      exact kI _ _ _ _ dX7_whyNotBegin_27 Z (vp_nar_int _)
    · replace hm := (if_pos c6).symm.trans hm
      refine lv_iconst (v := 2) hx hb dX7_whyNotBegin_22 (by decide) ?_
      refine lv_goto (tgt := 27) hx hb dX7_whyNotBegin_23 (by decide) ?_
      obtain rfl := Option.some.inj hm
      exact kI _ _ _ _ dX7_whyNotBegin_27 Z (vp_nar_int _)
  · replace hm := (if_pos c4).symm.trans hm
    refine lv_iconst (v := 1) hx hb dX7_whyNotBegin_7 (by decide) ?_
    refine lv_goto (tgt := 27) hx hb dX7_whyNotBegin_8 (by decide) ?_
    obtain rfl := Option.some.inj hm
    exact kI _ _ _ _ dX7_whyNotBegin_27 Z (vp_nar_int _)
theorem cX7_whyNotBegin_c (l : Launch) {G : LY} {g : Mem} {x1 : Int32} {r : Int32} (hm : sX7_whyNotBegin g x1 = some r) : cI l yX7_whyNotBegin wmX7_whyNotBegin 2 42 .int wM G [.ref (G.1 0), .int x1] g r g :=
  mk_cI sameM (by decide +kernel) rfl (Nat.le_of_ble_eq_true rfl) (fun p e s m args below meth c A Q ls X kI hl Z => bX7_whyNotBegin_0 X kI x1 _ _ ls Z hl hm)
abbrev wmX7_whyNot : List Cond := Cond.code yX7_whyNot cX7_whyNot 2 (some .int) :: wA0
set_option maxHeartbeats 4000000 in
set_option maxRecDepth 100000 in
theorem bX7_whyNot_0 (X : gC p s m args meth c cX7_whyNot 2 wmX7_whyNot yX7_whyNot.cls (some .int) G A) {g : Mem} {r : Int32} (kI : ∀ (pc : Nat) (ls : Array Slot) (H : Heap) (locs : List Loc), decode cX7_whyNot pc = .ok (.ireturn, 1) → WS wM G g A s.heap H locs → narrow .int (.int r) = .int r → W p l e { frames := 2, cells := 0, slots := 0, locals := 43 } s m args below meth c H locs 0 0 Q (F0 m pc ls [.int r])) : ∀ (x1 : Int32) (H : Heap) (locs : List Loc) (ls : Array Slot), WS wM G g A s.heap H locs → lv_has ls 2 [(0, .ref (G.1 0)), (1, .int x1)] → sX7_whyNot g x1 = some r → W p l e { frames := 2, cells := 0, slots := 0, locals := 43 } s m args below meth c H locs 0 0 Q (F0 m 0 ls []) := by
  have hx := X.1
  have hb := X.2.1
  intro x1 H locs ls Z hl hm
  unfold sX7_whyNot at hm
  refine lv_aload_n hx hb dX7_whyNot_0 rfl (lv_at hl 0 rfl) ?_
  refine lv_iload_n hx hb dX7_whyNot_1 rfl (lv_at hl 1 rfl) ?_
  obtain ⟨r3, e1, hm⟩ := sBi_some hm
  refine g_callVI (n := 1) (As := [.int x1]) (rest := []) sameM X Z (cX7_isTransaction_c l e1) oX7 rfl (gooV mB708 mB709 mB710 mB614 mB616) rfl (by decide +kernel) rfl ⟨Nat.le_of_ble_eq_true rfl, Nat.le_of_ble_eq_true rfl⟩ ⟨Nat.le_of_ble_eq_true rfl, Nat.le_of_ble_eq_true rfl⟩ hl.1 rfl (Nat.le_of_ble_eq_true rfl) dX7_whyNot_2 (fun w2 H locs Z => ?_)
  refine lv_if_ne (tgt := 12) hx hb dX7_whyNot_5 (by decide) (fun c4 => ?_) (fun c4 => ?_)
  · replace hm := (if_neg c4).symm.trans hm
    refine lv_aload_n hx hb dX7_whyNot_12 rfl (lv_at hl 0 rfl) ?_
    refine lv_iload_n hx hb dX7_whyNot_13 rfl (lv_at hl 1 rfl) ?_
    refine lv_iconst (v := 1) hx hb dX7_whyNot_14 (by decide) ?_
    obtain ⟨r7, e5, hm⟩ := sBi_some hm
    refine g_callVI (n := 2) (As := [.int x1, .int 1]) (rest := []) sameM X Z (cX7_of_c l e5) oX7 rfl (gooV mB652 mB653 mB654 mB614 mB649) rfl (by decide +kernel) rfl ⟨Nat.le_of_ble_eq_true rfl, Nat.le_of_ble_eq_true rfl⟩ ⟨Nat.le_of_ble_eq_true rfl, Nat.le_of_ble_eq_true rfl⟩ hl.1 rfl (Nat.le_of_ble_eq_true rfl) dX7_whyNot_15 (fun w6 H locs Z => ?_)
    refine lv_if_eq (tgt := 25) hx hb dX7_whyNot_18 (by decide) (fun c8 => ?_) (fun c8 => ?_)
    · replace hm := (if_pos c8).symm.trans hm
      refine lv_iconst (v := 0) hx hb dX7_whyNot_25 (by decide) ?_
      obtain rfl := Option.some.inj hm
      exact kI _ _ _ _ dX7_whyNot_26 Z (vp_nar_int _)
    · replace hm := (if_neg c8).symm.trans hm
      refine lv_iconst (v := 2) hx hb dX7_whyNot_21 (by decide) ?_
      refine lv_goto (tgt := 26) hx hb dX7_whyNot_22 (by decide) ?_
      obtain rfl := Option.some.inj hm
      exact kI _ _ _ _ dX7_whyNot_26 Z (vp_nar_int _)
  · replace hm := (if_pos c4).symm.trans hm
    refine lv_iconst (v := 1) hx hb dX7_whyNot_8 (by decide) ?_
    refine lv_goto (tgt := 26) hx hb dX7_whyNot_9 (by decide) ?_
    obtain rfl := Option.some.inj hm
    exact kI _ _ _ _ dX7_whyNot_26 Z (vp_nar_int _)
theorem cX7_whyNot_c (l : Launch) {G : LY} {g : Mem} {x1 : Int32} {r : Int32} (hm : sX7_whyNot g x1 = some r) : cI l yX7_whyNot wmX7_whyNot 2 43 .int wM G [.ref (G.1 0), .int x1] g r g :=
  mk_cI sameM (by decide +kernel) rfl (Nat.le_of_ble_eq_true rfl) (fun p e s m args below meth c A Q ls X kI hl Z => bX7_whyNot_0 X kI x1 _ _ ls Z hl hm)
abbrev wmX7_whyNotRead : List Cond := Cond.code yX7_whyNotRead cX7_whyNotRead 3 (some .int) :: wA0
set_option maxHeartbeats 4000000 in
set_option maxRecDepth 100000 in
theorem bX7_whyNotRead_0 (X : gC p s m args meth c cX7_whyNotRead 3 wmX7_whyNotRead yX7_whyNotRead.cls (some .int) G A) {g : Mem} {r : Int32} (kI : ∀ (pc : Nat) (ls : Array Slot) (H : Heap) (locs : List Loc), decode cX7_whyNotRead pc = .ok (.ireturn, 1) → WS wM G g A s.heap H locs → narrow .int (.int r) = .int r → W p l e { frames := 3, cells := 0, slots := 0, locals := 64 } s m args below meth c H locs 0 0 Q (F0 m pc ls [.int r])) : ∀ (x1 : Int32) (x2 : Int32) (H : Heap) (locs : List Loc) (ls : Array Slot), WS wM G g A s.heap H locs → lv_has ls 3 [(0, .ref (G.1 0)), (1, .int x1), (2, .int x2)] → sX7_whyNotRead g x1 x2 = some r → W p l e { frames := 3, cells := 0, slots := 0, locals := 64 } s m args below meth c H locs 0 0 Q (F0 m 0 ls []) := by
  have hx := X.1
  have hb := X.2.1
  intro x1 x2 H locs ls Z hl hm
  unfold sX7_whyNotRead at hm
  refine lv_iload_n hx hb dX7_whyNotRead_0 rfl (lv_at hl 2 rfl) ?_
  obtain ⟨r3, e1, hm⟩ := sBi_some hm
  refine g_callSI (n := 1) (As := [.int x2]) (rest := []) sameM X Z (cX7_isKey_c l e1) (gooS mB712 mB713 mB614 mB615) rfl (by decide +kernel) rfl ⟨Nat.le_of_ble_eq_true rfl, Nat.le_of_ble_eq_true rfl⟩ ⟨Nat.le_of_ble_eq_true rfl, Nat.le_of_ble_eq_true rfl⟩ hl.1 rfl (Nat.le_of_ble_eq_true rfl) dX7_whyNotRead_1 (fun w2 H locs Z => ?_)
  refine lv_if_ne (tgt := 11) hx hb dX7_whyNotRead_4 (by decide) (fun c4 => ?_) (fun c4 => ?_)
  · replace hm := (if_neg c4).symm.trans hm
    refine lv_aload_n hx hb dX7_whyNotRead_11 rfl (lv_at hl 0 rfl) ?_
    refine lv_iload_n hx hb dX7_whyNotRead_12 rfl (lv_at hl 1 rfl) ?_
    obtain ⟨r7, e5, hm⟩ := sBi_some hm
    refine g_callVI (n := 1) (As := [.int x1]) (rest := []) sameM X Z (cX7_whyNot_c l e5) oX7 rfl (gooV mB714 mB715 mB716 mB614 mB707) rfl (by decide +kernel) rfl ⟨Nat.le_of_ble_eq_true rfl, Nat.le_of_ble_eq_true rfl⟩ ⟨Nat.le_of_ble_eq_true rfl, Nat.le_of_ble_eq_true rfl⟩ hl.1 rfl (Nat.le_of_ble_eq_true rfl) dX7_whyNotRead_13 (fun w6 H locs Z => ?_)
    obtain rfl := Option.some.inj hm
    exact kI _ _ _ _ dX7_whyNotRead_16 Z (vp_nar_int _)
  · replace hm := (if_pos c4).symm.trans hm
    refine lv_iconst (v := 1) hx hb dX7_whyNotRead_7 (by decide) ?_
    refine lv_goto (tgt := 16) hx hb dX7_whyNotRead_8 (by decide) ?_
    obtain rfl := Option.some.inj hm
    exact kI _ _ _ _ dX7_whyNotRead_16 Z (vp_nar_int _)
theorem cX7_whyNotRead_c (l : Launch) {G : LY} {g : Mem} {x1 : Int32} {x2 : Int32} {r : Int32} (hm : sX7_whyNotRead g x1 x2 = some r) : cI l yX7_whyNotRead wmX7_whyNotRead 3 64 .int wM G [.ref (G.1 0), .int x1, .int x2] g r g :=
  mk_cI sameM (by decide +kernel) rfl (Nat.le_of_ble_eq_true rfl) (fun p e s m args below meth c A Q ls X kI hl Z => bX7_whyNotRead_0 X kI x1 x2 _ _ ls Z hl hm)
abbrev wmX7_whyNotWrite : List Cond := Cond.code yX7_whyNotWrite cX7_whyNotWrite 4 (some .int) :: wA0
set_option maxHeartbeats 4000000 in
set_option maxRecDepth 100000 in
theorem bX7_whyNotWrite_0 (X : gC p s m args meth c cX7_whyNotWrite 4 wmX7_whyNotWrite yX7_whyNotWrite.cls (some .int) G A) {g : Mem} {r : Int32} (kI : ∀ (pc : Nat) (ls : Array Slot) (H : Heap) (locs : List Loc), decode cX7_whyNotWrite pc = .ok (.ireturn, 1) → WS wM G g A s.heap H locs → narrow .int (.int r) = .int r → W p l e { frames := 2, cells := 0, slots := 0, locals := 43 } s m args below meth c H locs 0 0 Q (F0 m pc ls [.int r])) : ∀ (x1 : Int32) (x2 : Int32) (x3 : Int32) (H : Heap) (locs : List Loc) (ls : Array Slot), WS wM G g A s.heap H locs → lv_has ls 4 [(0, .ref (G.1 0)), (1, .int x1), (2, .int x2), (3, .int x3)] → sX7_whyNotWrite g x1 x2 x3 = some r → W p l e { frames := 2, cells := 0, slots := 0, locals := 43 } s m args below meth c H locs 0 0 Q (F0 m 0 ls []) := by
  have hx := X.1
  have hb := X.2.1
  intro x1 x2 x3 H locs ls Z hl hm
  unfold sX7_whyNotWrite at hm
  refine lv_aload_n hx hb dX7_whyNotWrite_0 rfl (lv_at hl 0 rfl) ?_
  refine lv_iload_n hx hb dX7_whyNotWrite_1 rfl (lv_at hl 1 rfl) ?_
  obtain ⟨r3, e1, hm⟩ := sBi_some hm
  refine g_callVI (n := 1) (As := [.int x1]) (rest := []) sameM X Z (cX7_isTransaction_c l e1) oX7 rfl (gooV mB708 mB709 mB710 mB614 mB616) rfl (by decide +kernel) rfl ⟨Nat.le_of_ble_eq_true rfl, Nat.le_of_ble_eq_true rfl⟩ ⟨Nat.le_of_ble_eq_true rfl, Nat.le_of_ble_eq_true rfl⟩ hl.1 rfl (Nat.le_of_ble_eq_true rfl) dX7_whyNotWrite_2 (fun w2 H locs Z => ?_)
  refine lv_if_eq (tgt := 15) hx hb dX7_whyNotWrite_5 (by decide) (fun c4 => ?_) (fun c4 => ?_)
  · replace hm := (if_pos c4).symm.trans hm
    refine lv_iconst (v := 1) hx hb dX7_whyNotWrite_15 (by decide) ?_
    obtain rfl := Option.some.inj hm
    exact kI _ _ _ _ dX7_whyNotWrite_16 Z (vp_nar_int _)
  · replace hm := (if_neg c4).symm.trans hm
    refine lv_iload_n hx hb dX7_whyNotWrite_8 rfl (lv_at hl 2 rfl) ?_
    obtain ⟨r7, e5, hm⟩ := sBi_some hm
    refine g_callSI (n := 1) (As := [.int x2]) (rest := []) sameM X Z (cX7_isKey_c l e5) (gooS mB712 mB713 mB614 mB615) rfl (by decide +kernel) rfl ⟨Nat.le_of_ble_eq_true rfl, Nat.le_of_ble_eq_true rfl⟩ ⟨Nat.le_of_ble_eq_true rfl, Nat.le_of_ble_eq_true rfl⟩ hl.1 rfl (Nat.le_of_ble_eq_true rfl) dX7_whyNotWrite_9 (fun w6 H locs Z => ?_)
    refine lv_if_ne (tgt := 17) hx hb dX7_whyNotWrite_12 (by decide) (fun c8 => ?_) (fun c8 => ?_)
    · replace hm := (if_neg c8).symm.trans hm
      refine lv_iload_n hx hb dX7_whyNotWrite_17 rfl (lv_at hl 3 rfl) ?_
      refine lv_iconst (v := 0) hx hb dX7_whyNotWrite_18 (by decide) ?_
      refine lv_sipush (v := 9999) hx hb dX7_whyNotWrite_19 (by decide) ?_
      obtain ⟨r11, e9, hm⟩ := sBi_some hm
      refine g_callSI (n := 3) (As := [.int x3, .int 0, .int 9999]) (rest := []) sameM X Z (cX7_in_c l e9) (gooS mB612 mB613 mB614 mB610) rfl (by decide +kernel) rfl ⟨Nat.le_of_ble_eq_true rfl, Nat.le_of_ble_eq_true rfl⟩ ⟨Nat.le_of_ble_eq_true rfl, Nat.le_of_ble_eq_true rfl⟩ hl.1 rfl (Nat.le_of_ble_eq_true rfl) dX7_whyNotWrite_22 (fun w10 H locs Z => ?_)
      refine lv_if_ne (tgt := 32) hx hb dX7_whyNotWrite_25 (by decide) (fun c12 => ?_) (fun c12 => ?_)
      · replace hm := (if_neg c12).symm.trans hm
        refine lv_aload_n hx hb dX7_whyNotWrite_32 rfl (lv_at hl 0 rfl) ?_
        refine lv_iload_n hx hb dX7_whyNotWrite_33 rfl (lv_at hl 1 rfl) ?_
        refine lv_iconst (v := 1) hx hb dX7_whyNotWrite_34 (by decide) ?_
        obtain ⟨r15, e13, hm⟩ := sBi_some hm
        refine g_callVI (n := 2) (As := [.int x1, .int 1]) (rest := []) sameM X Z (cX7_of_c l e13) oX7 rfl (gooV mB652 mB653 mB654 mB614 mB649) rfl (by decide +kernel) rfl ⟨Nat.le_of_ble_eq_true rfl, Nat.le_of_ble_eq_true rfl⟩ ⟨Nat.le_of_ble_eq_true rfl, Nat.le_of_ble_eq_true rfl⟩ hl.1 rfl (Nat.le_of_ble_eq_true rfl) dX7_whyNotWrite_35 (fun w14 H locs Z => ?_)
        refine lv_if_eq (tgt := 45) hx hb dX7_whyNotWrite_38 (by decide) (fun c16 => ?_) (fun c16 => ?_)
        · replace hm := (if_pos c16).symm.trans hm
          refine lv_iconst (v := 0) hx hb dX7_whyNotWrite_45 (by decide) ?_
          obtain rfl := Option.some.inj hm
          exact kI _ _ _ _ dX7_whyNotWrite_46 Z (vp_nar_int _)
        · replace hm := (if_neg c16).symm.trans hm
          refine lv_iconst (v := 3) hx hb dX7_whyNotWrite_41 (by decide) ?_
          refine lv_goto (tgt := 46) hx hb dX7_whyNotWrite_42 (by decide) ?_
          obtain rfl := Option.some.inj hm
          exact kI _ _ _ _ dX7_whyNotWrite_46 Z (vp_nar_int _)
      · replace hm := (if_pos c12).symm.trans hm
        refine lv_iconst (v := 2) hx hb dX7_whyNotWrite_28 (by decide) ?_
        refine lv_goto (tgt := 46) hx hb dX7_whyNotWrite_29 (by decide) ?_
        obtain rfl := Option.some.inj hm
        exact kI _ _ _ _ dX7_whyNotWrite_46 Z (vp_nar_int _)
    · replace hm := (if_pos c8).symm.trans hm
      refine lv_iconst (v := 1) hx hb dX7_whyNotWrite_15 (by decide) ?_
      obtain rfl := Option.some.inj hm
      exact kI _ _ _ _ dX7_whyNotWrite_16 Z (vp_nar_int _)
theorem cX7_whyNotWrite_c (l : Launch) {G : LY} {g : Mem} {x1 : Int32} {x2 : Int32} {x3 : Int32} {r : Int32} (hm : sX7_whyNotWrite g x1 x2 x3 = some r) : cI l yX7_whyNotWrite wmX7_whyNotWrite 2 43 .int wM G [.ref (G.1 0), .int x1, .int x2, .int x3] g r g :=
  mk_cI sameM (by decide +kernel) rfl (Nat.le_of_ble_eq_true rfl) (fun p e s m args below meth c A Q ls X kI hl Z => bX7_whyNotWrite_0 X kI x1 x2 x3 _ _ ls Z hl hm)
abbrev wmX7_whyNotAdvance : List Cond := Cond.code yX7_whyNotAdvance cX7_whyNotAdvance 2 (some .int) :: wA0
set_option maxHeartbeats 4000000 in
set_option maxRecDepth 100000 in
theorem bX7_whyNotAdvance_0 (X : gC p s m args meth c cX7_whyNotAdvance 2 wmX7_whyNotAdvance yX7_whyNotAdvance.cls (some .int) G A) {g : Mem} {r : Int32} (kI : ∀ (pc : Nat) (ls : Array Slot) (H : Heap) (locs : List Loc), decode cX7_whyNotAdvance pc = .ok (.ireturn, 1) → WS wM G g A s.heap H locs → narrow .int (.int r) = .int r → W p l e { frames := 1, cells := 0, slots := 0, locals := 22 } s m args below meth c H locs 0 0 Q (F0 m pc ls [.int r])) : ∀ (x1 : Int32) (H : Heap) (locs : List Loc) (ls : Array Slot), WS wM G g A s.heap H locs → lv_has ls 2 [(0, .ref (G.1 0)), (1, .int x1)] → sX7_whyNotAdvance g x1 = some r → W p l e { frames := 1, cells := 0, slots := 0, locals := 22 } s m args below meth c H locs 0 0 Q (F0 m 0 ls []) := by
  have hx := X.1
  have hb := X.2.1
  intro x1 H locs ls Z hl hm
  unfold sX7_whyNotAdvance at hm
  refine lv_iload_n hx hb dX7_whyNotAdvance_0 rfl (lv_at hl 1 rfl) ?_
  refine lv_iconst (v := 1) hx hb dX7_whyNotAdvance_1 (by decide) ?_
  refine lv_sipush (v := 1000) hx hb dX7_whyNotAdvance_2 (by decide) ?_
  obtain ⟨r3, e1, hm⟩ := sBi_some hm
  refine g_callSI (n := 3) (As := [.int x1, .int 1, .int 1000]) (rest := []) sameM X Z (cX7_in_c l e1) (gooS mB612 mB613 mB614 mB610) rfl (by decide +kernel) rfl ⟨Nat.le_of_ble_eq_true rfl, Nat.le_of_ble_eq_true rfl⟩ ⟨Nat.le_of_ble_eq_true rfl, Nat.le_of_ble_eq_true rfl⟩ hl.1 rfl (Nat.le_of_ble_eq_true rfl) dX7_whyNotAdvance_5 (fun w2 H locs Z => ?_)
  refine lv_if_ne (tgt := 15) hx hb dX7_whyNotAdvance_8 (by decide) (fun c4 => ?_) (fun c4 => ?_)
  · replace hm := (if_neg c4).symm.trans hm
    refine lv_aload_n hx hb dX7_whyNotAdvance_15 rfl (lv_at hl 0 rfl) ?_
    refine g_get (j := 0) (v := .ref (G.1 1)) X Z oX7 (iB7 _) rfl (by decide) rfl (List.mem_cons_of_mem _ mB602) rfl dX7_whyNotAdvance_16 ?_
    refine lv_iconst (v := 0) hx hb dX7_whyNotAdvance_19 (by decide) ?_
    obtain ⟨b5, hm⟩ := sIdx_some hm
    refine g_iald X Z aM1 b5 dX7_whyNotAdvance_20 ?_
    refine lv_iload_n hx hb dX7_whyNotAdvance_21 rfl (lv_at hl 1 rfl) ?_
    refine lv_iadd hx hb dX7_whyNotAdvance_22 ?_
    refine lv_ldc (v := 1000000) hx hb X.2.2.2.1 (X.2.2.2.2.1 _ (List.mem_cons_of_mem _ mB719)) dX7_whyNotAdvance_23 ?_
    refine lv_icmp_le (tgt := 32) hx hb dX7_whyNotAdvance_25 (by decide) (fun c6 => ?_) (fun c6 => ?_)
    · replace hm := (if_pos c6).symm.trans hm
      refine lv_iconst (v := 0) hx hb dX7_whyNotAdvance_32 (by decide) ?_
      obtain rfl := Option.some.inj hm
      exact kI _ _ _ _ dX7_whyNotAdvance_33 Z (vp_nar_int _)
    · replace hm := (if_neg c6).symm.trans hm
      refine lv_iconst (v := 2) hx hb dX7_whyNotAdvance_28 (by decide) ?_
      refine lv_goto (tgt := 33) hx hb dX7_whyNotAdvance_29 (by decide) ?_
      obtain rfl := Option.some.inj hm
      exact kI _ _ _ _ dX7_whyNotAdvance_33 Z (vp_nar_int _)
  · replace hm := (if_pos c4).symm.trans hm
    refine lv_iconst (v := 1) hx hb dX7_whyNotAdvance_11 (by decide) ?_
    refine lv_goto (tgt := 33) hx hb dX7_whyNotAdvance_12 (by decide) ?_
    obtain rfl := Option.some.inj hm
    exact kI _ _ _ _ dX7_whyNotAdvance_33 Z (vp_nar_int _)
theorem cX7_whyNotAdvance_c (l : Launch) {G : LY} {g : Mem} {x1 : Int32} {r : Int32} (hm : sX7_whyNotAdvance g x1 = some r) : cI l yX7_whyNotAdvance wmX7_whyNotAdvance 1 22 .int wM G [.ref (G.1 0), .int x1] g r g :=
  mk_cI sameM (by decide +kernel) rfl (Nat.le_of_ble_eq_true rfl) (fun p e s m args below meth c A Q ls X kI hl Z => bX7_whyNotAdvance_0 X kI x1 _ _ ls Z hl hm)
abbrev wmX7_whyNotSynchronize : List Cond := Cond.code yX7_whyNotSynchronize cX7_whyNotSynchronize 3 (some .int) :: wA0
set_option maxHeartbeats 4000000 in
set_option maxRecDepth 100000 in
theorem bX7_whyNotSynchronize_0 (X : gC p s m args meth c cX7_whyNotSynchronize 3 wmX7_whyNotSynchronize yX7_whyNotSynchronize.cls (some .int) G A) {g : Mem} {r : Int32} (kI : ∀ (pc : Nat) (ls : Array Slot) (H : Heap) (locs : List Loc), decode cX7_whyNotSynchronize pc = .ok (.ireturn, 1) → WS wM G g A s.heap H locs → narrow .int (.int r) = .int r → W p l e { frames := 2, cells := 0, slots := 0, locals := 42 } s m args below meth c H locs 0 0 Q (F0 m pc ls [.int r])) : ∀ (x1 : Int32) (x2 : Int32) (H : Heap) (locs : List Loc) (ls : Array Slot), WS wM G g A s.heap H locs → lv_has ls 3 [(0, .ref (G.1 0)), (1, .int x1), (2, .int x2)] → sX7_whyNotSynchronize g x1 x2 = some r → W p l e { frames := 2, cells := 0, slots := 0, locals := 42 } s m args below meth c H locs 0 0 Q (F0 m 0 ls []) := by
  have hx := X.1
  have hb := X.2.1
  intro x1 x2 H locs ls Z hl hm
  unfold sX7_whyNotSynchronize at hm
  refine lv_iload_n hx hb dX7_whyNotSynchronize_0 rfl (lv_at hl 1 rfl) ?_
  obtain ⟨r3, e1, hm⟩ := sBi_some hm
  refine g_callSI (n := 1) (As := [.int x1]) (rest := []) sameM X Z (cX7_isServer_c l e1) (gooS mB705 mB706 mB614 mB611) rfl (by decide +kernel) rfl ⟨Nat.le_of_ble_eq_true rfl, Nat.le_of_ble_eq_true rfl⟩ ⟨Nat.le_of_ble_eq_true rfl, Nat.le_of_ble_eq_true rfl⟩ hl.1 rfl (Nat.le_of_ble_eq_true rfl) dX7_whyNotSynchronize_1 (fun w2 H locs Z => ?_)
  refine lv_if_ne (tgt := 11) hx hb dX7_whyNotSynchronize_4 (by decide) (fun c4 => ?_) (fun c4 => ?_)
  · replace hm := (if_neg c4).symm.trans hm
    refine lv_iload_n hx hb dX7_whyNotSynchronize_11 rfl (lv_at hl 2 rfl) ?_
    refine lv_sipush (v := (-500)) hx hb dX7_whyNotSynchronize_12 (by decide) ?_
    refine lv_sipush (v := 500) hx hb dX7_whyNotSynchronize_15 (by decide) ?_
    obtain ⟨r7, e5, hm⟩ := sBi_some hm
    refine g_callSI (n := 3) (As := [.int x2, .int (-500), .int 500]) (rest := []) sameM X Z (cX7_in_c l e5) (gooS mB612 mB613 mB614 mB610) rfl (by decide +kernel) rfl ⟨Nat.le_of_ble_eq_true rfl, Nat.le_of_ble_eq_true rfl⟩ ⟨Nat.le_of_ble_eq_true rfl, Nat.le_of_ble_eq_true rfl⟩ hl.1 rfl (Nat.le_of_ble_eq_true rfl) dX7_whyNotSynchronize_18 (fun w6 H locs Z => ?_)
    refine lv_if_ne (tgt := 28) hx hb dX7_whyNotSynchronize_21 (by decide) (fun c8 => ?_) (fun c8 => ?_)
    · replace hm := (if_neg c8).symm.trans hm
      refine lv_iconst (v := 0) hx hb dX7_whyNotSynchronize_28 (by decide) ?_
      obtain rfl := Option.some.inj hm
      exact kI _ _ _ _ dX7_whyNotSynchronize_29 Z (vp_nar_int _)
    · replace hm := (if_pos c8).symm.trans hm
      refine lv_iconst (v := 2) hx hb dX7_whyNotSynchronize_24 (by decide) ?_
      refine lv_goto (tgt := 29) hx hb dX7_whyNotSynchronize_25 (by decide) ?_
      obtain rfl := Option.some.inj hm
      exact kI _ _ _ _ dX7_whyNotSynchronize_29 Z (vp_nar_int _)
  · replace hm := (if_pos c4).symm.trans hm
    refine lv_iconst (v := 1) hx hb dX7_whyNotSynchronize_7 (by decide) ?_
    refine lv_goto (tgt := 29) hx hb dX7_whyNotSynchronize_8 (by decide) ?_
    obtain rfl := Option.some.inj hm
    exact kI _ _ _ _ dX7_whyNotSynchronize_29 Z (vp_nar_int _)
theorem cX7_whyNotSynchronize_c (l : Launch) {G : LY} {g : Mem} {x1 : Int32} {x2 : Int32} {r : Int32} (hm : sX7_whyNotSynchronize g x1 x2 = some r) : cI l yX7_whyNotSynchronize wmX7_whyNotSynchronize 2 42 .int wM G [.ref (G.1 0), .int x1, .int x2] g r g :=
  mk_cI sameM (by decide +kernel) rfl (Nat.le_of_ble_eq_true rfl) (fun p e s m args below meth c A Q ls X kI hl Z => bX7_whyNotSynchronize_0 X kI x1 x2 _ _ ls Z hl hm)
abbrev wmX7_begins : List Cond := Cond.code yX7_begins cX7_begins 4 (some .int) :: wA0
set_option maxHeartbeats 4000000 in
set_option maxRecDepth 100000 in
theorem bX7_begins_28 (X : gC p s m args meth c cX7_begins 4 wmX7_begins yX7_begins.cls (some .int) G A) {n : Nat} {r : Int32 × Mem} (kI : ∀ (pc : Nat) (ls : Array Slot) (H : Heap) (locs : List Loc), decode cX7_begins pc = .ok (.ireturn, 1) → WS wM G r.2 A s.heap H locs → narrow .int (.int r.1) = .int r.1 → W p l e { frames := 1, cells := 0, slots := 0, locals := 22 } s m args below meth c H locs 0 0 Q (F0 m pc ls [.int r.1])) : ∀ (f : Nat), ∀ (g : Mem) (x2 : Int32) (x3 : Int32) (H : Heap) (locs : List Loc) (ls : Array Slot), WS wM G g A s.heap H locs → lv_has ls 4 [(0, .ref (G.1 0)), (2, .int x2), (3, .int x3)] → sX7_begins_28 n f g x2 x3 = some r → W p l e { frames := 1, cells := 0, slots := 0, locals := 22 } s m args below meth c H locs 0 0 Q (F0 m 28 ls []) := by
  have hx := X.1
  have hb := X.2.1
  intro f
  induction f with
  | zero =>
    intro g x2 x3 H locs ls Z hl hm
    cases hm
  | succ f ih =>
    intro g x2 x3 H locs ls Z hl hm
    unfold sX7_begins_28 at hm
    refine lv_iload_n hx hb dX7_begins_28 rfl (lv_at hl 2 rfl) ?_
    refine lv_bipush (v := 21) hx hb dX7_begins_29 (by decide) ?_
    refine lv_icmp_ge (tgt := 48) hx hb dX7_begins_31 (by decide) (fun c1 => ?_) (fun c1 => ?_)
    · replace hm := (if_pos c1).symm.trans hm
      refine lv_aload_n hx hb dX7_begins_48 rfl (lv_at hl 0 rfl) ?_
      refine g_get (j := 0) (v := .ref (G.1 1)) X Z oX7 (iB7 _) rfl (by decide) rfl (List.mem_cons_of_mem _ mB602) rfl dX7_begins_49 ?_
      refine lv_iconst (v := 3) hx hb dX7_begins_52 (by decide) ?_
      refine lv_dup2_11 hx hb dX7_begins_53 rfl rfl ?_
      obtain ⟨b2, hm⟩ := sIdx_some hm
      refine g_iald X Z aM1 b2 dX7_begins_54 ?_
      refine lv_iconst (v := 1) hx hb dX7_begins_55 (by decide) ?_
      refine lv_iadd hx hb dX7_begins_56 ?_
      obtain ⟨b3, hm⟩ := sIdx_some hm
      obtain ⟨g4, eg4, hm⟩ := sLet_some hm
      refine g_iast eg4 X Z aM1 b3 dX7_begins_57 (fun H locs Z => ?_)
      refine lv_aload_n hx hb dX7_begins_58 rfl (lv_at hl 0 rfl) ?_
      refine g_get (j := 0) (v := .ref (G.1 1)) X Z oX7 (iB7 _) rfl (by decide) rfl (List.mem_cons_of_mem _ mB602) rfl dX7_begins_59 ?_
      refine lv_iconst (v := 3) hx hb dX7_begins_62 (by decide) ?_
      obtain ⟨b5, hm⟩ := sIdx_some hm
      refine g_iald X Z aM1 b5 dX7_begins_63 ?_
      refine lv_iconst (v := 1) hx hb dX7_begins_64 (by decide) ?_
      refine lv_isub hx hb dX7_begins_65 ?_
      obtain rfl := Option.some.inj hm
      exact kI _ _ _ _ dX7_begins_66 Z (vp_nar_int _)
    · replace hm := (if_neg c1).symm.trans hm
      refine lv_aload_n hx hb dX7_begins_34 rfl (lv_at hl 0 rfl) ?_
      refine lv_iload_n hx hb dX7_begins_35 rfl (lv_at hl 1 rfl) ?_
      refine lv_iload_n hx hb dX7_begins_36 rfl (lv_at hl 2 rfl) ?_
      refine lv_iadd hx hb dX7_begins_37 ?_
      refine lv_iconst (v := (-1)) hx hb dX7_begins_38 (by decide) ?_
      obtain ⟨g8, e6, hm⟩ := sBi_some hm
      refine g_callVV (n := 2) (As := [.int (x2 + x3), .int (-1)]) (rest := []) sameM X Z (cX7_lays_c l e6) oX7 rfl (gooV mB722 mB723 mB724 mB614 mB650) rfl (by decide +kernel) rfl ⟨Nat.le_of_ble_eq_true rfl, Nat.le_of_ble_eq_true rfl⟩ ⟨Nat.le_of_ble_eq_true rfl, Nat.le_of_ble_eq_true rfl⟩ hl.1 rfl (Nat.le_of_ble_eq_true rfl) dX7_begins_39 (fun H locs Z => ?_)
      refine lv_iinc (v := (x3 + (1 : Int32))) (lv' := [(3, .int (x3 + (1 : Int32))), (0, .ref (G.1 0)), (2, .int x2)]) hx hb dX7_begins_42 hl (k := 2) rfl rfl (by decide) rfl (fun ls hl => ?_)
      refine lv_goto (tgt := 28) hx hb dX7_begins_45 (by decide) ?_
      exact ih g8 x2 (x3 + (1 : Int32)) _ _ _ Z (lv_sub hl [1, 2, 0] rfl) hm
set_option maxHeartbeats 4000000 in
set_option maxRecDepth 100000 in
theorem bX7_begins_0 (X : gC p s m args meth c cX7_begins 4 wmX7_begins yX7_begins.cls (some .int) G A) {n : Nat} {r : Int32 × Mem} (kI : ∀ (pc : Nat) (ls : Array Slot) (H : Heap) (locs : List Loc), decode cX7_begins pc = .ok (.ireturn, 1) → WS wM G r.2 A s.heap H locs → narrow .int (.int r.1) = .int r.1 → W p l e { frames := 1, cells := 0, slots := 0, locals := 22 } s m args below meth c H locs 0 0 Q (F0 m pc ls [.int r.1])) : ∀ (g : Mem) (x1 : Int32) (H : Heap) (locs : List Loc) (ls : Array Slot), WS wM G g A s.heap H locs → lv_has ls 4 [(0, .ref (G.1 0)), (1, .int x1)] → sX7_begins n g x1 = some r → W p l e { frames := 1, cells := 0, slots := 0, locals := 22 } s m args below meth c H locs 0 0 Q (F0 m 0 ls []) := by
  have hx := X.1
  have hb := X.2.1
  intro g x1 H locs ls Z hl hm
  unfold sX7_begins at hm
  refine lv_bipush (v := 21) hx hb dX7_begins_0 (by decide) ?_
  refine lv_aload_n hx hb dX7_begins_2 rfl (lv_at hl 0 rfl) ?_
  refine g_get (j := 0) (v := .ref (G.1 1)) X Z oX7 (iB7 _) rfl (by decide) rfl (List.mem_cons_of_mem _ mB602) rfl dX7_begins_3 ?_
  refine lv_iconst (v := 3) hx hb dX7_begins_6 (by decide) ?_
  obtain ⟨b1, hm⟩ := sIdx_some hm
  refine g_iald X Z aM1 b1 dX7_begins_7 ?_
  refine lv_imul hx hb dX7_begins_8 ?_
  refine lv_istore_n (lv' := [(2, .int ((21 : Int32) * (g 1 (3 : Int32).toNatClampNeg))), (0, .ref (G.1 0)), (1, .int x1)]) hx hb dX7_begins_9 rfl hl (by decide) rfl (fun ls hl => ?_)
  refine lv_aload_n hx hb dX7_begins_10 rfl (lv_at hl 1 rfl) ?_
  refine lv_iload_n hx hb dX7_begins_11 rfl (lv_at hl 0 rfl) ?_
  refine lv_iconst (v := 0) hx hb dX7_begins_12 (by decide) ?_
  refine lv_iadd hx hb dX7_begins_13 ?_
  refine lv_iload_n hx hb dX7_begins_14 rfl (lv_at hl 2 rfl) ?_
  obtain ⟨g4, e2, hm⟩ := sBi_some hm
  refine g_callVV (n := 2) (As := [.int (((21 : Int32) * (g 1 (3 : Int32).toNatClampNeg)) + (0 : Int32)), .int x1]) (rest := []) sameM X Z (cX7_lays_c l e2) oX7 rfl (gooV mB722 mB723 mB724 mB614 mB650) rfl (by decide +kernel) rfl ⟨Nat.le_of_ble_eq_true rfl, Nat.le_of_ble_eq_true rfl⟩ ⟨Nat.le_of_ble_eq_true rfl, Nat.le_of_ble_eq_true rfl⟩ hl.1 rfl (Nat.le_of_ble_eq_true rfl) dX7_begins_15 (fun H locs Z => ?_)
  refine lv_aload_n hx hb dX7_begins_18 rfl (lv_at hl 1 rfl) ?_
  refine lv_iload_n hx hb dX7_begins_19 rfl (lv_at hl 0 rfl) ?_
  refine lv_iconst (v := 1) hx hb dX7_begins_20 (by decide) ?_
  refine lv_iadd hx hb dX7_begins_21 ?_
  refine lv_iconst (v := 0) hx hb dX7_begins_22 (by decide) ?_
  obtain ⟨g7, e5, hm⟩ := sBi_some hm
  refine g_callVV (n := 2) (As := [.int (((21 : Int32) * (g 1 (3 : Int32).toNatClampNeg)) + (1 : Int32)), .int 0]) (rest := []) sameM X Z (cX7_lays_c l e5) oX7 rfl (gooV mB722 mB723 mB724 mB614 mB650) rfl (by decide +kernel) rfl ⟨Nat.le_of_ble_eq_true rfl, Nat.le_of_ble_eq_true rfl⟩ ⟨Nat.le_of_ble_eq_true rfl, Nat.le_of_ble_eq_true rfl⟩ hl.1 rfl (Nat.le_of_ble_eq_true rfl) dX7_begins_23 (fun H locs Z => ?_)
  refine lv_iconst (v := 2) hx hb dX7_begins_26 (by decide) ?_
  refine lv_istore_n (lv' := [(3, .int 2), (2, .int ((21 : Int32) * (g 1 (3 : Int32).toNatClampNeg))), (0, .ref (G.1 0)), (1, .int x1)]) hx hb dX7_begins_27 rfl hl (by decide) rfl (fun ls hl => ?_)
  exact bX7_begins_28 X kI n g7 ((21 : Int32) * (g 1 (3 : Int32).toNatClampNeg)) (2 : Int32) _ _ _ Z (lv_sub hl [2, 1, 0] rfl) hm
theorem cX7_begins_c (l : Launch) {G : LY} {g : Mem} {n : Nat} {x1 : Int32} {r : Int32 × Mem} (hm : sX7_begins n g x1 = some r) : cI l yX7_begins wmX7_begins 1 22 .int wM G [.ref (G.1 0), .int x1] g r.1 r.2 :=
  mk_cI sameM (by decide +kernel) rfl (Nat.le_of_ble_eq_true rfl) (fun p e s m args below meth c A Q ls X kI hl Z => bX7_begins_0 X kI g x1 _ _ ls Z hl hm)
end GW
