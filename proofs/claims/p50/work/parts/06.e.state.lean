section GW
variable {Qc : Array Value → State → Outcome → State → Prop} {XC : String → State → State → Prop} {p : Program} {l : Launch} {e : Env} {s : State} {m : MethodId} {args : Array Value} {below : List Frame} {meth : Method} {c : Code} {Q : State → Prop} {G : LY} {A : Nat → Prop}
abbrev wmX2_copyFrom : List Cond := Cond.code yX2_copyFrom cX2_copyFrom 3 none :: wA0
set_option maxHeartbeats 4000000 in
set_option maxRecDepth 100000 in
theorem bX2_copyFrom_26 (X : gC p s m args meth c cX2_copyFrom 3 wmX2_copyFrom yX2_copyFrom.cls none G A) {n : Nat} {r : Mem} (kI : ∀ (pc : Nat) (ls : Array Slot) (H : Heap) (locs : List Loc), decode cX2_copyFrom pc = .ok (.return_, 1) → WS wC G r A s.heap H locs → W p l e { frames := 2, cells := 0, slots := 0, locals := 70 } s m args below meth c H locs 0 0 Q (F0 m pc ls [])) : ∀ (f : Nat), ∀ (g : Mem) (k0 : Nat) (k1 : Nat) (x2 : Int32) (H : Heap) (locs : List Loc) (ls : Array Slot), KD k0 = 2 → KD k1 = 2 → WS wC G g A s.heap H locs → lv_has ls 3 [(0, .ref (G.1 k0)), (1, .ref (G.1 k1)), (2, .int x2)] → sX2_copyFrom_26 n f g k0 k1 x2 = some r → W p l e { frames := 2, cells := 0, slots := 0, locals := 70 } s m args below meth c H locs 0 0 Q (F0 m 26 ls []) := by
  have hx := X.1
  have hb := X.2.1
  intro f
  induction f with
  | zero =>
    intro g k0 k1 x2 H locs ls hk0 hk1 Z hl hm
    cases hm
  | succ f ih =>
    intro g k0 k1 x2 H locs ls hk0 hk1 Z hl hm
    unfold sX2_copyFrom_26 at hm
    refine lv_iload_n hx hb dX2_copyFrom_26 rfl (lv_at hl 2 rfl) ?_
    refine lv_iconst (v := 3) hx hb dX2_copyFrom_27 (by decide) ?_
    refine lv_icmp_ge (tgt := 52) hx hb dX2_copyFrom_28 (by decide) (fun c1 => ?_) (fun c1 => ?_)
    · replace hm := (if_pos c1).symm.trans hm
      refine lv_aload_n hx hb dX2_copyFrom_52 rfl (lv_at hl 0 rfl) ?_
      refine g_get (j := 4) (v := .ref (G.1 (k0 + 5))) X Z (oX2 hk0) (iB2 _) rfl (by decide) rfl (List.mem_cons_of_mem _ mB27) rfl dX2_copyFrom_53 ?_
      refine lv_aload_n hx hb dX2_copyFrom_56 rfl (lv_at hl 1 rfl) ?_
      refine g_get (j := 4) (v := .ref (G.1 (k1 + 5))) X Z (oX2 hk1) (iB2 _) rfl (by decide) rfl (List.mem_cons_of_mem _ mB27) rfl dX2_copyFrom_57 ?_
      obtain ⟨g4, e2, hm⟩ := sBi_some hm
      refine g_callVV (n := 1) (As := [.ref (G.1 (k1 + 5))]) (rest := []) sameC X Z (cX5_copyFrom_c l (k24 hk0) (k24 hk1) e2) (oX5 (k24 hk0)) rfl (gooV mB67 mB68 mB69 mB26 mB53) rfl (by decide +kernel) rfl ⟨Nat.le_of_ble_eq_true rfl, Nat.le_of_ble_eq_true rfl⟩ ⟨Nat.le_of_ble_eq_true rfl, Nat.le_of_ble_eq_true rfl⟩ hl.1 rfl (Nat.le_of_ble_eq_true rfl) dX2_copyFrom_60 (fun H locs Z => ?_)
      refine lv_aload_n hx hb dX2_copyFrom_63 rfl (lv_at hl 0 rfl) ?_
      refine g_get (j := 5) (v := .ref (G.1 (k0 + 9))) X Z (oX2 hk0) (iB2 _) rfl (by decide) rfl (List.mem_cons_of_mem _ mB31) rfl dX2_copyFrom_64 ?_
      refine lv_aload_n hx hb dX2_copyFrom_67 rfl (lv_at hl 1 rfl) ?_
      refine g_get (j := 5) (v := .ref (G.1 (k1 + 9))) X Z (oX2 hk1) (iB2 _) rfl (by decide) rfl (List.mem_cons_of_mem _ mB31) rfl dX2_copyFrom_68 ?_
      obtain ⟨g7, e5, hm⟩ := sBi_some hm
      refine g_callVV (n := 1) (As := [.ref (G.1 (k1 + 9))]) (rest := []) sameC X Z (cX4_copyFrom_c l (k25 hk0) (k25 hk1) e5) (oX4 (k25 hk0)) rfl (gooV mB70 mB71 mB72 mB30 mB58) rfl (by decide +kernel) rfl ⟨Nat.le_of_ble_eq_true rfl, Nat.le_of_ble_eq_true rfl⟩ ⟨Nat.le_of_ble_eq_true rfl, Nat.le_of_ble_eq_true rfl⟩ hl.1 rfl (Nat.le_of_ble_eq_true rfl) dX2_copyFrom_71 (fun H locs Z => ?_)
      obtain rfl := Option.some.inj hm
      exact kI _ _ _ _ dX2_copyFrom_74 Z
    · replace hm := (if_neg c1).symm.trans hm
      refine lv_aload_n hx hb dX2_copyFrom_31 rfl (lv_at hl 0 rfl) ?_
      refine g_get (j := 3) (v := .ref (G.1 (k0 + 1))) X Z (oX2 hk0) (iB2 _) rfl (by decide) rfl (List.mem_cons_of_mem _ mB23) rfl dX2_copyFrom_32 ?_
      refine lv_iload_n hx hb dX2_copyFrom_35 rfl (lv_at hl 2 rfl) ?_
      obtain ⟨b8, hm⟩ := sIdx_some hm
      refine g_aald X Z (rS (k23 hk0)) rfl b8 dX2_copyFrom_36 ?_
      refine lv_aload_n hx hb dX2_copyFrom_37 rfl (lv_at hl 1 rfl) ?_
      refine g_get (j := 3) (v := .ref (G.1 (k1 + 1))) X Z (oX2 hk1) (iB2 _) rfl (by decide) rfl (List.mem_cons_of_mem _ mB23) rfl dX2_copyFrom_38 ?_
      refine lv_iload_n hx hb dX2_copyFrom_41 rfl (lv_at hl 2 rfl) ?_
      obtain ⟨b9, hm⟩ := sIdx_some hm
      refine g_aald X Z (rS (k23 hk1)) rfl b9 dX2_copyFrom_42 ?_
      obtain ⟨g12, e10, hm⟩ := sBi_some hm
      refine g_callVV (n := 1) (As := [.ref (G.1 (k1 + 1 + 1 + x2.toNatClampNeg))]) (rest := []) sameC X Z (cX1_copyFrom_c l (k11 (k23 hk0) (vp_in_lt b8)) (k11 (k23 hk1) (vp_in_lt b9)) e10) (oX1 (k11 (k23 hk0) (vp_in_lt b8))) rfl (gooV mB64 mB65 mB66 mB33 mB47) rfl (by decide +kernel) rfl ⟨Nat.le_of_ble_eq_true rfl, Nat.le_of_ble_eq_true rfl⟩ ⟨Nat.le_of_ble_eq_true rfl, Nat.le_of_ble_eq_true rfl⟩ hl.1 rfl (Nat.le_of_ble_eq_true rfl) dX2_copyFrom_43 (fun H locs Z => ?_)
      refine lv_iinc (v := (x2 + (1 : Int32))) (lv' := [(2, .int (x2 + (1 : Int32))), (0, .ref (G.1 k0)), (1, .ref (G.1 k1))]) hx hb dX2_copyFrom_46 hl (k := 2) rfl rfl (by decide) rfl (fun ls hl => ?_)
      refine lv_goto (tgt := 26) hx hb dX2_copyFrom_49 (by decide) ?_
      exact ih g12 k0 k1 (x2 + (1 : Int32)) _ _ _ hk0 hk1 Z (lv_sub hl [1, 2, 0] rfl) hm
set_option maxHeartbeats 4000000 in
set_option maxRecDepth 100000 in
theorem bX2_copyFrom_0 (X : gC p s m args meth c cX2_copyFrom 3 wmX2_copyFrom yX2_copyFrom.cls none G A) {n : Nat} {r : Mem} (kI : ∀ (pc : Nat) (ls : Array Slot) (H : Heap) (locs : List Loc), decode cX2_copyFrom pc = .ok (.return_, 1) → WS wC G r A s.heap H locs → W p l e { frames := 2, cells := 0, slots := 0, locals := 70 } s m args below meth c H locs 0 0 Q (F0 m pc ls [])) : ∀ (g : Mem) (k0 : Nat) (k1 : Nat) (H : Heap) (locs : List Loc) (ls : Array Slot), KD k0 = 2 → KD k1 = 2 → WS wC G g A s.heap H locs → lv_has ls 3 [(0, .ref (G.1 k0)), (1, .ref (G.1 k1))] → sX2_copyFrom n g k0 k1 = some r → W p l e { frames := 2, cells := 0, slots := 0, locals := 70 } s m args below meth c H locs 0 0 Q (F0 m 0 ls []) := by
  have hx := X.1
  have hb := X.2.1
  intro g k0 k1 H locs ls hk0 hk1 Z hl hm
  unfold sX2_copyFrom at hm
  refine lv_aload_n hx hb dX2_copyFrom_0 rfl (lv_at hl 0 rfl) ?_
  refine lv_aload_n hx hb dX2_copyFrom_1 rfl (lv_at hl 1 rfl) ?_
  refine g_get (j := 0) (v := .int (g k1 0)) X Z (oX2 hk1) (iB2 _) rfl (by decide) rfl (List.mem_cons_of_mem _ mB61) rfl dX2_copyFrom_2 ?_
  obtain ⟨g1, eg1, hm⟩ := sLet_some hm
  refine g_put (j := 0) eg1 X Z (oX2 hk0) (iB2 _) rfl tyX2_ok nmX2 (by decide) rfl rfl (Nat.le_of_ble_eq_true rfl) (p2_0 G g (g k1 0)) rfl (List.mem_cons_of_mem _ mB61) dX2_copyFrom_5 (fun H locs Z => ?_)
  refine lv_aload_n hx hb dX2_copyFrom_8 rfl (lv_at hl 0 rfl) ?_
  refine lv_aload_n hx hb dX2_copyFrom_9 rfl (lv_at hl 1 rfl) ?_
  refine g_get (j := 1) (v := .int (g1 k1 1)) X Z (oX2 hk1) (iB2 _) rfl (by decide) rfl (List.mem_cons_of_mem _ mB62) rfl dX2_copyFrom_10 ?_
  obtain ⟨g2, eg2, hm⟩ := sLet_some hm
  refine g_put (j := 1) eg2 X Z (oX2 hk0) (iB2 _) rfl tyX2_ok nmX2 (by decide) rfl rfl (Nat.le_of_ble_eq_true rfl) (p2_1 G g1 (g1 k1 1)) rfl (List.mem_cons_of_mem _ mB62) dX2_copyFrom_13 (fun H locs Z => ?_)
  refine lv_aload_n hx hb dX2_copyFrom_16 rfl (lv_at hl 0 rfl) ?_
  refine lv_aload_n hx hb dX2_copyFrom_17 rfl (lv_at hl 1 rfl) ?_
  refine g_get (j := 2) (v := .int (g2 k1 2)) X Z (oX2 hk1) (iB2 _) rfl (by decide) rfl (List.mem_cons_of_mem _ mB63) rfl dX2_copyFrom_18 ?_
  obtain ⟨g3, eg3, hm⟩ := sLet_some hm
  refine g_put (j := 2) eg3 X Z (oX2 hk0) (iB2 _) rfl tyX2_ok nmX2 (by decide) rfl rfl (Nat.le_of_ble_eq_true rfl) (p2_2 G g2 (g2 k1 2)) rfl (List.mem_cons_of_mem _ mB63) dX2_copyFrom_21 (fun H locs Z => ?_)
  refine lv_iconst (v := 0) hx hb dX2_copyFrom_24 (by decide) ?_
  refine lv_istore_n (lv' := [(2, .int 0), (0, .ref (G.1 k0)), (1, .ref (G.1 k1))]) hx hb dX2_copyFrom_25 rfl hl (by decide) rfl (fun ls hl => ?_)
  exact bX2_copyFrom_26 X kI n g3 k0 k1 (0 : Int32) _ _ _ hk0 hk1 Z (lv_sub hl [1, 2, 0] rfl) hm
theorem cX2_copyFrom_c (l : Launch) {G : LY} {g : Mem} {n : Nat} {k0 : Nat} {k1 : Nat} {r : Mem} (hk0 : KD k0 = 2) (hk1 : KD k1 = 2) (hm : sX2_copyFrom n g k0 k1 = some r) : cV l yX2_copyFrom wmX2_copyFrom 2 70 wC G [.ref (G.1 k0), .ref (G.1 k1)] g r :=
  mk_cV sameC (by decide +kernel) rfl (Nat.le_of_ble_eq_true rfl) (fun p e s m args below meth c A Q ls X kI hl Z => bX2_copyFrom_0 X kI g k0 k1 _ _ ls hk0 hk1 Z hl hm)
abbrev wmX2_canBegin : List Cond := Cond.code yX2_canBegin cX2_canBegin 1 (some .boolean) :: wA0
set_option maxHeartbeats 4000000 in
set_option maxRecDepth 100000 in
theorem bX2_canBegin_0 (X : gC p s m args meth c cX2_canBegin 1 wmX2_canBegin yX2_canBegin.cls (some .boolean) G A) {g : Mem} {r : Int32} (kI : ∀ (pc : Nat) (ls : Array Slot) (H : Heap) (locs : List Loc), decode cX2_canBegin pc = .ok (.ireturn, 1) → WS wC G g A s.heap H locs → narrow .boolean (.int r) = .int r → W p l e { frames := 0, cells := 0, slots := 0, locals := 0 } s m args below meth c H locs 0 0 Q (F0 m pc ls [.int r])) : ∀ (k0 : Nat) (H : Heap) (locs : List Loc) (ls : Array Slot), KD k0 = 2 → WS wC G g A s.heap H locs → lv_has ls 1 [(0, .ref (G.1 k0))] → sX2_canBegin g k0 = some r → W p l e { frames := 0, cells := 0, slots := 0, locals := 0 } s m args below meth c H locs 0 0 Q (F0 m 0 ls []) := by
  have hx := X.1
  have hb := X.2.1
  intro k0 H locs ls hk0 Z hl hm
  unfold sX2_canBegin at hm
  refine lv_aload_n hx hb dX2_canBegin_0 rfl (lv_at hl 0 rfl) ?_
  refine g_get (j := 5) (v := .ref (G.1 (k0 + 9))) X Z (oX2 hk0) (iB2 _) rfl (by decide) rfl (List.mem_cons_of_mem _ mB31) rfl dX2_canBegin_1 ?_
  refine g_get (j := 0) (v := .int (g (k0 + 9) 0)) X Z (oX4 (k25 hk0)) (iB4 _) rfl (by decide) rfl (List.mem_cons_of_mem _ mB108) rfl dX2_canBegin_4 ?_
  refine lv_bipush (v := 40) hx hb dX2_canBegin_7 (by decide) ?_
  refine lv_icmp_ge (tgt := 16) hx hb dX2_canBegin_9 (by decide) (fun c1 => ?_) (fun c1 => ?_)
  · replace hm := (if_pos c1).symm.trans hm
    refine lv_iconst (v := 0) hx hb dX2_canBegin_16 (by decide) ?_
    obtain rfl := Option.some.inj hm
    exact kI _ _ _ _ dX2_canBegin_17 Z nb0
  · replace hm := (if_neg c1).symm.trans hm
    refine lv_iconst (v := 1) hx hb dX2_canBegin_12 (by decide) ?_
    refine lv_goto (tgt := 17) hx hb dX2_canBegin_13 (by decide) ?_
    obtain rfl := Option.some.inj hm
    exact kI _ _ _ _ dX2_canBegin_17 Z nb1
theorem cX2_canBegin_c (l : Launch) {G : LY} {g : Mem} {k0 : Nat} {r : Int32} (hk0 : KD k0 = 2) (hm : sX2_canBegin g k0 = some r) : cI l yX2_canBegin wmX2_canBegin 0 0 .boolean wC G [.ref (G.1 k0)] g r g :=
  mk_cI sameC (by decide +kernel) rfl (Nat.le_of_ble_eq_true rfl) (fun p e s m args below meth c A Q ls X kI hl Z => bX2_canBegin_0 X kI k0 _ _ ls hk0 Z hl hm)
abbrev wmX2_beginAt : List Cond := Cond.code yX2_beginAt cX2_beginAt 2 (some .int) :: wA0
set_option maxHeartbeats 4000000 in
set_option maxRecDepth 100000 in
theorem bX2_beginAt_0 (X : gC p s m args meth c cX2_beginAt 2 wmX2_beginAt yX2_beginAt.cls (some .int) G A) {n : Nat} {r : Int32 × Mem} (kI : ∀ (pc : Nat) (ls : Array Slot) (H : Heap) (locs : List Loc), decode cX2_beginAt pc = .ok (.ireturn, 1) → WS wC G r.2 A s.heap H locs → narrow .int (.int r.1) = .int r.1 → W p l e { frames := 2, cells := 0, slots := 0, locals := 46 } s m args below meth c H locs 0 0 Q (F0 m pc ls [.int r.1])) : ∀ (g : Mem) (k0 : Nat) (x1 : Int32) (H : Heap) (locs : List Loc) (ls : Array Slot), KD k0 = 2 → WS wC G g A s.heap H locs → lv_has ls 2 [(0, .ref (G.1 k0)), (1, .int x1)] → sX2_beginAt n g k0 x1 = some r → W p l e { frames := 2, cells := 0, slots := 0, locals := 46 } s m args below meth c H locs 0 0 Q (F0 m 0 ls []) := by
  have hx := X.1
  have hb := X.2.1
  intro g k0 x1 H locs ls hk0 Z hl hm
  unfold sX2_beginAt at hm
  refine lv_aload_n hx hb dX2_beginAt_0 rfl (lv_at hl 0 rfl) ?_
  refine g_get (j := 5) (v := .ref (G.1 (k0 + 9))) X Z (oX2 hk0) (iB2 _) rfl (by decide) rfl (List.mem_cons_of_mem _ mB31) rfl dX2_beginAt_1 ?_
  refine lv_iload_n hx hb dX2_beginAt_4 rfl (lv_at hl 1 rfl) ?_
  obtain ⟨r3, g4, e1, hm⟩ := sBi2_some hm
  refine g_callVI (n := 1) (As := [.int x1]) (rest := []) sameC X Z (cX4_add_c l (k25 hk0) e1) (oX4 (k25 hk0)) rfl (gooV mB119 mB120 mB121 mB30 mB111) rfl (by decide +kernel) rfl ⟨Nat.le_of_ble_eq_true rfl, Nat.le_of_ble_eq_true rfl⟩ ⟨Nat.le_of_ble_eq_true rfl, Nat.le_of_ble_eq_true rfl⟩ hl.1 rfl (Nat.le_of_ble_eq_true rfl) dX2_beginAt_5 (fun w2 H locs Z => ?_)
  obtain rfl := Option.some.inj hm
  exact kI _ _ _ _ dX2_beginAt_8 Z (vp_nar_int _)
theorem cX2_beginAt_c (l : Launch) {G : LY} {g : Mem} {n : Nat} {k0 : Nat} {x1 : Int32} {r : Int32 × Mem} (hk0 : KD k0 = 2) (hm : sX2_beginAt n g k0 x1 = some r) : cI l yX2_beginAt wmX2_beginAt 2 46 .int wC G [.ref (G.1 k0), .int x1] g r.1 r.2 :=
  mk_cI sameC (by decide +kernel) rfl (Nat.le_of_ble_eq_true rfl) (fun p e s m args below meth c A Q ls X kI hl Z => bX2_beginAt_0 X kI g k0 x1 _ _ ls hk0 Z hl hm)
abbrev wmX2_readKey : List Cond := Cond.code yX2_readKey cX2_readKey 3 (some .int) :: wA0
set_option maxHeartbeats 4000000 in
set_option maxRecDepth 100000 in
theorem bX2_readKey_0 (X : gC p s m args meth c cX2_readKey 3 wmX2_readKey yX2_readKey.cls (some .int) G A) {r : Int32 × Mem} (kI : ∀ (pc : Nat) (ls : Array Slot) (H : Heap) (locs : List Loc), decode cX2_readKey pc = .ok (.ireturn, 1) → WS wC G r.2 A s.heap H locs → narrow .int (.int r.1) = .int r.1 → W p l e { frames := 1, cells := 0, slots := 0, locals := 23 } s m args below meth c H locs 0 0 Q (F0 m pc ls [.int r.1])) : ∀ (g : Mem) (k0 : Nat) (x1 : Int32) (x2 : Int32) (H : Heap) (locs : List Loc) (ls : Array Slot), KD k0 = 2 → WS wC G g A s.heap H locs → lv_has ls 3 [(0, .ref (G.1 k0)), (1, .int x1), (2, .int x2)] → sX2_readKey g k0 x1 x2 = some r → W p l e { frames := 1, cells := 0, slots := 0, locals := 23 } s m args below meth c H locs 0 0 Q (F0 m 0 ls []) := by
  have hx := X.1
  have hb := X.2.1
  intro g k0 x1 x2 H locs ls hk0 Z hl hm
  unfold sX2_readKey at hm
  refine lv_aload_n hx hb dX2_readKey_0 rfl (lv_at hl 0 rfl) ?_
  refine g_get (j := 5) (v := .ref (G.1 (k0 + 9))) X Z (oX2 hk0) (iB2 _) rfl (by decide) rfl (List.mem_cons_of_mem _ mB31) rfl dX2_readKey_1 ?_
  refine lv_iload_n hx hb dX2_readKey_4 rfl (lv_at hl 1 rfl) ?_
  refine lv_iload_n hx hb dX2_readKey_5 rfl (lv_at hl 2 rfl) ?_
  obtain ⟨r3, e1, hm⟩ := sBi_some hm
  refine g_callVI (n := 2) (As := [.int x1, .int x2]) (rest := []) sameC X Z (cX4_hasWritten_c l (k25 hk0) e1) (oX4 (k25 hk0)) rfl (gooV mB128 mB129 mB130 mB30 mB122) rfl (by decide +kernel) rfl ⟨Nat.le_of_ble_eq_true rfl, Nat.le_of_ble_eq_true rfl⟩ ⟨Nat.le_of_ble_eq_true rfl, Nat.le_of_ble_eq_true rfl⟩ hl.1 rfl (Nat.le_of_ble_eq_true rfl) dX2_readKey_6 (fun w2 H locs Z => ?_)
  refine lv_if_eq (tgt := 22) hx hb dX2_readKey_9 (by decide) (fun c4 => ?_) (fun c4 => ?_)
  · replace hm := (if_pos c4).symm.trans hm
    refine lv_aload_n hx hb dX2_readKey_22 rfl (lv_at hl 0 rfl) ?_
    refine g_get (j := 5) (v := .ref (G.1 (k0 + 9))) X Z (oX2 hk0) (iB2 _) rfl (by decide) rfl (List.mem_cons_of_mem _ mB31) rfl dX2_readKey_23 ?_
    refine lv_iload_n hx hb dX2_readKey_26 rfl (lv_at hl 1 rfl) ?_
    refine lv_iload_n hx hb dX2_readKey_27 rfl (lv_at hl 2 rfl) ?_
    obtain ⟨r7, e5, hm⟩ := sBi_some hm
    refine g_callVI (n := 2) (As := [.int x1, .int x2]) (rest := []) sameC X Z (cX4_hasRead_c l (k25 hk0) e5) (oX4 (k25 hk0)) rfl (gooV mB134 mB135 mB136 mB30 mB124) rfl (by decide +kernel) rfl ⟨Nat.le_of_ble_eq_true rfl, Nat.le_of_ble_eq_true rfl⟩ ⟨Nat.le_of_ble_eq_true rfl, Nat.le_of_ble_eq_true rfl⟩ hl.1 rfl (Nat.le_of_ble_eq_true rfl) dX2_readKey_28 (fun w6 H locs Z => ?_)
    refine lv_if_ne (tgt := 51) hx hb dX2_readKey_31 (by decide) (fun c8 => ?_) (fun c8 => ?_)
    · replace hm := (if_neg c8).symm.trans hm
      refine lv_aload_n hx hb dX2_readKey_51 rfl (lv_at hl 0 rfl) ?_
      refine g_get (j := 4) (v := .ref (G.1 (k0 + 5))) X Z (oX2 hk0) (iB2 _) rfl (by decide) rfl (List.mem_cons_of_mem _ mB27) rfl dX2_readKey_52 ?_
      refine lv_iload_n hx hb dX2_readKey_55 rfl (lv_at hl 2 rfl) ?_
      refine lv_aload_n hx hb dX2_readKey_56 rfl (lv_at hl 0 rfl) ?_
      refine g_get (j := 5) (v := .ref (G.1 (k0 + 9))) X Z (oX2 hk0) (iB2 _) rfl (by decide) rfl (List.mem_cons_of_mem _ mB31) rfl dX2_readKey_57 ?_
      refine lv_iload_n hx hb dX2_readKey_60 rfl (lv_at hl 1 rfl) ?_
      refine lv_iload_n hx hb dX2_readKey_61 rfl (lv_at hl 2 rfl) ?_
      obtain ⟨r11, e9, hm⟩ := sBi_some hm
      refine g_callVI (n := 2) (As := [.int x1, .int x2]) (rest := [.int x2, .ref (G.1 (k0 + 5))]) sameC X Z (cX4_recordedVersion_c l (k25 hk0) e9) (oX4 (k25 hk0)) rfl (gooV mB141 mB142 mB143 mB30 mB126) rfl (by decide +kernel) rfl ⟨Nat.le_of_ble_eq_true rfl, Nat.le_of_ble_eq_true rfl⟩ ⟨Nat.le_of_ble_eq_true rfl, Nat.le_of_ble_eq_true rfl⟩ hl.1 rfl (Nat.le_of_ble_eq_true rfl) dX2_readKey_62 (fun w10 H locs Z => ?_)
      obtain ⟨r14, e12, hm⟩ := sBi_some hm
      refine g_callVI (n := 2) (As := [.int x2, .int r11]) (rest := []) sameC X Z (cX5_valueOfVersion_c l (k24 hk0) e12) (oX5 (k24 hk0)) rfl (gooV mB144 mB145 mB146 mB26 mB127) rfl (by decide +kernel) rfl ⟨Nat.le_of_ble_eq_true rfl, Nat.le_of_ble_eq_true rfl⟩ ⟨Nat.le_of_ble_eq_true rfl, Nat.le_of_ble_eq_true rfl⟩ hl.1 rfl (Nat.le_of_ble_eq_true rfl) dX2_readKey_65 (fun w13 H locs Z => ?_)
      obtain rfl := Option.some.inj hm
      exact kI _ _ _ _ dX2_readKey_68 Z (vp_nar_int _)
    · replace hm := (if_pos c8).symm.trans hm
      refine lv_aload_n hx hb dX2_readKey_34 rfl (lv_at hl 0 rfl) ?_
      refine g_get (j := 5) (v := .ref (G.1 (k0 + 9))) X Z (oX2 hk0) (iB2 _) rfl (by decide) rfl (List.mem_cons_of_mem _ mB31) rfl dX2_readKey_35 ?_
      refine lv_iload_n hx hb dX2_readKey_38 rfl (lv_at hl 1 rfl) ?_
      refine lv_iload_n hx hb dX2_readKey_39 rfl (lv_at hl 2 rfl) ?_
      refine lv_aload_n hx hb dX2_readKey_40 rfl (lv_at hl 0 rfl) ?_
      refine g_get (j := 4) (v := .ref (G.1 (k0 + 5))) X Z (oX2 hk0) (iB2 _) rfl (by decide) rfl (List.mem_cons_of_mem _ mB27) rfl dX2_readKey_41 ?_
      refine lv_iload_n hx hb dX2_readKey_44 rfl (lv_at hl 2 rfl) ?_
      obtain ⟨r17, e15, hm⟩ := sBi_some hm
      refine g_callVI (n := 1) (As := [.int x2]) (rest := [.int x2, .int x1, .ref (G.1 (k0 + 9))]) sameC X Z (cX5_newest_c l (k24 hk0) e15) (oX5 (k24 hk0)) rfl (gooV mB137 mB138 mB139 mB26 mB125) rfl (by decide +kernel) rfl ⟨Nat.le_of_ble_eq_true rfl, Nat.le_of_ble_eq_true rfl⟩ ⟨Nat.le_of_ble_eq_true rfl, Nat.le_of_ble_eq_true rfl⟩ hl.1 rfl (Nat.le_of_ble_eq_true rfl) dX2_readKey_45 (fun w16 H locs Z => ?_)
      obtain ⟨g20, e18, hm⟩ := sBi_some hm
      refine g_callVV (n := 3) (As := [.int x1, .int x2, .int r17]) (rest := []) sameC X Z (cX4_recordVersion_c l (k25 hk0) e18) (oX4 (k25 hk0)) rfl (gooV mB140 mB116 mB117 mB30 mB110) rfl (by decide +kernel) rfl ⟨Nat.le_of_ble_eq_true rfl, Nat.le_of_ble_eq_true rfl⟩ ⟨Nat.le_of_ble_eq_true rfl, Nat.le_of_ble_eq_true rfl⟩ hl.1 rfl (Nat.le_of_ble_eq_true rfl) dX2_readKey_48 (fun H locs Z => ?_)
      refine lv_aload_n hx hb dX2_readKey_51 rfl (lv_at hl 0 rfl) ?_
      refine g_get (j := 4) (v := .ref (G.1 (k0 + 5))) X Z (oX2 hk0) (iB2 _) rfl (by decide) rfl (List.mem_cons_of_mem _ mB27) rfl dX2_readKey_52 ?_
      refine lv_iload_n hx hb dX2_readKey_55 rfl (lv_at hl 2 rfl) ?_
      refine lv_aload_n hx hb dX2_readKey_56 rfl (lv_at hl 0 rfl) ?_
      refine g_get (j := 5) (v := .ref (G.1 (k0 + 9))) X Z (oX2 hk0) (iB2 _) rfl (by decide) rfl (List.mem_cons_of_mem _ mB31) rfl dX2_readKey_57 ?_
      refine lv_iload_n hx hb dX2_readKey_60 rfl (lv_at hl 1 rfl) ?_
      refine lv_iload_n hx hb dX2_readKey_61 rfl (lv_at hl 2 rfl) ?_
      obtain ⟨r23, e21, hm⟩ := sBi_some hm
      refine g_callVI (n := 2) (As := [.int x1, .int x2]) (rest := [.int x2, .ref (G.1 (k0 + 5))]) sameC X Z (cX4_recordedVersion_c l (k25 hk0) e21) (oX4 (k25 hk0)) rfl (gooV mB141 mB142 mB143 mB30 mB126) rfl (by decide +kernel) rfl ⟨Nat.le_of_ble_eq_true rfl, Nat.le_of_ble_eq_true rfl⟩ ⟨Nat.le_of_ble_eq_true rfl, Nat.le_of_ble_eq_true rfl⟩ hl.1 rfl (Nat.le_of_ble_eq_true rfl) dX2_readKey_62 (fun w22 H locs Z => ?_)
      obtain ⟨r26, e24, hm⟩ := sBi_some hm
      refine g_callVI (n := 2) (As := [.int x2, .int r23]) (rest := []) sameC X Z (cX5_valueOfVersion_c l (k24 hk0) e24) (oX5 (k24 hk0)) rfl (gooV mB144 mB145 mB146 mB26 mB127) rfl (by decide +kernel) rfl ⟨Nat.le_of_ble_eq_true rfl, Nat.le_of_ble_eq_true rfl⟩ ⟨Nat.le_of_ble_eq_true rfl, Nat.le_of_ble_eq_true rfl⟩ hl.1 rfl (Nat.le_of_ble_eq_true rfl) dX2_readKey_65 (fun w25 H locs Z => ?_)
      obtain rfl := Option.some.inj hm
      exact kI _ _ _ _ dX2_readKey_68 Z (vp_nar_int _)
  · replace hm := (if_neg c4).symm.trans hm
    refine lv_aload_n hx hb dX2_readKey_12 rfl (lv_at hl 0 rfl) ?_
    refine g_get (j := 5) (v := .ref (G.1 (k0 + 9))) X Z (oX2 hk0) (iB2 _) rfl (by decide) rfl (List.mem_cons_of_mem _ mB31) rfl dX2_readKey_13 ?_
    refine lv_iload_n hx hb dX2_readKey_16 rfl (lv_at hl 1 rfl) ?_
    refine lv_iload_n hx hb dX2_readKey_17 rfl (lv_at hl 2 rfl) ?_
    obtain ⟨r29, e27, hm⟩ := sBi_some hm
    refine g_callVI (n := 2) (As := [.int x1, .int x2]) (rest := []) sameC X Z (cX4_bufferOf_c l (k25 hk0) e27) (oX4 (k25 hk0)) rfl (gooV mB131 mB132 mB133 mB30 mB123) rfl (by decide +kernel) rfl ⟨Nat.le_of_ble_eq_true rfl, Nat.le_of_ble_eq_true rfl⟩ ⟨Nat.le_of_ble_eq_true rfl, Nat.le_of_ble_eq_true rfl⟩ hl.1 rfl (Nat.le_of_ble_eq_true rfl) dX2_readKey_18 (fun w28 H locs Z => ?_)
    obtain rfl := Option.some.inj hm
    exact kI _ _ _ _ dX2_readKey_21 Z (vp_nar_int _)
theorem cX2_readKey_c (l : Launch) {G : LY} {g : Mem} {k0 : Nat} {x1 : Int32} {x2 : Int32} {r : Int32 × Mem} (hk0 : KD k0 = 2) (hm : sX2_readKey g k0 x1 x2 = some r) : cI l yX2_readKey wmX2_readKey 1 23 .int wC G [.ref (G.1 k0), .int x1, .int x2] g r.1 r.2 :=
  mk_cI sameC (by decide +kernel) rfl (Nat.le_of_ble_eq_true rfl) (fun p e s m args below meth c A Q ls X kI hl Z => bX2_readKey_0 X kI g k0 x1 x2 _ _ ls hk0 Z hl hm)
abbrev wmX2_writeKey : List Cond := Cond.code yX2_writeKey cX2_writeKey 4 (some .int) :: wA0
set_option maxHeartbeats 4000000 in
set_option maxRecDepth 100000 in
theorem bX2_writeKey_0 (X : gC p s m args meth c cX2_writeKey 4 wmX2_writeKey yX2_writeKey.cls (some .int) G A) {n : Nat} {r : Int32 × Mem} (kI : ∀ (pc : Nat) (ls : Array Slot) (H : Heap) (locs : List Loc), decode cX2_writeKey pc = .ok (.ireturn, 1) → WS wC G r.2 A s.heap H locs → narrow .int (.int r.1) = .int r.1 → W p l e { frames := 2, cells := 0, slots := 0, locals := 45 } s m args below meth c H locs 0 0 Q (F0 m pc ls [.int r.1])) : ∀ (g : Mem) (k0 : Nat) (x1 : Int32) (x2 : Int32) (x3 : Int32) (H : Heap) (locs : List Loc) (ls : Array Slot), KD k0 = 2 → WS wC G g A s.heap H locs → lv_has ls 4 [(0, .ref (G.1 k0)), (1, .int x1), (2, .int x2), (3, .int x3)] → sX2_writeKey n g k0 x1 x2 x3 = some r → W p l e { frames := 2, cells := 0, slots := 0, locals := 45 } s m args below meth c H locs 0 0 Q (F0 m 0 ls []) := by
  have hx := X.1
  have hb := X.2.1
  intro g k0 x1 x2 x3 H locs ls hk0 Z hl hm
  unfold sX2_writeKey at hm
  refine lv_aload_n hx hb dX2_writeKey_0 rfl (lv_at hl 0 rfl) ?_
  refine g_get (j := 5) (v := .ref (G.1 (k0 + 9))) X Z (oX2 hk0) (iB2 _) rfl (by decide) rfl (List.mem_cons_of_mem _ mB31) rfl dX2_writeKey_1 ?_
  refine lv_iload_n hx hb dX2_writeKey_4 rfl (lv_at hl 1 rfl) ?_
  refine lv_iload_n hx hb dX2_writeKey_5 rfl (lv_at hl 2 rfl) ?_
  refine lv_iload_n hx hb dX2_writeKey_6 rfl (lv_at hl 3 rfl) ?_
  obtain ⟨g3, e1, hm⟩ := sBi_some hm
  refine g_callVV (n := 3) (As := [.int x1, .int x2, .int x3]) (rest := []) sameC X Z (cX4_bufferValue_c l (k25 hk0) e1) (oX4 (k25 hk0)) rfl (gooV mB151 mB113 mB114 mB30 mB109) rfl (by decide +kernel) rfl ⟨Nat.le_of_ble_eq_true rfl, Nat.le_of_ble_eq_true rfl⟩ ⟨Nat.le_of_ble_eq_true rfl, Nat.le_of_ble_eq_true rfl⟩ hl.1 rfl (Nat.le_of_ble_eq_true rfl) dX2_writeKey_7 (fun H locs Z => ?_)
  refine lv_aload_n hx hb dX2_writeKey_10 rfl (lv_at hl 0 rfl) ?_
  refine g_get (j := 5) (v := .ref (G.1 (k0 + 9))) X Z (oX2 hk0) (iB2 _) rfl (by decide) rfl (List.mem_cons_of_mem _ mB31) rfl dX2_writeKey_11 ?_
  refine lv_iload_n hx hb dX2_writeKey_14 rfl (lv_at hl 1 rfl) ?_
  obtain ⟨r6, e4, hm⟩ := sBi_some hm
  refine g_callVI (n := 1) (As := [.int x1]) (rest := []) sameC X Z (cX4_writtenKeys_c l (k25 hk0) e4) (oX4 (k25 hk0)) rfl (gooV mB152 mB153 mB154 mB30 mB148) rfl (by decide +kernel) rfl ⟨Nat.le_of_ble_eq_true rfl, Nat.le_of_ble_eq_true rfl⟩ ⟨Nat.le_of_ble_eq_true rfl, Nat.le_of_ble_eq_true rfl⟩ hl.1 rfl (Nat.le_of_ble_eq_true rfl) dX2_writeKey_15 (fun w5 H locs Z => ?_)
  obtain rfl := Option.some.inj hm
  exact kI _ _ _ _ dX2_writeKey_18 Z (vp_nar_int _)
theorem cX2_writeKey_c (l : Launch) {G : LY} {g : Mem} {n : Nat} {k0 : Nat} {x1 : Int32} {x2 : Int32} {x3 : Int32} {r : Int32 × Mem} (hk0 : KD k0 = 2) (hm : sX2_writeKey n g k0 x1 x2 x3 = some r) : cI l yX2_writeKey wmX2_writeKey 2 45 .int wC G [.ref (G.1 k0), .int x1, .int x2, .int x3] g r.1 r.2 :=
  mk_cI sameC (by decide +kernel) rfl (Nat.le_of_ble_eq_true rfl) (fun p e s m args below meth c A Q ls X kI hl Z => bX2_writeKey_0 X kI g k0 x1 x2 x3 _ _ ls hk0 Z hl hm)
abbrev wmX2_hasConflict : List Cond := Cond.code yX2_hasConflict cX2_hasConflict 3 (some .boolean) :: wA0
set_option maxHeartbeats 4000000 in
set_option maxRecDepth 100000 in
theorem bX2_hasConflict_2 (X : gC p s m args meth c cX2_hasConflict 3 wmX2_hasConflict yX2_hasConflict.cls (some .boolean) G A) {n : Nat} {g : Mem} {r : Int32} (kI : ∀ (pc : Nat) (ls : Array Slot) (H : Heap) (locs : List Loc), decode cX2_hasConflict pc = .ok (.ireturn, 1) → WS wC G g A s.heap H locs → narrow .boolean (.int r) = .int r → W p l e { frames := 1, cells := 0, slots := 0, locals := 22 } s m args below meth c H locs 0 0 Q (F0 m pc ls [.int r])) : ∀ (f : Nat), ∀ (k0 : Nat) (x1 : Int32) (x2 : Int32) (H : Heap) (locs : List Loc) (ls : Array Slot), KD k0 = 2 → WS wC G g A s.heap H locs → lv_has ls 3 [(0, .ref (G.1 k0)), (1, .int x1), (2, .int x2)] → sX2_hasConflict_2 n g f k0 x1 x2 = some r → W p l e { frames := 1, cells := 0, slots := 0, locals := 22 } s m args below meth c H locs 0 0 Q (F0 m 2 ls []) := by
  have hx := X.1
  have hb := X.2.1
  intro f
  induction f with
  | zero =>
    intro k0 x1 x2 H locs ls hk0 Z hl hm
    cases hm
  | succ f ih =>
    intro k0 x1 x2 H locs ls hk0 Z hl hm
    unfold sX2_hasConflict_2 at hm
    refine lv_iload_n hx hb dX2_hasConflict_2 rfl (lv_at hl 2 rfl) ?_
    refine lv_bipush (v := 8) hx hb dX2_hasConflict_3 (by decide) ?_
    refine lv_icmp_ge (tgt := 48) hx hb dX2_hasConflict_5 (by decide) (fun c1 => ?_) (fun c1 => ?_)
    · replace hm := (if_pos c1).symm.trans hm
      refine lv_iconst (v := 0) hx hb dX2_hasConflict_48 (by decide) ?_
      obtain rfl := Option.some.inj hm
      exact kI _ _ _ _ dX2_hasConflict_49 Z nb0
    · replace hm := (if_neg c1).symm.trans hm
      refine lv_aload_n hx hb dX2_hasConflict_8 rfl (lv_at hl 0 rfl) ?_
      refine g_get (j := 5) (v := .ref (G.1 (k0 + 9))) X Z (oX2 hk0) (iB2 _) rfl (by decide) rfl (List.mem_cons_of_mem _ mB31) rfl dX2_hasConflict_9 ?_
      refine lv_iload_n hx hb dX2_hasConflict_12 rfl (lv_at hl 1 rfl) ?_
      refine lv_iload_n hx hb dX2_hasConflict_13 rfl (lv_at hl 2 rfl) ?_
      obtain ⟨r4, e2, hm⟩ := sBi_some hm
      refine g_callVI (n := 2) (As := [.int x1, .int x2]) (rest := []) sameC X Z (cX4_hasRead_c l (k25 hk0) e2) (oX4 (k25 hk0)) rfl (gooV mB134 mB135 mB136 mB30 mB124) rfl (by decide +kernel) rfl ⟨Nat.le_of_ble_eq_true rfl, Nat.le_of_ble_eq_true rfl⟩ ⟨Nat.le_of_ble_eq_true rfl, Nat.le_of_ble_eq_true rfl⟩ hl.1 rfl (Nat.le_of_ble_eq_true rfl) dX2_hasConflict_14 (fun w3 H locs Z => ?_)
      refine lv_if_eq (tgt := 42) hx hb dX2_hasConflict_17 (by decide) (fun c5 => ?_) (fun c5 => ?_)
      · replace hm := (if_pos c5).symm.trans hm
        refine lv_iinc (v := (x2 + (1 : Int32))) (lv' := [(2, .int (x2 + (1 : Int32))), (0, .ref (G.1 k0)), (1, .int x1)]) hx hb dX2_hasConflict_42 hl (k := 2) rfl rfl (by decide) rfl (fun ls hl => ?_)
        refine lv_goto (tgt := 2) hx hb dX2_hasConflict_45 (by decide) ?_
        exact ih k0 x1 (x2 + (1 : Int32)) _ _ _ hk0 Z (lv_sub hl [1, 2, 0] rfl) hm
      · replace hm := (if_neg c5).symm.trans hm
        refine lv_aload_n hx hb dX2_hasConflict_20 rfl (lv_at hl 0 rfl) ?_
        refine g_get (j := 5) (v := .ref (G.1 (k0 + 9))) X Z (oX2 hk0) (iB2 _) rfl (by decide) rfl (List.mem_cons_of_mem _ mB31) rfl dX2_hasConflict_21 ?_
        refine lv_iload_n hx hb dX2_hasConflict_24 rfl (lv_at hl 1 rfl) ?_
        refine lv_iload_n hx hb dX2_hasConflict_25 rfl (lv_at hl 2 rfl) ?_
        obtain ⟨r8, e6, hm⟩ := sBi_some hm
        refine g_callVI (n := 2) (As := [.int x1, .int x2]) (rest := []) sameC X Z (cX4_recordedVersion_c l (k25 hk0) e6) (oX4 (k25 hk0)) rfl (gooV mB141 mB142 mB143 mB30 mB126) rfl (by decide +kernel) rfl ⟨Nat.le_of_ble_eq_true rfl, Nat.le_of_ble_eq_true rfl⟩ ⟨Nat.le_of_ble_eq_true rfl, Nat.le_of_ble_eq_true rfl⟩ hl.1 rfl (Nat.le_of_ble_eq_true rfl) dX2_hasConflict_26 (fun w7 H locs Z => ?_)
        refine lv_aload_n hx hb dX2_hasConflict_29 rfl (lv_at hl 0 rfl) ?_
        refine g_get (j := 4) (v := .ref (G.1 (k0 + 5))) X Z (oX2 hk0) (iB2 _) rfl (by decide) rfl (List.mem_cons_of_mem _ mB27) rfl dX2_hasConflict_30 ?_
        refine lv_iload_n hx hb dX2_hasConflict_33 rfl (lv_at hl 2 rfl) ?_
        obtain ⟨r11, e9, hm⟩ := sBi_some hm
        refine g_callVI (n := 1) (As := [.int x2]) (rest := [.int r8]) sameC X Z (cX5_newest_c l (k24 hk0) e9) (oX5 (k24 hk0)) rfl (gooV mB137 mB138 mB139 mB26 mB125) rfl (by decide +kernel) rfl ⟨Nat.le_of_ble_eq_true rfl, Nat.le_of_ble_eq_true rfl⟩ ⟨Nat.le_of_ble_eq_true rfl, Nat.le_of_ble_eq_true rfl⟩ hl.1 rfl (Nat.le_of_ble_eq_true rfl) dX2_hasConflict_34 (fun w10 H locs Z => ?_)
        refine lv_icmp_eq (tgt := 42) hx hb dX2_hasConflict_37 (by decide) (fun c12 => ?_) (fun c12 => ?_)
        · replace hm := (if_pos c12).symm.trans hm
          refine lv_iinc (v := (x2 + (1 : Int32))) (lv' := [(2, .int (x2 + (1 : Int32))), (0, .ref (G.1 k0)), (1, .int x1)]) hx hb dX2_hasConflict_42 hl (k := 2) rfl rfl (by decide) rfl (fun ls hl => ?_)
          refine lv_goto (tgt := 2) hx hb dX2_hasConflict_45 (by decide) ?_
          exact ih k0 x1 (x2 + (1 : Int32)) _ _ _ hk0 Z (lv_sub hl [1, 2, 0] rfl) hm
        · replace hm := (if_neg c12).symm.trans hm
          refine lv_iconst (v := 1) hx hb dX2_hasConflict_40 (by decide) ?_
          obtain rfl := Option.some.inj hm
          exact kI _ _ _ _ dX2_hasConflict_41 Z nb1
set_option maxHeartbeats 4000000 in
set_option maxRecDepth 100000 in
theorem bX2_hasConflict_0 (X : gC p s m args meth c cX2_hasConflict 3 wmX2_hasConflict yX2_hasConflict.cls (some .boolean) G A) {n : Nat} {g : Mem} {r : Int32} (kI : ∀ (pc : Nat) (ls : Array Slot) (H : Heap) (locs : List Loc), decode cX2_hasConflict pc = .ok (.ireturn, 1) → WS wC G g A s.heap H locs → narrow .boolean (.int r) = .int r → W p l e { frames := 1, cells := 0, slots := 0, locals := 22 } s m args below meth c H locs 0 0 Q (F0 m pc ls [.int r])) : ∀ (k0 : Nat) (x1 : Int32) (H : Heap) (locs : List Loc) (ls : Array Slot), KD k0 = 2 → WS wC G g A s.heap H locs → lv_has ls 3 [(0, .ref (G.1 k0)), (1, .int x1)] → sX2_hasConflict n g k0 x1 = some r → W p l e { frames := 1, cells := 0, slots := 0, locals := 22 } s m args below meth c H locs 0 0 Q (F0 m 0 ls []) := by
  have hx := X.1
  have hb := X.2.1
  intro k0 x1 H locs ls hk0 Z hl hm
  unfold sX2_hasConflict at hm
  refine lv_iconst (v := 0) hx hb dX2_hasConflict_0 (by decide) ?_
  refine lv_istore_n (lv' := [(2, .int 0), (0, .ref (G.1 k0)), (1, .int x1)]) hx hb dX2_hasConflict_1 rfl hl (by decide) rfl (fun ls hl => ?_)
  exact bX2_hasConflict_2 X kI n k0 x1 (0 : Int32) _ _ _ hk0 Z (lv_sub hl [1, 2, 0] rfl) hm
theorem cX2_hasConflict_c (l : Launch) {G : LY} {g : Mem} {n : Nat} {k0 : Nat} {x1 : Int32} {r : Int32} (hk0 : KD k0 = 2) (hm : sX2_hasConflict n g k0 x1 = some r) : cI l yX2_hasConflict wmX2_hasConflict 1 22 .boolean wC G [.ref (G.1 k0), .int x1] g r g :=
  mk_cI sameC (by decide +kernel) rfl (Nat.le_of_ble_eq_true rfl) (fun p e s m args below meth c A Q ls X kI hl Z => bX2_hasConflict_0 X kI k0 x1 _ _ ls hk0 Z hl hm)
abbrev wmX2_nextTimestampOf : List Cond := Cond.code yX2_nextTimestampOf cX2_nextTimestampOf 3 (some .int) :: wA0
set_option maxHeartbeats 4000000 in
set_option maxRecDepth 100000 in
theorem bX2_nextTimestampOf_0 (X : gC p s m args meth c cX2_nextTimestampOf 3 wmX2_nextTimestampOf yX2_nextTimestampOf.cls (some .int) G A) {g : Mem} {r : Int32} (kI : ∀ (pc : Nat) (ls : Array Slot) (H : Heap) (locs : List Loc), decode cX2_nextTimestampOf pc = .ok (.ireturn, 1) → WS wC G g A s.heap H locs → narrow .int (.int r) = .int r → W p l e { frames := 3, cells := 0, slots := 0, locals := 64 } s m args below meth c H locs 0 0 Q (F0 m pc ls [.int r])) : ∀ (k0 : Nat) (x1 : Int32) (H : Heap) (locs : List Loc) (ls : Array Slot), KD k0 = 2 → WS wC G g A s.heap H locs → lv_has ls 3 [(0, .ref (G.1 k0)), (1, .int x1)] → sX2_nextTimestampOf g k0 x1 = some r → W p l e { frames := 3, cells := 0, slots := 0, locals := 64 } s m args below meth c H locs 0 0 Q (F0 m 0 ls []) := by
  have hx := X.1
  have hb := X.2.1
  intro k0 x1 H locs ls hk0 Z hl hm
  unfold sX2_nextTimestampOf at hm
  refine lv_aload_n hx hb dX2_nextTimestampOf_0 rfl (lv_at hl 0 rfl) ?_
  refine g_get (j := 3) (v := .ref (G.1 (k0 + 1))) X Z (oX2 hk0) (iB2 _) rfl (by decide) rfl (List.mem_cons_of_mem _ mB23) rfl dX2_nextTimestampOf_1 ?_
  refine lv_iload_n hx hb dX2_nextTimestampOf_4 rfl (lv_at hl 1 rfl) ?_
  obtain ⟨b1, hm⟩ := sIdx_some hm
  refine g_aald X Z (rS (k23 hk0)) rfl b1 dX2_nextTimestampOf_5 ?_
  refine g_get (j := 6) (v := .int (g (k0 + 1 + 1 + x1.toNatClampNeg) 6)) X Z (oX1 (k11 (k23 hk0) (vp_in_lt b1))) (iB1 _) rfl (by decide) rfl (List.mem_cons_of_mem _ mB166) rfl dX2_nextTimestampOf_6 ?_
  refine lv_aload_n hx hb dX2_nextTimestampOf_9 rfl (lv_at hl 0 rfl) ?_
  refine g_get (j := 1) (v := .int (g k0 1)) X Z (oX2 hk0) (iB2 _) rfl (by decide) rfl (List.mem_cons_of_mem _ mB62) rfl dX2_nextTimestampOf_10 ?_
  refine g_max X hl.1 (List.mem_cons_of_mem _ mB167) (List.mem_cons_of_mem _ mB168) (List.mem_cons_of_mem _ mB78) (List.mem_cons_of_mem _ mB169) ⟨Nat.le_of_ble_eq_true rfl, Nat.le_of_ble_eq_true rfl, Nat.le_of_ble_eq_true rfl, Nat.le_of_ble_eq_true rfl⟩ dX2_nextTimestampOf_13 ?_
  refine lv_istore_n (lv' := [(2, .int (sMax (g (k0 + 1 + 1 + x1.toNatClampNeg) 6) (g k0 1))), (0, .ref (G.1 k0)), (1, .int x1)]) hx hb dX2_nextTimestampOf_16 rfl hl (by decide) rfl (fun ls hl => ?_)
  refine lv_aload_n hx hb dX2_nextTimestampOf_17 rfl (lv_at hl 1 rfl) ?_
  refine g_get (j := 3) (v := .ref (G.1 (k0 + 1))) X Z (oX2 hk0) (iB2 _) rfl (by decide) rfl (List.mem_cons_of_mem _ mB23) rfl dX2_nextTimestampOf_18 ?_
  refine lv_iload_n hx hb dX2_nextTimestampOf_21 rfl (lv_at hl 2 rfl) ?_
  obtain ⟨b2, hm⟩ := sIdx_some hm
  refine g_aald X Z (rS (k23 hk0)) rfl b2 dX2_nextTimestampOf_22 ?_
  refine lv_aload_n hx hb dX2_nextTimestampOf_23 rfl (lv_at hl 1 rfl) ?_
  refine g_get (j := 0) (v := .int (g k0 0)) X Z (oX2 hk0) (iB2 _) rfl (by decide) rfl (List.mem_cons_of_mem _ mB61) rfl dX2_nextTimestampOf_24 ?_
  obtain ⟨r5, e3, hm⟩ := sBi_some hm
  refine g_callVI (n := 1) (As := [.int (g k0 0)]) (rest := []) sameC X Z (cX1_latestAt_c l (k11 (k23 hk0) (vp_in_lt b2)) e3) (oX1 (k11 (k23 hk0) (vp_in_lt b2))) rfl (gooV mB170 mB105 mB106 mB33 mB100) rfl (by decide +kernel) rfl ⟨Nat.le_of_ble_eq_true rfl, Nat.le_of_ble_eq_true rfl⟩ ⟨Nat.le_of_ble_eq_true rfl, Nat.le_of_ble_eq_true rfl⟩ hl.1 rfl (Nat.le_of_ble_eq_true rfl) dX2_nextTimestampOf_27 (fun w4 H locs Z => ?_)
  refine lv_iconst (v := 1) hx hb dX2_nextTimestampOf_30 (by decide) ?_
  refine lv_iload_n hx hb dX2_nextTimestampOf_31 rfl (lv_at hl 0 rfl) ?_
  refine lv_iadd hx hb dX2_nextTimestampOf_32 ?_
  refine g_max X hl.1 (List.mem_cons_of_mem _ mB167) (List.mem_cons_of_mem _ mB168) (List.mem_cons_of_mem _ mB78) (List.mem_cons_of_mem _ mB169) ⟨Nat.le_of_ble_eq_true rfl, Nat.le_of_ble_eq_true rfl, Nat.le_of_ble_eq_true rfl, Nat.le_of_ble_eq_true rfl⟩ dX2_nextTimestampOf_33 ?_
  obtain rfl := Option.some.inj hm
  exact kI _ _ _ _ dX2_nextTimestampOf_36 Z (vp_nar_int _)
theorem cX2_nextTimestampOf_c (l : Launch) {G : LY} {g : Mem} {k0 : Nat} {x1 : Int32} {r : Int32} (hk0 : KD k0 = 2) (hm : sX2_nextTimestampOf g k0 x1 = some r) : cI l yX2_nextTimestampOf wmX2_nextTimestampOf 3 64 .int wC G [.ref (G.1 k0), .int x1] g r g :=
  mk_cI sameC (by decide +kernel) rfl (Nat.le_of_ble_eq_true rfl) (fun p e s m args below meth c A Q ls X kI hl Z => bX2_nextTimestampOf_0 X kI k0 x1 _ _ ls hk0 Z hl hm)
abbrev wmX2_commitOutcome : List Cond := Cond.code yX2_commitOutcome cX2_commitOutcome 4 (some .int) :: wA0
set_option maxHeartbeats 4000000 in
set_option maxRecDepth 100000 in
theorem bX2_commitOutcome_82 (X : gC p s m args meth c cX2_commitOutcome 4 wmX2_commitOutcome yX2_commitOutcome.cls (some .int) G A) {n : Nat} {g : Mem} {r : Int32} (kI : ∀ (pc : Nat) (ls : Array Slot) (H : Heap) (locs : List Loc), decode cX2_commitOutcome pc = .ok (.ireturn, 1) → WS wC G g A s.heap H locs → narrow .int (.int r) = .int r → W p l e { frames := 4, cells := 0, slots := 0, locals := 89 } s m args below meth c H locs 0 0 Q (F0 m pc ls [.int r])) {rec41 : Nat → Int32 → Int32 → Int32 → Option (Int32)} (h41 : ∀ (k0 : Nat) (x1 : Int32) (x2 : Int32) (x3 : Int32) (H : Heap) (locs : List Loc) (ls : Array Slot), KD k0 = 2 → WS wC G g A s.heap H locs → lv_has ls 4 [(0, .ref (G.1 k0)), (1, .int x1), (2, .int x2), (3, .int x3)] → rec41 k0 x1 x2 x3 = some r → W p l e { frames := 4, cells := 0, slots := 0, locals := 89 } s m args below meth c H locs 0 0 Q (F0 m 41 ls [])) : ∀ (k0 : Nat) (x1 : Int32) (x2 : Int32) (x3 : Int32) (H : Heap) (locs : List Loc) (ls : Array Slot), KD k0 = 2 → WS wC G g A s.heap H locs → lv_has ls 4 [(0, .ref (G.1 k0)), (1, .int x1), (2, .int x2), (3, .int x3)] → sX2_commitOutcome_82 n g rec41 k0 x1 x2 x3 = some r → W p l e { frames := 4, cells := 0, slots := 0, locals := 89 } s m args below meth c H locs 0 0 Q (F0 m 82 ls []) := by
  have hx := X.1
  have hb := X.2.1
  intro k0 x1 x2 x3 H locs ls hk0 Z hl hm
  unfold sX2_commitOutcome_82 at hm
  refine lv_aload_n hx hb dX2_commitOutcome_82 rfl (lv_at hl 0 rfl) ?_
  refine g_get (j := 5) (v := .ref (G.1 (k0 + 9))) X Z (oX2 hk0) (iB2 _) rfl (by decide) rfl (List.mem_cons_of_mem _ mB31) rfl dX2_commitOutcome_83 ?_
  refine lv_iload_n hx hb dX2_commitOutcome_86 rfl (lv_at hl 1 rfl) ?_
  refine lv_iload_n hx hb dX2_commitOutcome_87 rfl (lv_at hl 3 rfl) ?_
  obtain ⟨r3, e1, hm⟩ := sBi_some hm
  refine g_callVI (n := 2) (As := [.int x1, .int x3]) (rest := []) sameC X Z (cX4_hasWritten_c l (k25 hk0) e1) (oX4 (k25 hk0)) rfl (gooV mB128 mB129 mB130 mB30 mB122) rfl (by decide +kernel) rfl ⟨Nat.le_of_ble_eq_true rfl, Nat.le_of_ble_eq_true rfl⟩ ⟨Nat.le_of_ble_eq_true rfl, Nat.le_of_ble_eq_true rfl⟩ hl.1 rfl (Nat.le_of_ble_eq_true rfl) dX2_commitOutcome_88 (fun w2 H locs Z => ?_)
  refine lv_if_eq (tgt := 109) hx hb dX2_commitOutcome_91 (by decide) (fun c4 => ?_) (fun c4 => ?_)
  · replace hm := (if_pos c4).symm.trans hm
    refine lv_iinc (v := (x3 + (1 : Int32))) (lv' := [(3, .int (x3 + (1 : Int32))), (0, .ref (G.1 k0)), (1, .int x1), (2, .int x2)]) hx hb dX2_commitOutcome_109 hl (k := 3) rfl rfl (by decide) rfl (fun ls hl => ?_)
    refine lv_goto (tgt := 41) hx hb dX2_commitOutcome_112 (by decide) ?_
    exact h41 k0 x1 x2 (x3 + (1 : Int32)) _ _ _ hk0 Z (lv_sub hl [1, 2, 3, 0] rfl) hm
  · replace hm := (if_neg c4).symm.trans hm
    refine lv_iload_n hx hb dX2_commitOutcome_94 rfl (lv_at hl 2 rfl) ?_
    refine lv_iconst (v := 1) hx hb dX2_commitOutcome_95 (by decide) ?_
    refine lv_aload_n hx hb dX2_commitOutcome_96 rfl (lv_at hl 0 rfl) ?_
    refine g_get (j := 5) (v := .ref (G.1 (k0 + 9))) X Z (oX2 hk0) (iB2 _) rfl (by decide) rfl (List.mem_cons_of_mem _ mB31) rfl dX2_commitOutcome_97 ?_
    refine lv_iload_n hx hb dX2_commitOutcome_100 rfl (lv_at hl 3 rfl) ?_
    obtain ⟨r7, e5, hm⟩ := sBi_some hm
    refine g_callVI (n := 1) (As := [.int x3]) (rest := [.int 1, .int x2]) sameC X Z (cX4_greatestReaderTimestamp_c l (k25 hk0) e5) (oX4 (k25 hk0)) rfl (gooV mB189 mB190 mB191 mB30 mB173) rfl (by decide +kernel) rfl ⟨Nat.le_of_ble_eq_true rfl, Nat.le_of_ble_eq_true rfl⟩ ⟨Nat.le_of_ble_eq_true rfl, Nat.le_of_ble_eq_true rfl⟩ hl.1 rfl (Nat.le_of_ble_eq_true rfl) dX2_commitOutcome_101 (fun w6 H locs Z => ?_)
    refine lv_iadd hx hb dX2_commitOutcome_104 ?_
    refine g_max X hl.1 (List.mem_cons_of_mem _ mB167) (List.mem_cons_of_mem _ mB168) (List.mem_cons_of_mem _ mB78) (List.mem_cons_of_mem _ mB169) ⟨Nat.le_of_ble_eq_true rfl, Nat.le_of_ble_eq_true rfl, Nat.le_of_ble_eq_true rfl, Nat.le_of_ble_eq_true rfl⟩ dX2_commitOutcome_105 ?_
    refine lv_istore_n (lv' := [(2, .int (sMax x2 ((1 : Int32) + r7))), (0, .ref (G.1 k0)), (1, .int x1), (3, .int x3)]) hx hb dX2_commitOutcome_108 rfl hl (by decide) rfl (fun ls hl => ?_)
    refine lv_iinc (v := (x3 + (1 : Int32))) (lv' := [(3, .int (x3 + (1 : Int32))), (2, .int (sMax x2 ((1 : Int32) + r7))), (0, .ref (G.1 k0)), (1, .int x1)]) hx hb dX2_commitOutcome_109 hl (k := 3) rfl rfl (by decide) rfl (fun ls hl => ?_)
    refine lv_goto (tgt := 41) hx hb dX2_commitOutcome_112 (by decide) ?_
    exact h41 k0 x1 (sMax x2 ((1 : Int32) + r7)) (x3 + (1 : Int32)) _ _ _ hk0 Z (lv_sub hl [2, 3, 1, 0] rfl) hm
set_option maxHeartbeats 4000000 in
set_option maxRecDepth 100000 in
theorem bX2_commitOutcome_41 (X : gC p s m args meth c cX2_commitOutcome 4 wmX2_commitOutcome yX2_commitOutcome.cls (some .int) G A) {n : Nat} {g : Mem} {r : Int32} (kI : ∀ (pc : Nat) (ls : Array Slot) (H : Heap) (locs : List Loc), decode cX2_commitOutcome pc = .ok (.ireturn, 1) → WS wC G g A s.heap H locs → narrow .int (.int r) = .int r → W p l e { frames := 4, cells := 0, slots := 0, locals := 89 } s m args below meth c H locs 0 0 Q (F0 m pc ls [.int r])) : ∀ (f : Nat), ∀ (k0 : Nat) (x1 : Int32) (x2 : Int32) (x3 : Int32) (H : Heap) (locs : List Loc) (ls : Array Slot), KD k0 = 2 → WS wC G g A s.heap H locs → lv_has ls 4 [(0, .ref (G.1 k0)), (1, .int x1), (2, .int x2), (3, .int x3)] → sX2_commitOutcome_41 n g f k0 x1 x2 x3 = some r → W p l e { frames := 4, cells := 0, slots := 0, locals := 89 } s m args below meth c H locs 0 0 Q (F0 m 41 ls []) := by
  have hx := X.1
  have hb := X.2.1
  intro f
  induction f with
  | zero =>
    intro k0 x1 x2 x3 H locs ls hk0 Z hl hm
    cases hm
  | succ f ih =>
    intro k0 x1 x2 x3 H locs ls hk0 Z hl hm
    unfold sX2_commitOutcome_41 at hm
    refine lv_iload_n hx hb dX2_commitOutcome_41 rfl (lv_at hl 3 rfl) ?_
    refine lv_bipush (v := 8) hx hb dX2_commitOutcome_42 (by decide) ?_
    refine lv_icmp_ge (tgt := 115) hx hb dX2_commitOutcome_44 (by decide) (fun c1 => ?_) (fun c1 => ?_)
    · replace hm := (if_pos c1).symm.trans hm
      refine lv_iload_n hx hb dX2_commitOutcome_115 rfl (lv_at hl 2 rfl) ?_
      obtain rfl := Option.some.inj hm
      exact kI _ _ _ _ dX2_commitOutcome_116 Z (vp_nar_int _)
    · replace hm := (if_neg c1).symm.trans hm
      refine lv_aload_n hx hb dX2_commitOutcome_47 rfl (lv_at hl 0 rfl) ?_
      refine g_get (j := 5) (v := .ref (G.1 (k0 + 9))) X Z (oX2 hk0) (iB2 _) rfl (by decide) rfl (List.mem_cons_of_mem _ mB31) rfl dX2_commitOutcome_48 ?_
      refine lv_iload_n hx hb dX2_commitOutcome_51 rfl (lv_at hl 1 rfl) ?_
      refine lv_iload_n hx hb dX2_commitOutcome_52 rfl (lv_at hl 3 rfl) ?_
      obtain ⟨r4, e2, hm⟩ := sBi_some hm
      refine g_callVI (n := 2) (As := [.int x1, .int x3]) (rest := []) sameC X Z (cX4_hasTouched_c l (k25 hk0) e2) (oX4 (k25 hk0)) rfl (gooV mB185 mB160 mB161 mB30 mB156) rfl (by decide +kernel) rfl ⟨Nat.le_of_ble_eq_true rfl, Nat.le_of_ble_eq_true rfl⟩ ⟨Nat.le_of_ble_eq_true rfl, Nat.le_of_ble_eq_true rfl⟩ hl.1 rfl (Nat.le_of_ble_eq_true rfl) dX2_commitOutcome_53 (fun w3 H locs Z => ?_)
      refine lv_if_eq (tgt := 82) hx hb dX2_commitOutcome_56 (by decide) (fun c5 => ?_) (fun c5 => ?_)
      · replace hm := (if_pos c5).symm.trans hm
        exact bX2_commitOutcome_82 X kI ih k0 x1 x2 x3 _ _ _ hk0 Z (lv_sub hl [0, 1, 2, 3] rfl) hm
      · replace hm := (if_neg c5).symm.trans hm
        refine lv_iload_n hx hb dX2_commitOutcome_59 rfl (lv_at hl 2 rfl) ?_
        refine lv_iconst (v := 1) hx hb dX2_commitOutcome_60 (by decide) ?_
        refine lv_aload_n hx hb dX2_commitOutcome_61 rfl (lv_at hl 0 rfl) ?_
        refine g_get (j := 4) (v := .ref (G.1 (k0 + 5))) X Z (oX2 hk0) (iB2 _) rfl (by decide) rfl (List.mem_cons_of_mem _ mB27) rfl dX2_commitOutcome_62 ?_
        refine lv_iload_n hx hb dX2_commitOutcome_65 rfl (lv_at hl 3 rfl) ?_
        refine lv_aload_n hx hb dX2_commitOutcome_66 rfl (lv_at hl 0 rfl) ?_
        refine g_get (j := 4) (v := .ref (G.1 (k0 + 5))) X Z (oX2 hk0) (iB2 _) rfl (by decide) rfl (List.mem_cons_of_mem _ mB27) rfl dX2_commitOutcome_67 ?_
        refine lv_iload_n hx hb dX2_commitOutcome_70 rfl (lv_at hl 3 rfl) ?_
        obtain ⟨r8, e6, hm⟩ := sBi_some hm
        refine g_callVI (n := 1) (As := [.int x3]) (rest := [.int x3, .ref (G.1 (k0 + 5)), .int 1, .int x2]) sameC X Z (cX5_newest_c l (k24 hk0) e6) (oX5 (k24 hk0)) rfl (gooV mB137 mB138 mB139 mB26 mB125) rfl (by decide +kernel) rfl ⟨Nat.le_of_ble_eq_true rfl, Nat.le_of_ble_eq_true rfl⟩ ⟨Nat.le_of_ble_eq_true rfl, Nat.le_of_ble_eq_true rfl⟩ hl.1 rfl (Nat.le_of_ble_eq_true rfl) dX2_commitOutcome_71 (fun w7 H locs Z => ?_)
        obtain ⟨r11, e9, hm⟩ := sBi_some hm
        refine g_callVI (n := 2) (As := [.int x3, .int r8]) (rest := [.int 1, .int x2]) sameC X Z (cX5_timestampOf_c l (k24 hk0) e9) (oX5 (k24 hk0)) rfl (gooV mB186 mB187 mB188 mB26 mB172) rfl (by decide +kernel) rfl ⟨Nat.le_of_ble_eq_true rfl, Nat.le_of_ble_eq_true rfl⟩ ⟨Nat.le_of_ble_eq_true rfl, Nat.le_of_ble_eq_true rfl⟩ hl.1 rfl (Nat.le_of_ble_eq_true rfl) dX2_commitOutcome_74 (fun w10 H locs Z => ?_)
        refine lv_iadd hx hb dX2_commitOutcome_77 ?_
        refine g_max X hl.1 (List.mem_cons_of_mem _ mB167) (List.mem_cons_of_mem _ mB168) (List.mem_cons_of_mem _ mB78) (List.mem_cons_of_mem _ mB169) ⟨Nat.le_of_ble_eq_true rfl, Nat.le_of_ble_eq_true rfl, Nat.le_of_ble_eq_true rfl, Nat.le_of_ble_eq_true rfl⟩ dX2_commitOutcome_78 ?_
        refine lv_istore_n (lv' := [(2, .int (sMax x2 ((1 : Int32) + r11))), (0, .ref (G.1 k0)), (1, .int x1), (3, .int x3)]) hx hb dX2_commitOutcome_81 rfl hl (by decide) rfl (fun ls hl => ?_)
        exact bX2_commitOutcome_82 X kI ih k0 x1 (sMax x2 ((1 : Int32) + r11)) x3 _ _ _ hk0 Z (lv_sub hl [1, 2, 0, 3] rfl) hm
set_option maxHeartbeats 4000000 in
set_option maxRecDepth 100000 in
theorem bX2_commitOutcome_0 (X : gC p s m args meth c cX2_commitOutcome 4 wmX2_commitOutcome yX2_commitOutcome.cls (some .int) G A) {n : Nat} {g : Mem} {r : Int32} (kI : ∀ (pc : Nat) (ls : Array Slot) (H : Heap) (locs : List Loc), decode cX2_commitOutcome pc = .ok (.ireturn, 1) → WS wC G g A s.heap H locs → narrow .int (.int r) = .int r → W p l e { frames := 4, cells := 0, slots := 0, locals := 89 } s m args below meth c H locs 0 0 Q (F0 m pc ls [.int r])) : ∀ (k0 : Nat) (x1 : Int32) (H : Heap) (locs : List Loc) (ls : Array Slot), KD k0 = 2 → WS wC G g A s.heap H locs → lv_has ls 4 [(0, .ref (G.1 k0)), (1, .int x1)] → sX2_commitOutcome n g k0 x1 = some r → W p l e { frames := 4, cells := 0, slots := 0, locals := 89 } s m args below meth c H locs 0 0 Q (F0 m 0 ls []) := by
  have hx := X.1
  have hb := X.2.1
  intro k0 x1 H locs ls hk0 Z hl hm
  unfold sX2_commitOutcome at hm
  refine lv_aload_n hx hb dX2_commitOutcome_0 rfl (lv_at hl 0 rfl) ?_
  refine lv_iload_n hx hb dX2_commitOutcome_1 rfl (lv_at hl 1 rfl) ?_
  obtain ⟨r3, e1, hm⟩ := sBi_some hm
  refine g_callVI (n := 1) (As := [.int x1]) (rest := []) sameC X Z (cX2_hasConflict_c l hk0 e1) (oX2 hk0) rfl (gooV mB176 mB177 mB178 mB43 mB155) rfl (by decide +kernel) rfl ⟨Nat.le_of_ble_eq_true rfl, Nat.le_of_ble_eq_true rfl⟩ ⟨Nat.le_of_ble_eq_true rfl, Nat.le_of_ble_eq_true rfl⟩ hl.1 rfl (Nat.le_of_ble_eq_true rfl) dX2_commitOutcome_2 (fun w2 H locs Z => ?_)
  refine lv_if_eq (tgt := 11) hx hb dX2_commitOutcome_5 (by decide) (fun c4 => ?_) (fun c4 => ?_)
  · replace hm := (if_pos c4).symm.trans hm
    refine lv_aload_n hx hb dX2_commitOutcome_11 rfl (lv_at hl 0 rfl) ?_
    refine g_get (j := 5) (v := .ref (G.1 (k0 + 9))) X Z (oX2 hk0) (iB2 _) rfl (by decide) rfl (List.mem_cons_of_mem _ mB31) rfl dX2_commitOutcome_12 ?_
    refine lv_iload_n hx hb dX2_commitOutcome_15 rfl (lv_at hl 1 rfl) ?_
    obtain ⟨r7, e5, hm⟩ := sBi_some hm
    refine g_callVI (n := 1) (As := [.int x1]) (rest := []) sameC X Z (cX4_isLockedOut_c l (k25 hk0) e5) (oX4 (k25 hk0)) rfl (gooV mB179 mB180 mB181 mB30 mB162) rfl (by decide +kernel) rfl ⟨Nat.le_of_ble_eq_true rfl, Nat.le_of_ble_eq_true rfl⟩ ⟨Nat.le_of_ble_eq_true rfl, Nat.le_of_ble_eq_true rfl⟩ hl.1 rfl (Nat.le_of_ble_eq_true rfl) dX2_commitOutcome_16 (fun w6 H locs Z => ?_)
    refine lv_if_eq (tgt := 25) hx hb dX2_commitOutcome_19 (by decide) (fun c8 => ?_) (fun c8 => ?_)
    · replace hm := (if_pos c8).symm.trans hm
      refine lv_aload_n hx hb dX2_commitOutcome_25 rfl (lv_at hl 0 rfl) ?_
      refine lv_aload_n hx hb dX2_commitOutcome_26 rfl (lv_at hl 0 rfl) ?_
      refine g_get (j := 5) (v := .ref (G.1 (k0 + 9))) X Z (oX2 hk0) (iB2 _) rfl (by decide) rfl (List.mem_cons_of_mem _ mB31) rfl dX2_commitOutcome_27 ?_
      refine g_get (j := 1) (v := .ref (G.1 ((k0 + 9) + 1))) X Z (oX4 (k25 hk0)) (iB4 _) rfl (by decide) rfl (List.mem_cons_of_mem _ mB175) rfl dX2_commitOutcome_30 ?_
      refine lv_iload_n hx hb dX2_commitOutcome_33 rfl (lv_at hl 1 rfl) ?_
      obtain ⟨b9, hm⟩ := sIdx_some hm
      refine g_iald X Z (aI (k41 (k25 hk0))) b9 dX2_commitOutcome_34 ?_
      obtain ⟨r12, e10, hm⟩ := sBi_some hm
      refine g_callVI (n := 1) (As := [.int (g ((k0 + 9) + 1) x1.toNatClampNeg)]) (rest := []) sameC X Z (cX2_nextTimestampOf_c l hk0 e10) (oX2 hk0) rfl (gooV mB182 mB183 mB184 mB43 mB171) rfl (by decide +kernel) rfl ⟨Nat.le_of_ble_eq_true rfl, Nat.le_of_ble_eq_true rfl⟩ ⟨Nat.le_of_ble_eq_true rfl, Nat.le_of_ble_eq_true rfl⟩ hl.1 rfl (Nat.le_of_ble_eq_true rfl) dX2_commitOutcome_35 (fun w11 H locs Z => ?_)
      refine lv_istore_n (lv' := [(2, .int r12), (0, .ref (G.1 k0)), (1, .int x1)]) hx hb dX2_commitOutcome_38 rfl hl (by decide) rfl (fun ls hl => ?_)
      refine lv_iconst (v := 0) hx hb dX2_commitOutcome_39 (by decide) ?_
      refine lv_istore_n (lv' := [(3, .int 0), (2, .int r12), (0, .ref (G.1 k0)), (1, .int x1)]) hx hb dX2_commitOutcome_40 rfl hl (by decide) rfl (fun ls hl => ?_)
      exact bX2_commitOutcome_41 X kI n k0 x1 r12 (0 : Int32) _ _ _ hk0 Z (lv_sub hl [2, 3, 1, 0] rfl) hm
    · replace hm := (if_neg c8).symm.trans hm
      refine lv_bipush (v := (-3)) hx hb dX2_commitOutcome_22 (by decide) ?_
      obtain rfl := Option.some.inj hm
      exact kI _ _ _ _ dX2_commitOutcome_24 Z (vp_nar_int _)
  · replace hm := (if_neg c4).symm.trans hm
    refine lv_bipush (v := (-2)) hx hb dX2_commitOutcome_8 (by decide) ?_
    obtain rfl := Option.some.inj hm
    exact kI _ _ _ _ dX2_commitOutcome_10 Z (vp_nar_int _)
theorem cX2_commitOutcome_c (l : Launch) {G : LY} {g : Mem} {n : Nat} {k0 : Nat} {x1 : Int32} {r : Int32} (hk0 : KD k0 = 2) (hm : sX2_commitOutcome n g k0 x1 = some r) : cI l yX2_commitOutcome wmX2_commitOutcome 4 89 .int wC G [.ref (G.1 k0), .int x1] g r g :=
  mk_cI sameC (by decide +kernel) rfl (Nat.le_of_ble_eq_true rfl) (fun p e s m args below meth c A Q ls X kI hl Z => bX2_commitOutcome_0 X kI k0 x1 _ _ ls hk0 Z hl hm)
abbrev wmX2_makeAborted : List Cond := Cond.code yX2_makeAborted cX2_makeAborted 2 (some .int) :: wA0
set_option maxHeartbeats 4000000 in
set_option maxRecDepth 100000 in
theorem bX2_makeAborted_0 (X : gC p s m args meth c cX2_makeAborted 2 wmX2_makeAborted yX2_makeAborted.cls (some .int) G A) {n : Nat} {r : Int32 × Mem} (kI : ∀ (pc : Nat) (ls : Array Slot) (H : Heap) (locs : List Loc), decode cX2_makeAborted pc = .ok (.ireturn, 1) → WS wC G r.2 A s.heap H locs → narrow .int (.int r.1) = .int r.1 → W p l e { frames := 2, cells := 0, slots := 0, locals := 45 } s m args below meth c H locs 0 0 Q (F0 m pc ls [.int r.1])) : ∀ (g : Mem) (k0 : Nat) (x1 : Int32) (H : Heap) (locs : List Loc) (ls : Array Slot), KD k0 = 2 → WS wC G g A s.heap H locs → lv_has ls 2 [(0, .ref (G.1 k0)), (1, .int x1)] → sX2_makeAborted n g k0 x1 = some r → W p l e { frames := 2, cells := 0, slots := 0, locals := 45 } s m args below meth c H locs 0 0 Q (F0 m 0 ls []) := by
  have hx := X.1
  have hb := X.2.1
  intro g k0 x1 H locs ls hk0 Z hl hm
  unfold sX2_makeAborted at hm
  refine lv_aload_n hx hb dX2_makeAborted_0 rfl (lv_at hl 0 rfl) ?_
  refine g_get (j := 5) (v := .ref (G.1 (k0 + 9))) X Z (oX2 hk0) (iB2 _) rfl (by decide) rfl (List.mem_cons_of_mem _ mB31) rfl dX2_makeAborted_1 ?_
  refine g_get (j := 2) (v := .ref (G.1 ((k0 + 9) + 2))) X Z (oX4 (k25 hk0)) (iB4 _) rfl (by decide) rfl (List.mem_cons_of_mem _ mB194) rfl dX2_makeAborted_4 ?_
  refine lv_iload_n hx hb dX2_makeAborted_7 rfl (lv_at hl 1 rfl) ?_
  refine lv_iconst (v := 3) hx hb dX2_makeAborted_8 (by decide) ?_
  obtain ⟨b1, hm⟩ := sIdx_some hm
  obtain ⟨g2, eg2, hm⟩ := sLet_some hm
  refine g_iast eg2 X Z (aI (k42 (k25 hk0))) b1 dX2_makeAborted_9 (fun H locs Z => ?_)
  refine lv_aload_n hx hb dX2_makeAborted_10 rfl (lv_at hl 0 rfl) ?_
  refine g_get (j := 5) (v := .ref (G.1 (k0 + 9))) X Z (oX2 hk0) (iB2 _) rfl (by decide) rfl (List.mem_cons_of_mem _ mB31) rfl dX2_makeAborted_11 ?_
  refine lv_iload_n hx hb dX2_makeAborted_14 rfl (lv_at hl 1 rfl) ?_
  obtain ⟨r5, e3, hm⟩ := sBi_some hm
  refine g_callVI (n := 1) (As := [.int x1]) (rest := []) sameC X Z (cX4_writtenKeys_c l (k25 hk0) e3) (oX4 (k25 hk0)) rfl (gooV mB152 mB153 mB154 mB30 mB148) rfl (by decide +kernel) rfl ⟨Nat.le_of_ble_eq_true rfl, Nat.le_of_ble_eq_true rfl⟩ ⟨Nat.le_of_ble_eq_true rfl, Nat.le_of_ble_eq_true rfl⟩ hl.1 rfl (Nat.le_of_ble_eq_true rfl) dX2_makeAborted_15 (fun w4 H locs Z => ?_)
  obtain rfl := Option.some.inj hm
  exact kI _ _ _ _ dX2_makeAborted_18 Z (vp_nar_int _)
theorem cX2_makeAborted_c (l : Launch) {G : LY} {g : Mem} {n : Nat} {k0 : Nat} {x1 : Int32} {r : Int32 × Mem} (hk0 : KD k0 = 2) (hm : sX2_makeAborted n g k0 x1 = some r) : cI l yX2_makeAborted wmX2_makeAborted 2 45 .int wC G [.ref (G.1 k0), .int x1] g r.1 r.2 :=
  mk_cI sameC (by decide +kernel) rfl (Nat.le_of_ble_eq_true rfl) (fun p e s m args below meth c A Q ls X kI hl Z => bX2_makeAborted_0 X kI g k0 x1 _ _ ls hk0 Z hl hm)
abbrev wmX2_makeWaiting : List Cond := Cond.code yX2_makeWaiting cX2_makeWaiting 4 none :: wA0
set_option maxHeartbeats 4000000 in
set_option maxRecDepth 100000 in
theorem bX2_makeWaiting_0 (X : gC p s m args meth c cX2_makeWaiting 4 wmX2_makeWaiting yX2_makeWaiting.cls none G A) {r : Mem} (kI : ∀ (pc : Nat) (ls : Array Slot) (H : Heap) (locs : List Loc), decode cX2_makeWaiting pc = .ok (.return_, 1) → WS wC G r A s.heap H locs → W p l e { frames := 3, cells := 0, slots := 0, locals := 66 } s m args below meth c H locs 0 0 Q (F0 m pc ls [])) : ∀ (g : Mem) (k0 : Nat) (x1 : Int32) (x2 : Int32) (H : Heap) (locs : List Loc) (ls : Array Slot), KD k0 = 2 → WS wC G g A s.heap H locs → lv_has ls 4 [(0, .ref (G.1 k0)), (1, .int x1), (2, .int x2)] → sX2_makeWaiting g k0 x1 x2 = some r → W p l e { frames := 3, cells := 0, slots := 0, locals := 66 } s m args below meth c H locs 0 0 Q (F0 m 0 ls []) := by
  have hx := X.1
  have hb := X.2.1
  intro g k0 x1 x2 H locs ls hk0 Z hl hm
  unfold sX2_makeWaiting at hm
  refine lv_aload_n hx hb dX2_makeWaiting_0 rfl (lv_at hl 0 rfl) ?_
  refine g_get (j := 5) (v := .ref (G.1 (k0 + 9))) X Z (oX2 hk0) (iB2 _) rfl (by decide) rfl (List.mem_cons_of_mem _ mB31) rfl dX2_makeWaiting_1 ?_
  refine g_get (j := 1) (v := .ref (G.1 ((k0 + 9) + 1))) X Z (oX4 (k25 hk0)) (iB4 _) rfl (by decide) rfl (List.mem_cons_of_mem _ mB175) rfl dX2_makeWaiting_4 ?_
  refine lv_iload_n hx hb dX2_makeWaiting_7 rfl (lv_at hl 1 rfl) ?_
  obtain ⟨b1, hm⟩ := sIdx_some hm
  refine g_iald X Z (aI (k41 (k25 hk0))) b1 dX2_makeWaiting_8 ?_
  refine lv_istore_n (lv' := [(3, .int (g ((k0 + 9) + 1) x1.toNatClampNeg)), (0, .ref (G.1 k0)), (1, .int x1), (2, .int x2)]) hx hb dX2_makeWaiting_9 rfl hl (by decide) rfl (fun ls hl => ?_)
  refine lv_aload_n hx hb dX2_makeWaiting_10 rfl (lv_at hl 1 rfl) ?_
  refine g_get (j := 5) (v := .ref (G.1 (k0 + 9))) X Z (oX2 hk0) (iB2 _) rfl (by decide) rfl (List.mem_cons_of_mem _ mB31) rfl dX2_makeWaiting_11 ?_
  refine g_get (j := 2) (v := .ref (G.1 ((k0 + 9) + 2))) X Z (oX4 (k25 hk0)) (iB4 _) rfl (by decide) rfl (List.mem_cons_of_mem _ mB194) rfl dX2_makeWaiting_14 ?_
  refine lv_iload_n hx hb dX2_makeWaiting_17 rfl (lv_at hl 2 rfl) ?_
  refine lv_iconst (v := 1) hx hb dX2_makeWaiting_18 (by decide) ?_
  obtain ⟨b2, hm⟩ := sIdx_some hm
  obtain ⟨g3, eg3, hm⟩ := sLet_some hm
  refine g_iast eg3 X Z (aI (k42 (k25 hk0))) b2 dX2_makeWaiting_19 (fun H locs Z => ?_)
  refine lv_aload_n hx hb dX2_makeWaiting_20 rfl (lv_at hl 1 rfl) ?_
  refine g_get (j := 5) (v := .ref (G.1 (k0 + 9))) X Z (oX2 hk0) (iB2 _) rfl (by decide) rfl (List.mem_cons_of_mem _ mB31) rfl dX2_makeWaiting_21 ?_
  refine g_get (j := 3) (v := .ref (G.1 ((k0 + 9) + 3))) X Z (oX4 (k25 hk0)) (iB4 _) rfl (by decide) rfl (List.mem_cons_of_mem _ mB195) rfl dX2_makeWaiting_24 ?_
  refine lv_iload_n hx hb dX2_makeWaiting_27 rfl (lv_at hl 2 rfl) ?_
  refine lv_iload_n hx hb dX2_makeWaiting_28 rfl (lv_at hl 3 rfl) ?_
  obtain ⟨b4, hm⟩ := sIdx_some hm
  obtain ⟨g5, eg5, hm⟩ := sLet_some hm
  refine g_iast eg5 X Z (aI (k43 (k25 hk0))) b4 dX2_makeWaiting_29 (fun H locs Z => ?_)
  refine lv_aload_n hx hb dX2_makeWaiting_30 rfl (lv_at hl 1 rfl) ?_
  refine g_get (j := 5) (v := .ref (G.1 (k0 + 9))) X Z (oX2 hk0) (iB2 _) rfl (by decide) rfl (List.mem_cons_of_mem _ mB31) rfl dX2_makeWaiting_31 ?_
  refine g_get (j := 4) (v := .ref (G.1 ((k0 + 9) + 4))) X Z (oX4 (k25 hk0)) (iB4 _) rfl (by decide) rfl (List.mem_cons_of_mem _ mB196) rfl dX2_makeWaiting_34 ?_
  refine lv_iload_n hx hb dX2_makeWaiting_37 rfl (lv_at hl 2 rfl) ?_
  refine lv_aload_n hx hb dX2_makeWaiting_38 rfl (lv_at hl 1 rfl) ?_
  refine g_get (j := 0) (v := .int (g5 k0 0)) X Z (oX2 hk0) (iB2 _) rfl (by decide) rfl (List.mem_cons_of_mem _ mB61) rfl dX2_makeWaiting_39 ?_
  obtain ⟨b6, hm⟩ := sIdx_some hm
  obtain ⟨g7, eg7, hm⟩ := sLet_some hm
  refine g_iast eg7 X Z (aI (k44 (k25 hk0))) b6 dX2_makeWaiting_42 (fun H locs Z => ?_)
  refine lv_aload_n hx hb dX2_makeWaiting_43 rfl (lv_at hl 1 rfl) ?_
  refine g_get (j := 3) (v := .ref (G.1 (k0 + 1))) X Z (oX2 hk0) (iB2 _) rfl (by decide) rfl (List.mem_cons_of_mem _ mB23) rfl dX2_makeWaiting_44 ?_
  refine lv_iload_n hx hb dX2_makeWaiting_47 rfl (lv_at hl 0 rfl) ?_
  obtain ⟨b8, hm⟩ := sIdx_some hm
  refine g_aald X Z (rS (k23 hk0)) rfl b8 dX2_makeWaiting_48 ?_
  refine lv_iload_n hx hb dX2_makeWaiting_49 rfl (lv_at hl 3 rfl) ?_
  obtain ⟨g9, eg9, hm⟩ := sLet_some hm
  refine g_put (j := 6) eg9 X Z (oX1 (k11 (k23 hk0) (vp_in_lt b8))) (iB1 _) rfl tyX1_ok nmX1 (by decide) rfl rfl (Nat.le_of_ble_eq_true rfl) (p1_6 G g7 x2) rfl (List.mem_cons_of_mem _ mB166) dX2_makeWaiting_50 (fun H locs Z => ?_)
  refine lv_aload_n hx hb dX2_makeWaiting_53 rfl (lv_at hl 1 rfl) ?_
  refine lv_dup hx hb dX2_makeWaiting_54 rfl ?_
  refine g_get (j := 2) (v := .int (g9 k0 2)) X Z (oX2 hk0) (iB2 _) rfl (by decide) rfl (List.mem_cons_of_mem _ mB63) rfl dX2_makeWaiting_55 ?_
  refine lv_aload_n hx hb dX2_makeWaiting_58 rfl (lv_at hl 1 rfl) ?_
  refine g_get (j := 3) (v := .ref (G.1 (k0 + 1))) X Z (oX2 hk0) (iB2 _) rfl (by decide) rfl (List.mem_cons_of_mem _ mB23) rfl dX2_makeWaiting_59 ?_
  refine lv_iload_n hx hb dX2_makeWaiting_62 rfl (lv_at hl 0 rfl) ?_
  obtain ⟨b10, hm⟩ := sIdx_some hm
  refine g_aald X Z (rS (k23 hk0)) rfl b10 dX2_makeWaiting_63 ?_
  refine lv_aload_n hx hb dX2_makeWaiting_64 rfl (lv_at hl 1 rfl) ?_
  refine g_get (j := 0) (v := .int (g9 k0 0)) X Z (oX2 hk0) (iB2 _) rfl (by decide) rfl (List.mem_cons_of_mem _ mB61) rfl dX2_makeWaiting_65 ?_
  obtain ⟨r13, e11, hm⟩ := sBi_some hm
  refine g_callVI (n := 1) (As := [.int (g9 k0 0)]) (rest := [.int (g9 k0 2), .ref (G.1 k0)]) sameC X Z (cX1_isSoundAt_c l (k11 (k23 hk0) (vp_in_lt b10)) e11) (oX1 (k11 (k23 hk0) (vp_in_lt b10))) rfl (gooV mB197 mB198 mB199 mB33 mB101) rfl (by decide +kernel) rfl ⟨Nat.le_of_ble_eq_true rfl, Nat.le_of_ble_eq_true rfl⟩ ⟨Nat.le_of_ble_eq_true rfl, Nat.le_of_ble_eq_true rfl⟩ hl.1 rfl (Nat.le_of_ble_eq_true rfl) dX2_makeWaiting_68 (fun w12 H locs Z => ?_)
  refine lv_if_eq (tgt := 78) hx hb dX2_makeWaiting_71 (by decide) (fun c14 => ?_) (fun c14 => ?_)
  · replace hm := (if_pos c14).symm.trans hm
    refine lv_iconst (v := 1) hx hb dX2_makeWaiting_78 (by decide) ?_
    refine lv_iadd hx hb dX2_makeWaiting_79 ?_
    obtain ⟨g15, eg15, hm⟩ := sLet_some hm
    refine g_put (j := 2) eg15 X Z (oX2 hk0) (iB2 _) rfl tyX2_ok nmX2 (by decide) rfl rfl (Nat.le_of_ble_eq_true rfl) (p2_2 G g9 ((g9 k0 2) + (1 : Int32))) rfl (List.mem_cons_of_mem _ mB63) dX2_makeWaiting_80 (fun H locs Z => ?_)
    obtain rfl := Option.some.inj hm
    exact kI _ _ _ _ dX2_makeWaiting_83 Z
  · replace hm := (if_neg c14).symm.trans hm
    refine lv_iconst (v := 0) hx hb dX2_makeWaiting_74 (by decide) ?_
    refine lv_goto (tgt := 79) hx hb dX2_makeWaiting_75 (by decide) ?_
    refine lv_iadd hx hb dX2_makeWaiting_79 ?_
    obtain ⟨g16, eg16, hm⟩ := sLet_some hm
    refine g_put (j := 2) eg16 X Z (oX2 hk0) (iB2 _) rfl tyX2_ok nmX2 (by decide) rfl rfl (Nat.le_of_ble_eq_true rfl) (p2_2 G g9 ((g9 k0 2) + (0 : Int32))) rfl (List.mem_cons_of_mem _ mB63) dX2_makeWaiting_80 (fun H locs Z => ?_)
    obtain rfl := Option.some.inj hm
    exact kI _ _ _ _ dX2_makeWaiting_83 Z
theorem cX2_makeWaiting_c (l : Launch) {G : LY} {g : Mem} {k0 : Nat} {x1 : Int32} {x2 : Int32} {r : Mem} (hk0 : KD k0 = 2) (hm : sX2_makeWaiting g k0 x1 x2 = some r) : cV l yX2_makeWaiting wmX2_makeWaiting 3 66 wC G [.ref (G.1 k0), .int x1, .int x2] g r :=
  mk_cV sameC (by decide +kernel) rfl (Nat.le_of_ble_eq_true rfl) (fun p e s m args below meth c A Q ls X kI hl Z => bX2_makeWaiting_0 X kI g k0 x1 x2 _ _ ls hk0 Z hl hm)
abbrev wmX2_carryOut : List Cond := Cond.code yX2_carryOut cX2_carryOut 3 none :: wA0
set_option maxHeartbeats 4000000 in
set_option maxRecDepth 100000 in
theorem bX2_carryOut_0 (X : gC p s m args meth c cX2_carryOut 3 wmX2_carryOut yX2_carryOut.cls none G A) {n : Nat} {r : Mem} (kI : ∀ (pc : Nat) (ls : Array Slot) (H : Heap) (locs : List Loc), decode cX2_carryOut pc = .ok (.return_, 1) → WS wC G r A s.heap H locs → W p l e { frames := 4, cells := 0, slots := 0, locals := 89 } s m args below meth c H locs 0 0 Q (F0 m pc ls [])) : ∀ (g : Mem) (k0 : Nat) (x1 : Int32) (x2 : Int32) (H : Heap) (locs : List Loc) (ls : Array Slot), KD k0 = 2 → WS wC G g A s.heap H locs → lv_has ls 3 [(0, .ref (G.1 k0)), (1, .int x1), (2, .int x2)] → sX2_carryOut n g k0 x1 x2 = some r → W p l e { frames := 4, cells := 0, slots := 0, locals := 89 } s m args below meth c H locs 0 0 Q (F0 m 0 ls []) := by
  have hx := X.1
  have hb := X.2.1
  intro g k0 x1 x2 H locs ls hk0 Z hl hm
  unfold sX2_carryOut at hm
  refine lv_iload_n hx hb dX2_carryOut_0 rfl (lv_at hl 1 rfl) ?_
  refine lv_bipush (v := (-2)) hx hb dX2_carryOut_1 (by decide) ?_
  refine lv_icmp_ne (tgt := 15) hx hb dX2_carryOut_3 (by decide) (fun c1 => ?_) (fun c1 => ?_)
  · replace hm := (if_neg c1).symm.trans hm
    refine lv_iload_n hx hb dX2_carryOut_15 rfl (lv_at hl 1 rfl) ?_
    refine lv_bipush (v := (-3)) hx hb dX2_carryOut_16 (by decide) ?_
    refine lv_icmp_eq (tgt := 27) hx hb dX2_carryOut_18 (by decide) (fun c2 => ?_) (fun c2 => ?_)
    · replace hm := (if_pos c2).symm.trans hm
      obtain rfl := Option.some.inj hm
      exact kI _ _ _ _ dX2_carryOut_27 Z
    · replace hm := (if_neg c2).symm.trans hm
      refine lv_aload_n hx hb dX2_carryOut_21 rfl (lv_at hl 0 rfl) ?_
      refine lv_iload_n hx hb dX2_carryOut_22 rfl (lv_at hl 2 rfl) ?_
      refine lv_iload_n hx hb dX2_carryOut_23 rfl (lv_at hl 1 rfl) ?_
      obtain ⟨g5, e3, hm⟩ := sBi_some hm
      refine g_callVV (n := 2) (As := [.int x2, .int x1]) (rest := []) sameC X Z (cX2_makeWaiting_c l hk0 e3) (oX2 hk0) rfl (gooV mB204 mB205 mB206 mB43 mB200) rfl (by decide +kernel) rfl ⟨Nat.le_of_ble_eq_true rfl, Nat.le_of_ble_eq_true rfl⟩ ⟨Nat.le_of_ble_eq_true rfl, Nat.le_of_ble_eq_true rfl⟩ hl.1 rfl (Nat.le_of_ble_eq_true rfl) dX2_carryOut_24 (fun H locs Z => ?_)
      obtain rfl := Option.some.inj hm
      exact kI _ _ _ _ dX2_carryOut_27 Z
  · replace hm := (if_pos c1).symm.trans hm
    refine lv_aload_n hx hb dX2_carryOut_6 rfl (lv_at hl 0 rfl) ?_
    refine lv_iload_n hx hb dX2_carryOut_7 rfl (lv_at hl 2 rfl) ?_
    obtain ⟨r8, g9, e6, hm⟩ := sBi2_some hm
    refine g_callVI (n := 1) (As := [.int x2]) (rest := []) sameC X Z (cX2_makeAborted_c l hk0 e6) (oX2 hk0) rfl (gooV mB201 mB202 mB203 mB43 mB193) rfl (by decide +kernel) rfl ⟨Nat.le_of_ble_eq_true rfl, Nat.le_of_ble_eq_true rfl⟩ ⟨Nat.le_of_ble_eq_true rfl, Nat.le_of_ble_eq_true rfl⟩ hl.1 rfl (Nat.le_of_ble_eq_true rfl) dX2_carryOut_8 (fun w7 H locs Z => ?_)
    refine lv_pop hx hb dX2_carryOut_11 rfl ?_
    refine lv_goto (tgt := 27) hx hb dX2_carryOut_12 (by decide) ?_
    obtain rfl := Option.some.inj hm
    exact kI _ _ _ _ dX2_carryOut_27 Z
theorem cX2_carryOut_c (l : Launch) {G : LY} {g : Mem} {n : Nat} {k0 : Nat} {x1 : Int32} {x2 : Int32} {r : Mem} (hk0 : KD k0 = 2) (hm : sX2_carryOut n g k0 x1 x2 = some r) : cV l yX2_carryOut wmX2_carryOut 4 89 wC G [.ref (G.1 k0), .int x1, .int x2] g r :=
  mk_cV sameC (by decide +kernel) rfl (Nat.le_of_ble_eq_true rfl) (fun p e s m args below meth c A Q ls X kI hl Z => bX2_carryOut_0 X kI g k0 x1 x2 _ _ ls hk0 Z hl hm)
abbrev wmX2_makeCommitted : List Cond := Cond.code yX2_makeCommitted cX2_makeCommitted 4 none :: wA0
set_option maxHeartbeats 4000000 in
set_option maxRecDepth 100000 in
theorem bX2_makeCommitted_22 (X : gC p s m args meth c cX2_makeCommitted 4 wmX2_makeCommitted yX2_makeCommitted.cls none G A) {n : Nat} {r : Mem} (kI : ∀ (pc : Nat) (ls : Array Slot) (H : Heap) (locs : List Loc), decode cX2_makeCommitted pc = .ok (.return_, 1) → WS wC G r A s.heap H locs → W p l e { frames := 3, cells := 0, slots := 0, locals := 66 } s m args below meth c H locs 0 0 Q (F0 m pc ls [])) : ∀ (f : Nat), ∀ (g : Mem) (k0 : Nat) (x1 : Int32) (x2 : Int32) (x3 : Int32) (H : Heap) (locs : List Loc) (ls : Array Slot), KD k0 = 2 → WS wC G g A s.heap H locs → lv_has ls 4 [(0, .ref (G.1 k0)), (1, .int x1), (2, .int x2), (3, .int x3)] → sX2_makeCommitted_22 n f g k0 x1 x2 x3 = some r → W p l e { frames := 3, cells := 0, slots := 0, locals := 66 } s m args below meth c H locs 0 0 Q (F0 m 22 ls []) := by
  have hx := X.1
  have hb := X.2.1
  intro f
  induction f with
  | zero =>
    intro g k0 x1 x2 x3 H locs ls hk0 Z hl hm
    cases hm
  | succ f ih =>
    intro g k0 x1 x2 x3 H locs ls hk0 Z hl hm
    unfold sX2_makeCommitted_22 at hm
    refine lv_iload_n hx hb dX2_makeCommitted_22 rfl (lv_at hl 3 rfl) ?_
    refine lv_bipush (v := 8) hx hb dX2_makeCommitted_23 (by decide) ?_
    refine lv_icmp_ge (tgt := 72) hx hb dX2_makeCommitted_25 (by decide) (fun c1 => ?_) (fun c1 => ?_)
    · replace hm := (if_pos c1).symm.trans hm
      refine lv_aload_n hx hb dX2_makeCommitted_72 rfl (lv_at hl 0 rfl) ?_
      refine lv_dup hx hb dX2_makeCommitted_73 rfl ?_
      refine g_get (j := 2) (v := .int (g k0 2)) X Z (oX2 hk0) (iB2 _) rfl (by decide) rfl (List.mem_cons_of_mem _ mB63) rfl dX2_makeCommitted_74 ?_
      refine lv_aload_n hx hb dX2_makeCommitted_77 rfl (lv_at hl 0 rfl) ?_
      refine g_get (j := 3) (v := .ref (G.1 (k0 + 1))) X Z (oX2 hk0) (iB2 _) rfl (by decide) rfl (List.mem_cons_of_mem _ mB23) rfl dX2_makeCommitted_78 ?_
      refine lv_aload_n hx hb dX2_makeCommitted_81 rfl (lv_at hl 0 rfl) ?_
      refine g_get (j := 5) (v := .ref (G.1 (k0 + 9))) X Z (oX2 hk0) (iB2 _) rfl (by decide) rfl (List.mem_cons_of_mem _ mB31) rfl dX2_makeCommitted_82 ?_
      refine g_get (j := 1) (v := .ref (G.1 ((k0 + 9) + 1))) X Z (oX4 (k25 hk0)) (iB4 _) rfl (by decide) rfl (List.mem_cons_of_mem _ mB175) rfl dX2_makeCommitted_85 ?_
      refine lv_iload_n hx hb dX2_makeCommitted_88 rfl (lv_at hl 1 rfl) ?_
      obtain ⟨b2, hm⟩ := sIdx_some hm
      refine g_iald X Z (aI (k41 (k25 hk0))) b2 dX2_makeCommitted_89 ?_
      obtain ⟨b3, hm⟩ := sIdx_some hm
      refine g_aald X Z (rS (k23 hk0)) rfl b3 dX2_makeCommitted_90 ?_
      refine lv_iload_n hx hb dX2_makeCommitted_91 rfl (lv_at hl 2 rfl) ?_
      obtain ⟨r6, e4, hm⟩ := sBi_some hm
      refine g_callVI (n := 1) (As := [.int x2]) (rest := [.int (g k0 2), .ref (G.1 k0)]) sameC X Z (cX1_isSoundAt_c l (k11 (k23 hk0) (vp_in_lt b3)) e4) (oX1 (k11 (k23 hk0) (vp_in_lt b3))) rfl (gooV mB197 mB198 mB199 mB33 mB101) rfl (by decide +kernel) rfl ⟨Nat.le_of_ble_eq_true rfl, Nat.le_of_ble_eq_true rfl⟩ ⟨Nat.le_of_ble_eq_true rfl, Nat.le_of_ble_eq_true rfl⟩ hl.1 rfl (Nat.le_of_ble_eq_true rfl) dX2_makeCommitted_92 (fun w5 H locs Z => ?_)
      refine lv_if_eq (tgt := 102) hx hb dX2_makeCommitted_95 (by decide) (fun c7 => ?_) (fun c7 => ?_)
      · replace hm := (if_pos c7).symm.trans hm
        refine lv_iconst (v := 1) hx hb dX2_makeCommitted_102 (by decide) ?_
        refine lv_iadd hx hb dX2_makeCommitted_103 ?_
        obtain ⟨g8, eg8, hm⟩ := sLet_some hm
        refine g_put (j := 2) eg8 X Z (oX2 hk0) (iB2 _) rfl tyX2_ok nmX2 (by decide) rfl rfl (Nat.le_of_ble_eq_true rfl) (p2_2 G g ((g k0 2) + (1 : Int32))) rfl (List.mem_cons_of_mem _ mB63) dX2_makeCommitted_104 (fun H locs Z => ?_)
        obtain rfl := Option.some.inj hm
        exact kI _ _ _ _ dX2_makeCommitted_107 Z
      · replace hm := (if_neg c7).symm.trans hm
        refine lv_iconst (v := 0) hx hb dX2_makeCommitted_98 (by decide) ?_
        refine lv_goto (tgt := 103) hx hb dX2_makeCommitted_99 (by decide) ?_
        refine lv_iadd hx hb dX2_makeCommitted_103 ?_
        obtain ⟨g9, eg9, hm⟩ := sLet_some hm
        refine g_put (j := 2) eg9 X Z (oX2 hk0) (iB2 _) rfl tyX2_ok nmX2 (by decide) rfl rfl (Nat.le_of_ble_eq_true rfl) (p2_2 G g ((g k0 2) + (0 : Int32))) rfl (List.mem_cons_of_mem _ mB63) dX2_makeCommitted_104 (fun H locs Z => ?_)
        obtain rfl := Option.some.inj hm
        exact kI _ _ _ _ dX2_makeCommitted_107 Z
    · replace hm := (if_neg c1).symm.trans hm
      refine lv_aload_n hx hb dX2_makeCommitted_28 rfl (lv_at hl 0 rfl) ?_
      refine g_get (j := 5) (v := .ref (G.1 (k0 + 9))) X Z (oX2 hk0) (iB2 _) rfl (by decide) rfl (List.mem_cons_of_mem _ mB31) rfl dX2_makeCommitted_29 ?_
      refine lv_iload_n hx hb dX2_makeCommitted_32 rfl (lv_at hl 1 rfl) ?_
      refine lv_iload_n hx hb dX2_makeCommitted_33 rfl (lv_at hl 3 rfl) ?_
      obtain ⟨r12, e10, hm⟩ := sBi_some hm
      refine g_callVI (n := 2) (As := [.int x1, .int x3]) (rest := []) sameC X Z (cX4_hasWritten_c l (k25 hk0) e10) (oX4 (k25 hk0)) rfl (gooV mB128 mB129 mB130 mB30 mB122) rfl (by decide +kernel) rfl ⟨Nat.le_of_ble_eq_true rfl, Nat.le_of_ble_eq_true rfl⟩ ⟨Nat.le_of_ble_eq_true rfl, Nat.le_of_ble_eq_true rfl⟩ hl.1 rfl (Nat.le_of_ble_eq_true rfl) dX2_makeCommitted_34 (fun w11 H locs Z => ?_)
      refine lv_if_eq (tgt := 66) hx hb dX2_makeCommitted_37 (by decide) (fun c13 => ?_) (fun c13 => ?_)
      · replace hm := (if_pos c13).symm.trans hm
        refine lv_iinc (v := (x3 + (1 : Int32))) (lv' := [(3, .int (x3 + (1 : Int32))), (0, .ref (G.1 k0)), (1, .int x1), (2, .int x2)]) hx hb dX2_makeCommitted_66 hl (k := 3) rfl rfl (by decide) rfl (fun ls hl => ?_)
        refine lv_goto (tgt := 22) hx hb dX2_makeCommitted_69 (by decide) ?_
        exact ih g k0 x1 x2 (x3 + (1 : Int32)) _ _ _ hk0 Z (lv_sub hl [1, 2, 3, 0] rfl) hm
      · replace hm := (if_neg c13).symm.trans hm
        refine lv_aload_n hx hb dX2_makeCommitted_40 rfl (lv_at hl 0 rfl) ?_
        refine g_get (j := 4) (v := .ref (G.1 (k0 + 5))) X Z (oX2 hk0) (iB2 _) rfl (by decide) rfl (List.mem_cons_of_mem _ mB27) rfl dX2_makeCommitted_41 ?_
        refine lv_iload_n hx hb dX2_makeCommitted_44 rfl (lv_at hl 3 rfl) ?_
        refine lv_aload_n hx hb dX2_makeCommitted_45 rfl (lv_at hl 0 rfl) ?_
        refine g_get (j := 5) (v := .ref (G.1 (k0 + 9))) X Z (oX2 hk0) (iB2 _) rfl (by decide) rfl (List.mem_cons_of_mem _ mB31) rfl dX2_makeCommitted_46 ?_
        refine g_get (j := 3) (v := .ref (G.1 ((k0 + 9) + 3))) X Z (oX4 (k25 hk0)) (iB4 _) rfl (by decide) rfl (List.mem_cons_of_mem _ mB195) rfl dX2_makeCommitted_49 ?_
        refine lv_iload_n hx hb dX2_makeCommitted_52 rfl (lv_at hl 1 rfl) ?_
        obtain ⟨b14, hm⟩ := sIdx_some hm
        refine g_iald X Z (aI (k43 (k25 hk0))) b14 dX2_makeCommitted_53 ?_
        refine lv_aload_n hx hb dX2_makeCommitted_54 rfl (lv_at hl 0 rfl) ?_
        refine g_get (j := 5) (v := .ref (G.1 (k0 + 9))) X Z (oX2 hk0) (iB2 _) rfl (by decide) rfl (List.mem_cons_of_mem _ mB31) rfl dX2_makeCommitted_55 ?_
        refine lv_iload_n hx hb dX2_makeCommitted_58 rfl (lv_at hl 1 rfl) ?_
        refine lv_iload_n hx hb dX2_makeCommitted_59 rfl (lv_at hl 3 rfl) ?_
        obtain ⟨r17, e15, hm⟩ := sBi_some hm
        refine g_callVI (n := 2) (As := [.int x1, .int x3]) (rest := [.int (g ((k0 + 9) + 3) x1.toNatClampNeg), .int x3, .ref (G.1 (k0 + 5))]) sameC X Z (cX4_bufferOf_c l (k25 hk0) e15) (oX4 (k25 hk0)) rfl (gooV mB131 mB132 mB133 mB30 mB123) rfl (by decide +kernel) rfl ⟨Nat.le_of_ble_eq_true rfl, Nat.le_of_ble_eq_true rfl⟩ ⟨Nat.le_of_ble_eq_true rfl, Nat.le_of_ble_eq_true rfl⟩ hl.1 rfl (Nat.le_of_ble_eq_true rfl) dX2_makeCommitted_60 (fun w16 H locs Z => ?_)
        obtain ⟨g20, e18, hm⟩ := sBi_some hm
        refine g_callVV (n := 3) (As := [.int x3, .int (g ((k0 + 9) + 3) x1.toNatClampNeg), .int r17]) (rest := []) sameC X Z (cX5_add_c l (k24 hk0) e18) (oX5 (k24 hk0)) rfl (gooV mB210 mB211 mB212 mB26 mB208) rfl (by decide +kernel) rfl ⟨Nat.le_of_ble_eq_true rfl, Nat.le_of_ble_eq_true rfl⟩ ⟨Nat.le_of_ble_eq_true rfl, Nat.le_of_ble_eq_true rfl⟩ hl.1 rfl (Nat.le_of_ble_eq_true rfl) dX2_makeCommitted_63 (fun H locs Z => ?_)
        refine lv_iinc (v := (x3 + (1 : Int32))) (lv' := [(3, .int (x3 + (1 : Int32))), (0, .ref (G.1 k0)), (1, .int x1), (2, .int x2)]) hx hb dX2_makeCommitted_66 hl (k := 3) rfl rfl (by decide) rfl (fun ls hl => ?_)
        refine lv_goto (tgt := 22) hx hb dX2_makeCommitted_69 (by decide) ?_
        exact ih g20 k0 x1 x2 (x3 + (1 : Int32)) _ _ _ hk0 Z (lv_sub hl [1, 2, 3, 0] rfl) hm
set_option maxHeartbeats 4000000 in
set_option maxRecDepth 100000 in
theorem bX2_makeCommitted_0 (X : gC p s m args meth c cX2_makeCommitted 4 wmX2_makeCommitted yX2_makeCommitted.cls none G A) {n : Nat} {r : Mem} (kI : ∀ (pc : Nat) (ls : Array Slot) (H : Heap) (locs : List Loc), decode cX2_makeCommitted pc = .ok (.return_, 1) → WS wC G r A s.heap H locs → W p l e { frames := 3, cells := 0, slots := 0, locals := 66 } s m args below meth c H locs 0 0 Q (F0 m pc ls [])) : ∀ (g : Mem) (k0 : Nat) (x1 : Int32) (x2 : Int32) (H : Heap) (locs : List Loc) (ls : Array Slot), KD k0 = 2 → WS wC G g A s.heap H locs → lv_has ls 4 [(0, .ref (G.1 k0)), (1, .int x1), (2, .int x2)] → sX2_makeCommitted n g k0 x1 x2 = some r → W p l e { frames := 3, cells := 0, slots := 0, locals := 66 } s m args below meth c H locs 0 0 Q (F0 m 0 ls []) := by
  have hx := X.1
  have hb := X.2.1
  intro g k0 x1 x2 H locs ls hk0 Z hl hm
  unfold sX2_makeCommitted at hm
  refine lv_aload_n hx hb dX2_makeCommitted_0 rfl (lv_at hl 0 rfl) ?_
  refine g_get (j := 5) (v := .ref (G.1 (k0 + 9))) X Z (oX2 hk0) (iB2 _) rfl (by decide) rfl (List.mem_cons_of_mem _ mB31) rfl dX2_makeCommitted_1 ?_
  refine g_get (j := 2) (v := .ref (G.1 ((k0 + 9) + 2))) X Z (oX4 (k25 hk0)) (iB4 _) rfl (by decide) rfl (List.mem_cons_of_mem _ mB194) rfl dX2_makeCommitted_4 ?_
  refine lv_iload_n hx hb dX2_makeCommitted_7 rfl (lv_at hl 1 rfl) ?_
  refine lv_iconst (v := 2) hx hb dX2_makeCommitted_8 (by decide) ?_
  obtain ⟨b1, hm⟩ := sIdx_some hm
  obtain ⟨g2, eg2, hm⟩ := sLet_some hm
  refine g_iast eg2 X Z (aI (k42 (k25 hk0))) b1 dX2_makeCommitted_9 (fun H locs Z => ?_)
  refine lv_aload_n hx hb dX2_makeCommitted_10 rfl (lv_at hl 0 rfl) ?_
  refine g_get (j := 5) (v := .ref (G.1 (k0 + 9))) X Z (oX2 hk0) (iB2 _) rfl (by decide) rfl (List.mem_cons_of_mem _ mB31) rfl dX2_makeCommitted_11 ?_
  refine g_get (j := 5) (v := .ref (G.1 ((k0 + 9) + 5))) X Z (oX4 (k25 hk0)) (iB4 _) rfl (by decide) rfl (List.mem_cons_of_mem _ mB209) rfl dX2_makeCommitted_14 ?_
  refine lv_iload_n hx hb dX2_makeCommitted_17 rfl (lv_at hl 1 rfl) ?_
  refine lv_iload_n hx hb dX2_makeCommitted_18 rfl (lv_at hl 2 rfl) ?_
  obtain ⟨b3, hm⟩ := sIdx_some hm
  obtain ⟨g4, eg4, hm⟩ := sLet_some hm
  refine g_iast eg4 X Z (aI (k45 (k25 hk0))) b3 dX2_makeCommitted_19 (fun H locs Z => ?_)
  refine lv_iconst (v := 0) hx hb dX2_makeCommitted_20 (by decide) ?_
  refine lv_istore_n (lv' := [(3, .int 0), (0, .ref (G.1 k0)), (1, .int x1), (2, .int x2)]) hx hb dX2_makeCommitted_21 rfl hl (by decide) rfl (fun ls hl => ?_)
  exact bX2_makeCommitted_22 X kI n g4 k0 x1 x2 (0 : Int32) _ _ _ hk0 Z (lv_sub hl [1, 2, 3, 0] rfl) hm
theorem cX2_makeCommitted_c (l : Launch) {G : LY} {g : Mem} {n : Nat} {k0 : Nat} {x1 : Int32} {x2 : Int32} {r : Mem} (hk0 : KD k0 = 2) (hm : sX2_makeCommitted n g k0 x1 x2 = some r) : cV l yX2_makeCommitted wmX2_makeCommitted 3 66 wC G [.ref (G.1 k0), .int x1, .int x2] g r :=
  mk_cV sameC (by decide +kernel) rfl (Nat.le_of_ble_eq_true rfl) (fun p e s m args below meth c A Q ls X kI hl Z => bX2_makeCommitted_0 X kI g k0 x1 x2 _ _ ls hk0 Z hl hm)
abbrev wmX2_canAdvance : List Cond := Cond.code yX2_canAdvance cX2_canAdvance 2 (some .boolean) :: wA0
set_option maxHeartbeats 4000000 in
set_option maxRecDepth 100000 in
theorem bX2_canAdvance_0 (X : gC p s m args meth c cX2_canAdvance 2 wmX2_canAdvance yX2_canAdvance.cls (some .boolean) G A) {g : Mem} {r : Int32} (kI : ∀ (pc : Nat) (ls : Array Slot) (H : Heap) (locs : List Loc), decode cX2_canAdvance pc = .ok (.ireturn, 1) → WS wC G g A s.heap H locs → narrow .boolean (.int r) = .int r → W p l e { frames := 0, cells := 0, slots := 0, locals := 0 } s m args below meth c H locs 0 0 Q (F0 m pc ls [.int r])) : ∀ (k0 : Nat) (x1 : Int32) (H : Heap) (locs : List Loc) (ls : Array Slot), KD k0 = 2 → WS wC G g A s.heap H locs → lv_has ls 2 [(0, .ref (G.1 k0)), (1, .int x1)] → sX2_canAdvance g k0 x1 = some r → W p l e { frames := 0, cells := 0, slots := 0, locals := 0 } s m args below meth c H locs 0 0 Q (F0 m 0 ls []) := by
  have hx := X.1
  have hb := X.2.1
  intro k0 x1 H locs ls hk0 Z hl hm
  unfold sX2_canAdvance at hm
  refine lv_aload_n hx hb dX2_canAdvance_0 rfl (lv_at hl 0 rfl) ?_
  refine g_get (j := 0) (v := .int (g k0 0)) X Z (oX2 hk0) (iB2 _) rfl (by decide) rfl (List.mem_cons_of_mem _ mB61) rfl dX2_canAdvance_1 ?_
  refine lv_iload_n hx hb dX2_canAdvance_4 rfl (lv_at hl 1 rfl) ?_
  refine lv_iadd hx hb dX2_canAdvance_5 ?_
  refine lv_ldc (v := 1000000) hx hb X.2.2.2.1 (X.2.2.2.2.1 _ (List.mem_cons_of_mem _ mB215)) dX2_canAdvance_6 ?_
  refine lv_icmp_gt (tgt := 15) hx hb dX2_canAdvance_8 (by decide) (fun c1 => ?_) (fun c1 => ?_)
  · replace hm := (if_pos c1).symm.trans hm
    refine lv_iconst (v := 0) hx hb dX2_canAdvance_15 (by decide) ?_
    obtain rfl := Option.some.inj hm
    exact kI _ _ _ _ dX2_canAdvance_16 Z nb0
  · replace hm := (if_neg c1).symm.trans hm
    refine lv_iconst (v := 1) hx hb dX2_canAdvance_11 (by decide) ?_
    refine lv_goto (tgt := 16) hx hb dX2_canAdvance_12 (by decide) ?_
    obtain rfl := Option.some.inj hm
    exact kI _ _ _ _ dX2_canAdvance_16 Z nb1
theorem cX2_canAdvance_c (l : Launch) {G : LY} {g : Mem} {k0 : Nat} {x1 : Int32} {r : Int32} (hk0 : KD k0 = 2) (hm : sX2_canAdvance g k0 x1 = some r) : cI l yX2_canAdvance wmX2_canAdvance 0 0 .boolean wC G [.ref (G.1 k0), .int x1] g r g :=
  mk_cI sameC (by decide +kernel) rfl (Nat.le_of_ble_eq_true rfl) (fun p e s m args below meth c A Q ls X kI hl Z => bX2_canAdvance_0 X kI k0 x1 _ _ ls hk0 Z hl hm)
abbrev wmX2_ticksUntilCommitted : List Cond := Cond.code yX2_ticksUntilCommitted cX2_ticksUntilCommitted 6 (some .int) :: wA0
set_option maxHeartbeats 4000000 in
set_option maxRecDepth 100000 in
theorem bX2_ticksUntilCommitted_18 (X : gC p s m args meth c cX2_ticksUntilCommitted 6 wmX2_ticksUntilCommitted yX2_ticksUntilCommitted.cls (some .int) G A) {n : Nat} {g : Mem} {r : Int32} (kI : ∀ (pc : Nat) (ls : Array Slot) (H : Heap) (locs : List Loc), decode cX2_ticksUntilCommitted pc = .ok (.ireturn, 1) → WS wC G g A s.heap H locs → narrow .int (.int r) = .int r → W p l e { frames := 3, cells := 0, slots := 0, locals := 64 } s m args below meth c H locs 0 0 Q (F0 m pc ls [.int r])) : ∀ (f : Nat), ∀ (k0 : Nat) (x1 : Int32) (x2 : Int32) (k3 : Nat) (x4 : Int32) (H : Heap) (locs : List Loc) (ls : Array Slot), KD k0 = 2 → KD k3 = 1 → WS wC G g A s.heap H locs → lv_has ls 6 [(0, .ref (G.1 k0)), (1, .int x1), (2, .int x2), (3, .ref (G.1 k3)), (4, .int x4)] → sX2_ticksUntilCommitted_18 n g f k0 x1 x2 k3 x4 = some r → W p l e { frames := 3, cells := 0, slots := 0, locals := 64 } s m args below meth c H locs 0 0 Q (F0 m 18 ls []) := by
  have hx := X.1
  have hb := X.2.1
  intro f
  induction f with
  | zero =>
    intro k0 x1 x2 k3 x4 H locs ls hk0 hk3 Z hl hm
    cases hm
  | succ f ih =>
    intro k0 x1 x2 k3 x4 H locs ls hk0 hk3 Z hl hm
    unfold sX2_ticksUntilCommitted_18 at hm
    refine lv_iload hx hb dX2_ticksUntilCommitted_18 (lv_at hl 4 rfl) ?_
    refine lv_iload_n hx hb dX2_ticksUntilCommitted_20 rfl (lv_at hl 2 rfl) ?_
    refine lv_icmp_gt (tgt := 69) hx hb dX2_ticksUntilCommitted_21 (by decide) (fun c1 => ?_) (fun c1 => ?_)
    · replace hm := (if_pos c1).symm.trans hm
      refine lv_iload_n hx hb dX2_ticksUntilCommitted_69 rfl (lv_at hl 2 rfl) ?_
      refine lv_iconst (v := 1) hx hb dX2_ticksUntilCommitted_70 (by decide) ?_
      refine lv_iadd hx hb dX2_ticksUntilCommitted_71 ?_
      obtain rfl := Option.some.inj hm
      exact kI _ _ _ _ dX2_ticksUntilCommitted_72 Z (vp_nar_int _)
    · replace hm := (if_neg c1).symm.trans hm
      refine lv_aload_n hx hb dX2_ticksUntilCommitted_24 rfl (lv_at hl 0 rfl) ?_
      refine g_get (j := 5) (v := .ref (G.1 (k0 + 9))) X Z (oX2 hk0) (iB2 _) rfl (by decide) rfl (List.mem_cons_of_mem _ mB31) rfl dX2_ticksUntilCommitted_25 ?_
      refine g_get (j := 3) (v := .ref (G.1 ((k0 + 9) + 3))) X Z (oX4 (k25 hk0)) (iB4 _) rfl (by decide) rfl (List.mem_cons_of_mem _ mB195) rfl dX2_ticksUntilCommitted_28 ?_
      refine lv_iload_n hx hb dX2_ticksUntilCommitted_31 rfl (lv_at hl 1 rfl) ?_
      obtain ⟨b2, hm⟩ := sIdx_some hm
      refine g_iald X Z (aI (k43 (k25 hk0))) b2 dX2_ticksUntilCommitted_32 ?_
      refine lv_aload_n hx hb dX2_ticksUntilCommitted_33 rfl (lv_at hl 3 rfl) ?_
      refine lv_aload_n hx hb dX2_ticksUntilCommitted_34 rfl (lv_at hl 0 rfl) ?_
      refine g_get (j := 0) (v := .int (g k0 0)) X Z (oX2 hk0) (iB2 _) rfl (by decide) rfl (List.mem_cons_of_mem _ mB61) rfl dX2_ticksUntilCommitted_35 ?_
      refine lv_iload hx hb dX2_ticksUntilCommitted_38 (lv_at hl 4 rfl) ?_
      refine lv_iadd hx hb dX2_ticksUntilCommitted_40 ?_
      obtain ⟨r5, e3, hm⟩ := sBi_some hm
      refine g_callVI (n := 1) (As := [.int ((g k0 0) + x4)]) (rest := [.int (g ((k0 + 9) + 3) x1.toNatClampNeg)]) sameC X Z (cX1_earliestAt_c l hk3 e3) (oX1 hk3) rfl (gooV mB216 mB217 mB218 mB33 mB96) rfl (by decide +kernel) rfl ⟨Nat.le_of_ble_eq_true rfl, Nat.le_of_ble_eq_true rfl⟩ ⟨Nat.le_of_ble_eq_true rfl, Nat.le_of_ble_eq_true rfl⟩ hl.1 rfl (Nat.le_of_ble_eq_true rfl) dX2_ticksUntilCommitted_41 (fun w4 H locs Z => ?_)
      refine lv_isub hx hb dX2_ticksUntilCommitted_44 ?_
      refine lv_istore (lv' := [(5, .int ((g ((k0 + 9) + 3) x1.toNatClampNeg) - r5)), (0, .ref (G.1 k0)), (1, .int x1), (2, .int x2), (3, .ref (G.1 k3)), (4, .int x4)]) hx hb dX2_ticksUntilCommitted_45 hl (by decide) rfl (fun ls hl => ?_)
      refine lv_iload hx hb dX2_ticksUntilCommitted_47 (lv_at hl 0 rfl) ?_
      refine lv_if_ge (tgt := 55) hx hb dX2_ticksUntilCommitted_49 (by decide) (fun c6 => ?_) (fun c6 => ?_)
      · replace hm := (if_pos c6).symm.trans hm
        refine lv_iload hx hb dX2_ticksUntilCommitted_55 (lv_at hl 5 rfl) ?_
        refine lv_iconst (v := 1) hx hb dX2_ticksUntilCommitted_57 (by decide) ?_
        refine lv_iload hx hb dX2_ticksUntilCommitted_58 (lv_at hl 0 rfl) ?_
        refine lv_iconst (v := 2) hx hb dX2_ticksUntilCommitted_60 (by decide) ?_
        refine lv_idiv hx hb dX2_ticksUntilCommitted_61 (by decide) ?_
        refine lv_iadd hx hb dX2_ticksUntilCommitted_62 ?_
        refine lv_iadd hx hb dX2_ticksUntilCommitted_63 ?_
        refine lv_istore (lv' := [(4, .int (x4 + ((1 : Int32) + (((g ((k0 + 9) + 3) x1.toNatClampNeg) - r5) / (2 : Int32))))), (5, .int ((g ((k0 + 9) + 3) x1.toNatClampNeg) - r5)), (0, .ref (G.1 k0)), (1, .int x1), (2, .int x2), (3, .ref (G.1 k3))]) hx hb dX2_ticksUntilCommitted_64 hl (by decide) rfl (fun ls hl => ?_)
        refine lv_goto (tgt := 18) hx hb dX2_ticksUntilCommitted_66 (by decide) ?_
        exact ih k0 x1 x2 k3 (x4 + ((1 : Int32) + (((g ((k0 + 9) + 3) x1.toNatClampNeg) - r5) / (2 : Int32)))) _ _ _ hk0 hk3 Z (lv_sub hl [2, 3, 4, 5, 0] rfl) hm
      · replace hm := (if_neg c6).symm.trans hm
        refine lv_iload hx hb dX2_ticksUntilCommitted_52 (lv_at hl 5 rfl) ?_
        obtain rfl := Option.some.inj hm
        exact kI _ _ _ _ dX2_ticksUntilCommitted_54 Z (vp_nar_int _)
set_option maxHeartbeats 4000000 in
set_option maxRecDepth 100000 in
theorem bX2_ticksUntilCommitted_0 (X : gC p s m args meth c cX2_ticksUntilCommitted 6 wmX2_ticksUntilCommitted yX2_ticksUntilCommitted.cls (some .int) G A) {n : Nat} {g : Mem} {r : Int32} (kI : ∀ (pc : Nat) (ls : Array Slot) (H : Heap) (locs : List Loc), decode cX2_ticksUntilCommitted pc = .ok (.ireturn, 1) → WS wC G g A s.heap H locs → narrow .int (.int r) = .int r → W p l e { frames := 3, cells := 0, slots := 0, locals := 64 } s m args below meth c H locs 0 0 Q (F0 m pc ls [.int r])) : ∀ (k0 : Nat) (x1 : Int32) (x2 : Int32) (H : Heap) (locs : List Loc) (ls : Array Slot), KD k0 = 2 → WS wC G g A s.heap H locs → lv_has ls 6 [(0, .ref (G.1 k0)), (1, .int x1), (2, .int x2)] → sX2_ticksUntilCommitted n g k0 x1 x2 = some r → W p l e { frames := 3, cells := 0, slots := 0, locals := 64 } s m args below meth c H locs 0 0 Q (F0 m 0 ls []) := by
  have hx := X.1
  have hb := X.2.1
  intro k0 x1 x2 H locs ls hk0 Z hl hm
  unfold sX2_ticksUntilCommitted at hm
  refine lv_aload_n hx hb dX2_ticksUntilCommitted_0 rfl (lv_at hl 0 rfl) ?_
  refine g_get (j := 3) (v := .ref (G.1 (k0 + 1))) X Z (oX2 hk0) (iB2 _) rfl (by decide) rfl (List.mem_cons_of_mem _ mB23) rfl dX2_ticksUntilCommitted_1 ?_
  refine lv_aload_n hx hb dX2_ticksUntilCommitted_4 rfl (lv_at hl 0 rfl) ?_
  refine g_get (j := 5) (v := .ref (G.1 (k0 + 9))) X Z (oX2 hk0) (iB2 _) rfl (by decide) rfl (List.mem_cons_of_mem _ mB31) rfl dX2_ticksUntilCommitted_5 ?_
  refine g_get (j := 1) (v := .ref (G.1 ((k0 + 9) + 1))) X Z (oX4 (k25 hk0)) (iB4 _) rfl (by decide) rfl (List.mem_cons_of_mem _ mB175) rfl dX2_ticksUntilCommitted_8 ?_
  refine lv_iload_n hx hb dX2_ticksUntilCommitted_11 rfl (lv_at hl 1 rfl) ?_
  obtain ⟨b1, hm⟩ := sIdx_some hm
  refine g_iald X Z (aI (k41 (k25 hk0))) b1 dX2_ticksUntilCommitted_12 ?_
  obtain ⟨b2, hm⟩ := sIdx_some hm
  refine g_aald X Z (rS (k23 hk0)) rfl b2 dX2_ticksUntilCommitted_13 ?_
  refine lv_astore_n (lv' := [(3, .ref (G.1 (k0 + 1 + 1 + (g ((k0 + 9) + 1) x1.toNatClampNeg).toNatClampNeg))), (0, .ref (G.1 k0)), (1, .int x1), (2, .int x2)]) hx hb dX2_ticksUntilCommitted_14 rfl hl (by decide) rfl (fun ls hl => ?_)
  refine lv_iconst (v := 1) hx hb dX2_ticksUntilCommitted_15 (by decide) ?_
  refine lv_istore (lv' := [(4, .int 1), (3, .ref (G.1 (k0 + 1 + 1 + (g ((k0 + 9) + 1) x1.toNatClampNeg).toNatClampNeg))), (0, .ref (G.1 k0)), (1, .int x1), (2, .int x2)]) hx hb dX2_ticksUntilCommitted_16 hl (by decide) rfl (fun ls hl => ?_)
  exact bX2_ticksUntilCommitted_18 X kI n k0 x1 x2 (k0 + 1 + 1 + (g ((k0 + 9) + 1) x1.toNatClampNeg).toNatClampNeg) (1 : Int32) _ _ _ hk0 (k11 (k23 hk0) (vp_in_lt b2)) Z (lv_sub hl [2, 3, 4, 1, 0] rfl) hm
theorem cX2_ticksUntilCommitted_c (l : Launch) {G : LY} {g : Mem} {n : Nat} {k0 : Nat} {x1 : Int32} {x2 : Int32} {r : Int32} (hk0 : KD k0 = 2) (hm : sX2_ticksUntilCommitted n g k0 x1 x2 = some r) : cI l yX2_ticksUntilCommitted wmX2_ticksUntilCommitted 3 64 .int wC G [.ref (G.1 k0), .int x1, .int x2] g r g :=
  mk_cI sameC (by decide +kernel) rfl (Nat.le_of_ble_eq_true rfl) (fun p e s m args below meth c A Q ls X kI hl Z => bX2_ticksUntilCommitted_0 X kI k0 x1 x2 _ _ ls hk0 Z hl hm)
abbrev wmX2_advanceBy : List Cond := Cond.code yX2_advanceBy cX2_advanceBy 5 (some .int) :: wA0
set_option maxHeartbeats 4000000 in
set_option maxRecDepth 100000 in
theorem bX2_advanceBy_4 (X : gC p s m args meth c cX2_advanceBy 5 wmX2_advanceBy yX2_advanceBy.cls (some .int) G A) {n : Nat} {r : Int32 × Mem} (kI : ∀ (pc : Nat) (ls : Array Slot) (H : Heap) (locs : List Loc), decode cX2_advanceBy pc = .ok (.ireturn, 1) → WS wC G r.2 A s.heap H locs → narrow .int (.int r.1) = .int r.1 → W p l e { frames := 4, cells := 0, slots := 0, locals := 89 } s m args below meth c H locs 0 0 Q (F0 m pc ls [.int r.1])) : ∀ (f : Nat), ∀ (g : Mem) (k0 : Nat) (x1 : Int32) (x2 : Int32) (x3 : Int32) (H : Heap) (locs : List Loc) (ls : Array Slot), KD k0 = 2 → WS wC G g A s.heap H locs → lv_has ls 5 [(0, .ref (G.1 k0)), (1, .int x1), (2, .int x2), (3, .int x3)] → sX2_advanceBy_4 n f g k0 x1 x2 x3 = some r → W p l e { frames := 4, cells := 0, slots := 0, locals := 89 } s m args below meth c H locs 0 0 Q (F0 m 4 ls []) := by
  have hx := X.1
  have hb := X.2.1
  intro f
  induction f with
  | zero =>
    intro g k0 x1 x2 x3 H locs ls hk0 Z hl hm
    cases hm
  | succ f ih =>
    intro g k0 x1 x2 x3 H locs ls hk0 Z hl hm
    unfold sX2_advanceBy_4 at hm
    refine lv_iload_n hx hb dX2_advanceBy_4 rfl (lv_at hl 3 rfl) ?_
    refine lv_aload_n hx hb dX2_advanceBy_5 rfl (lv_at hl 0 rfl) ?_
    refine g_get (j := 5) (v := .ref (G.1 (k0 + 9))) X Z (oX2 hk0) (iB2 _) rfl (by decide) rfl (List.mem_cons_of_mem _ mB31) rfl dX2_advanceBy_6 ?_
    refine g_get (j := 0) (v := .int (g (k0 + 9) 0)) X Z (oX4 (k25 hk0)) (iB4 _) rfl (by decide) rfl (List.mem_cons_of_mem _ mB108) rfl dX2_advanceBy_9 ?_
    refine lv_icmp_ge (tgt := 63) hx hb dX2_advanceBy_12 (by decide) (fun c1 => ?_) (fun c1 => ?_)
    · replace hm := (if_pos c1).symm.trans hm
      refine lv_aload_n hx hb dX2_advanceBy_63 rfl (lv_at hl 0 rfl) ?_
      refine lv_dup hx hb dX2_advanceBy_64 rfl ?_
      refine g_get (j := 0) (v := .int (g k0 0)) X Z (oX2 hk0) (iB2 _) rfl (by decide) rfl (List.mem_cons_of_mem _ mB61) rfl dX2_advanceBy_65 ?_
      refine lv_iload_n hx hb dX2_advanceBy_68 rfl (lv_at hl 1 rfl) ?_
      refine lv_iadd hx hb dX2_advanceBy_69 ?_
      obtain ⟨g2, eg2, hm⟩ := sLet_some hm
      refine g_put (j := 0) eg2 X Z (oX2 hk0) (iB2 _) rfl tyX2_ok nmX2 (by decide) rfl rfl (Nat.le_of_ble_eq_true rfl) (p2_0 G g ((g k0 0) + x1)) rfl (List.mem_cons_of_mem _ mB61) dX2_advanceBy_70 (fun H locs Z => ?_)
      refine lv_iload_n hx hb dX2_advanceBy_73 rfl (lv_at hl 2 rfl) ?_
      obtain rfl := Option.some.inj hm
      exact kI _ _ _ _ dX2_advanceBy_74 Z (vp_nar_int _)
    · replace hm := (if_neg c1).symm.trans hm
      refine lv_aload_n hx hb dX2_advanceBy_15 rfl (lv_at hl 0 rfl) ?_
      refine g_get (j := 5) (v := .ref (G.1 (k0 + 9))) X Z (oX2 hk0) (iB2 _) rfl (by decide) rfl (List.mem_cons_of_mem _ mB31) rfl dX2_advanceBy_16 ?_
      refine g_get (j := 2) (v := .ref (G.1 ((k0 + 9) + 2))) X Z (oX4 (k25 hk0)) (iB4 _) rfl (by decide) rfl (List.mem_cons_of_mem _ mB194) rfl dX2_advanceBy_19 ?_
      refine lv_iload_n hx hb dX2_advanceBy_22 rfl (lv_at hl 3 rfl) ?_
      obtain ⟨b3, hm⟩ := sIdx_some hm
      refine g_iald X Z (aI (k42 (k25 hk0))) b3 dX2_advanceBy_23 ?_
      refine lv_iconst (v := 1) hx hb dX2_advanceBy_24 (by decide) ?_
      refine lv_icmp_ne (tgt := 57) hx hb dX2_advanceBy_25 (by decide) (fun c4 => ?_) (fun c4 => ?_)
      · replace hm := (if_neg c4).symm.trans hm
        refine lv_iinc (v := (x3 + (1 : Int32))) (lv' := [(3, .int (x3 + (1 : Int32))), (0, .ref (G.1 k0)), (1, .int x1), (2, .int x2)]) hx hb dX2_advanceBy_57 hl (k := 3) rfl rfl (by decide) rfl (fun ls hl => ?_)
        refine lv_goto (tgt := 4) hx hb dX2_advanceBy_60 (by decide) ?_
        exact ih g k0 x1 x2 (x3 + (1 : Int32)) _ _ _ hk0 Z (lv_sub hl [1, 2, 3, 0] rfl) hm
      · replace hm := (if_pos c4).symm.trans hm
        refine lv_aload_n hx hb dX2_advanceBy_28 rfl (lv_at hl 0 rfl) ?_
        refine lv_iload_n hx hb dX2_advanceBy_29 rfl (lv_at hl 3 rfl) ?_
        refine lv_iload_n hx hb dX2_advanceBy_30 rfl (lv_at hl 1 rfl) ?_
        obtain ⟨r7, e5, hm⟩ := sBi_some hm
        refine g_callVI (n := 2) (As := [.int x3, .int x1]) (rest := []) sameC X Z (cX2_ticksUntilCommitted_c l hk0 e5) (oX2 hk0) rfl (gooV mB220 mB221 mB222 mB43 mB219) rfl (by decide +kernel) rfl ⟨Nat.le_of_ble_eq_true rfl, Nat.le_of_ble_eq_true rfl⟩ ⟨Nat.le_of_ble_eq_true rfl, Nat.le_of_ble_eq_true rfl⟩ hl.1 rfl (Nat.le_of_ble_eq_true rfl) dX2_advanceBy_31 (fun w6 H locs Z => ?_)
        refine lv_istore (lv' := [(4, .int r7), (0, .ref (G.1 k0)), (1, .int x1), (2, .int x2), (3, .int x3)]) hx hb dX2_advanceBy_34 hl (by decide) rfl (fun ls hl => ?_)
        refine lv_iload hx hb dX2_advanceBy_36 (lv_at hl 0 rfl) ?_
        refine lv_iload_n hx hb dX2_advanceBy_38 rfl (lv_at hl 2 rfl) ?_
        refine lv_icmp_gt (tgt := 57) hx hb dX2_advanceBy_39 (by decide) (fun c8 => ?_) (fun c8 => ?_)
        · replace hm := (if_pos c8).symm.trans hm
          refine lv_iinc (v := (x3 + (1 : Int32))) (lv' := [(3, .int (x3 + (1 : Int32))), (4, .int r7), (0, .ref (G.1 k0)), (1, .int x1), (2, .int x2)]) hx hb dX2_advanceBy_57 hl (k := 4) rfl rfl (by decide) rfl (fun ls hl => ?_)
          refine lv_goto (tgt := 4) hx hb dX2_advanceBy_60 (by decide) ?_
          exact ih g k0 x1 x2 (x3 + (1 : Int32)) _ _ _ hk0 Z (lv_sub hl [2, 3, 4, 0] rfl) hm
        · replace hm := (if_neg c8).symm.trans hm
          refine lv_aload_n hx hb dX2_advanceBy_42 rfl (lv_at hl 1 rfl) ?_
          refine lv_iload_n hx hb dX2_advanceBy_43 rfl (lv_at hl 4 rfl) ?_
          refine lv_aload_n hx hb dX2_advanceBy_44 rfl (lv_at hl 1 rfl) ?_
          refine g_get (j := 0) (v := .int (g k0 0)) X Z (oX2 hk0) (iB2 _) rfl (by decide) rfl (List.mem_cons_of_mem _ mB61) rfl dX2_advanceBy_45 ?_
          refine lv_iload hx hb dX2_advanceBy_48 (lv_at hl 0 rfl) ?_
          refine lv_iadd hx hb dX2_advanceBy_50 ?_
          obtain ⟨g11, e9, hm⟩ := sBi_some hm
          refine g_callVV (n := 2) (As := [.int x3, .int ((g k0 0) + r7)]) (rest := []) sameC X Z (cX2_makeCommitted_c l hk0 e9) (oX2 hk0) rfl (gooV mB223 mB224 mB225 mB43 mB213) rfl (by decide +kernel) rfl ⟨Nat.le_of_ble_eq_true rfl, Nat.le_of_ble_eq_true rfl⟩ ⟨Nat.le_of_ble_eq_true rfl, Nat.le_of_ble_eq_true rfl⟩ hl.1 rfl (Nat.le_of_ble_eq_true rfl) dX2_advanceBy_51 (fun H locs Z => ?_)
          refine lv_iinc (v := (x2 + (1 : Int32))) (lv' := [(2, .int (x2 + (1 : Int32))), (4, .int r7), (0, .ref (G.1 k0)), (1, .int x1), (3, .int x3)]) hx hb dX2_advanceBy_54 hl (k := 3) rfl rfl (by decide) rfl (fun ls hl => ?_)
          refine lv_iinc (v := (x3 + (1 : Int32))) (lv' := [(3, .int (x3 + (1 : Int32))), (2, .int (x2 + (1 : Int32))), (4, .int r7), (0, .ref (G.1 k0)), (1, .int x1)]) hx hb dX2_advanceBy_57 hl (k := 4) rfl rfl (by decide) rfl (fun ls hl => ?_)
          refine lv_goto (tgt := 4) hx hb dX2_advanceBy_60 (by decide) ?_
          exact ih g11 k0 x1 (x2 + (1 : Int32)) (x3 + (1 : Int32)) _ _ _ hk0 Z (lv_sub hl [3, 4, 1, 0] rfl) hm
set_option maxHeartbeats 4000000 in
set_option maxRecDepth 100000 in
theorem bX2_advanceBy_0 (X : gC p s m args meth c cX2_advanceBy 5 wmX2_advanceBy yX2_advanceBy.cls (some .int) G A) {n : Nat} {r : Int32 × Mem} (kI : ∀ (pc : Nat) (ls : Array Slot) (H : Heap) (locs : List Loc), decode cX2_advanceBy pc = .ok (.ireturn, 1) → WS wC G r.2 A s.heap H locs → narrow .int (.int r.1) = .int r.1 → W p l e { frames := 4, cells := 0, slots := 0, locals := 89 } s m args below meth c H locs 0 0 Q (F0 m pc ls [.int r.1])) : ∀ (g : Mem) (k0 : Nat) (x1 : Int32) (H : Heap) (locs : List Loc) (ls : Array Slot), KD k0 = 2 → WS wC G g A s.heap H locs → lv_has ls 5 [(0, .ref (G.1 k0)), (1, .int x1)] → sX2_advanceBy n g k0 x1 = some r → W p l e { frames := 4, cells := 0, slots := 0, locals := 89 } s m args below meth c H locs 0 0 Q (F0 m 0 ls []) := by
  have hx := X.1
  have hb := X.2.1
  intro g k0 x1 H locs ls hk0 Z hl hm
  unfold sX2_advanceBy at hm
  refine lv_iconst (v := 0) hx hb dX2_advanceBy_0 (by decide) ?_
  refine lv_istore_n (lv' := [(2, .int 0), (0, .ref (G.1 k0)), (1, .int x1)]) hx hb dX2_advanceBy_1 rfl hl (by decide) rfl (fun ls hl => ?_)
  refine lv_iconst (v := 0) hx hb dX2_advanceBy_2 (by decide) ?_
  refine lv_istore_n (lv' := [(3, .int 0), (2, .int 0), (0, .ref (G.1 k0)), (1, .int x1)]) hx hb dX2_advanceBy_3 rfl hl (by decide) rfl (fun ls hl => ?_)
  exact bX2_advanceBy_4 X kI n g k0 x1 (0 : Int32) (0 : Int32) _ _ _ hk0 Z (lv_sub hl [2, 3, 1, 0] rfl) hm
theorem cX2_advanceBy_c (l : Launch) {G : LY} {g : Mem} {n : Nat} {k0 : Nat} {x1 : Int32} {r : Int32 × Mem} (hk0 : KD k0 = 2) (hm : sX2_advanceBy n g k0 x1 = some r) : cI l yX2_advanceBy wmX2_advanceBy 4 89 .int wC G [.ref (G.1 k0), .int x1] g r.1 r.2 :=
  mk_cI sameC (by decide +kernel) rfl (Nat.le_of_ble_eq_true rfl) (fun p e s m args below meth c A Q ls X kI hl Z => bX2_advanceBy_0 X kI g k0 x1 _ _ ls hk0 Z hl hm)
abbrev wmX2_synchronizeClock : List Cond := Cond.code yX2_synchronizeClock cX2_synchronizeClock 4 (some .int) :: wA0
set_option maxHeartbeats 4000000 in
set_option maxRecDepth 100000 in
theorem bX2_synchronizeClock_0 (X : gC p s m args meth c cX2_synchronizeClock 4 wmX2_synchronizeClock yX2_synchronizeClock.cls (some .int) G A) {r : Int32 × Mem} (kI : ∀ (pc : Nat) (ls : Array Slot) (H : Heap) (locs : List Loc), decode cX2_synchronizeClock pc = .ok (.ireturn, 1) → WS wC G r.2 A s.heap H locs → narrow .int (.int r.1) = .int r.1 → W p l e { frames := 2, cells := 0, slots := 0, locals := 43 } s m args below meth c H locs 0 0 Q (F0 m pc ls [.int r.1])) : ∀ (g : Mem) (k0 : Nat) (x1 : Int32) (x2 : Int32) (H : Heap) (locs : List Loc) (ls : Array Slot), KD k0 = 2 → WS wC G g A s.heap H locs → lv_has ls 4 [(0, .ref (G.1 k0)), (1, .int x1), (2, .int x2)] → sX2_synchronizeClock g k0 x1 x2 = some r → W p l e { frames := 2, cells := 0, slots := 0, locals := 43 } s m args below meth c H locs 0 0 Q (F0 m 0 ls []) := by
  have hx := X.1
  have hb := X.2.1
  intro g k0 x1 x2 H locs ls hk0 Z hl hm
  unfold sX2_synchronizeClock at hm
  refine lv_aload_n hx hb dX2_synchronizeClock_0 rfl (lv_at hl 0 rfl) ?_
  refine g_get (j := 3) (v := .ref (G.1 (k0 + 1))) X Z (oX2 hk0) (iB2 _) rfl (by decide) rfl (List.mem_cons_of_mem _ mB23) rfl dX2_synchronizeClock_1 ?_
  refine lv_iload_n hx hb dX2_synchronizeClock_4 rfl (lv_at hl 1 rfl) ?_
  obtain ⟨b1, hm⟩ := sIdx_some hm
  refine g_aald X Z (rS (k23 hk0)) rfl b1 dX2_synchronizeClock_5 ?_
  refine lv_aload_n hx hb dX2_synchronizeClock_6 rfl (lv_at hl 0 rfl) ?_
  refine g_get (j := 0) (v := .int (g k0 0)) X Z (oX2 hk0) (iB2 _) rfl (by decide) rfl (List.mem_cons_of_mem _ mB61) rfl dX2_synchronizeClock_7 ?_
  obtain ⟨r4, e2, hm⟩ := sBi_some hm
  refine g_callVI (n := 1) (As := [.int (g k0 0)]) (rest := []) sameC X Z (cX1_offsetAt_c l (k11 (k23 hk0) (vp_in_lt b1)) e2) (oX1 (k11 (k23 hk0) (vp_in_lt b1))) rfl (gooV mB228 mB92 mB93 mB33 mB86) rfl (by decide +kernel) rfl ⟨Nat.le_of_ble_eq_true rfl, Nat.le_of_ble_eq_true rfl⟩ ⟨Nat.le_of_ble_eq_true rfl, Nat.le_of_ble_eq_true rfl⟩ hl.1 rfl (Nat.le_of_ble_eq_true rfl) dX2_synchronizeClock_10 (fun w3 H locs Z => ?_)
  refine lv_istore_n (lv' := [(3, .int r4), (0, .ref (G.1 k0)), (1, .int x1), (2, .int x2)]) hx hb dX2_synchronizeClock_13 rfl hl (by decide) rfl (fun ls hl => ?_)
  refine lv_aload_n hx hb dX2_synchronizeClock_14 rfl (lv_at hl 1 rfl) ?_
  refine g_get (j := 3) (v := .ref (G.1 (k0 + 1))) X Z (oX2 hk0) (iB2 _) rfl (by decide) rfl (List.mem_cons_of_mem _ mB23) rfl dX2_synchronizeClock_15 ?_
  refine lv_iload_n hx hb dX2_synchronizeClock_18 rfl (lv_at hl 2 rfl) ?_
  obtain ⟨b5, hm⟩ := sIdx_some hm
  refine g_aald X Z (rS (k23 hk0)) rfl b5 dX2_synchronizeClock_19 ?_
  refine lv_iload_n hx hb dX2_synchronizeClock_20 rfl (lv_at hl 3 rfl) ?_
  refine lv_aload_n hx hb dX2_synchronizeClock_21 rfl (lv_at hl 1 rfl) ?_
  refine g_get (j := 0) (v := .int (g k0 0)) X Z (oX2 hk0) (iB2 _) rfl (by decide) rfl (List.mem_cons_of_mem _ mB61) rfl dX2_synchronizeClock_22 ?_
  obtain ⟨g8, e6, hm⟩ := sBi_some hm
  refine g_callVV (n := 2) (As := [.int x2, .int (g k0 0)]) (rest := []) sameC X Z (cX1_setOffset_c l (k11 (k23 hk0) (vp_in_lt b5)) e6) (oX1 (k11 (k23 hk0) (vp_in_lt b5))) rfl (gooV mB229 mB230 mB231 mB33 mB84) rfl (by decide +kernel) rfl ⟨Nat.le_of_ble_eq_true rfl, Nat.le_of_ble_eq_true rfl⟩ ⟨Nat.le_of_ble_eq_true rfl, Nat.le_of_ble_eq_true rfl⟩ hl.1 rfl (Nat.le_of_ble_eq_true rfl) dX2_synchronizeClock_25 (fun H locs Z => ?_)
  refine lv_iload_n hx hb dX2_synchronizeClock_28 rfl (lv_at hl 3 rfl) ?_
  refine lv_iload_n hx hb dX2_synchronizeClock_29 rfl (lv_at hl 0 rfl) ?_
  refine lv_isub hx hb dX2_synchronizeClock_30 ?_
  obtain rfl := Option.some.inj hm
  exact kI _ _ _ _ dX2_synchronizeClock_31 Z (vp_nar_int _)
theorem cX2_synchronizeClock_c (l : Launch) {G : LY} {g : Mem} {k0 : Nat} {x1 : Int32} {x2 : Int32} {r : Int32 × Mem} (hk0 : KD k0 = 2) (hm : sX2_synchronizeClock g k0 x1 x2 = some r) : cI l yX2_synchronizeClock wmX2_synchronizeClock 2 43 .int wC G [.ref (G.1 k0), .int x1, .int x2] g r.1 r.2 :=
  mk_cI sameC (by decide +kernel) rfl (Nat.le_of_ble_eq_true rfl) (fun p e s m args below meth c A Q ls X kI hl Z => bX2_synchronizeClock_0 X kI g k0 x1 x2 _ _ ls hk0 Z hl hm)
abbrev wmX2_safeTimeNow : List Cond := Cond.code yX2_safeTimeNow cX2_safeTimeNow 3 (some .int) :: wA0
set_option maxHeartbeats 4000000 in
set_option maxRecDepth 100000 in
theorem bX2_safeTimeNow_35 (X : gC p s m args meth c cX2_safeTimeNow 3 wmX2_safeTimeNow yX2_safeTimeNow.cls (some .int) G A) {n : Nat} {g : Mem} {r : Int32} (kI : ∀ (pc : Nat) (ls : Array Slot) (H : Heap) (locs : List Loc), decode cX2_safeTimeNow pc = .ok (.ireturn, 1) → WS wC G g A s.heap H locs → narrow .int (.int r) = .int r → W p l e { frames := 4, cells := 0, slots := 0, locals := 86 } s m args below meth c H locs 0 0 Q (F0 m pc ls [.int r])) : ∀ (f : Nat), ∀ (k0 : Nat) (x1 : Int32) (x2 : Int32) (H : Heap) (locs : List Loc) (ls : Array Slot), KD k0 = 2 → WS wC G g A s.heap H locs → lv_has ls 3 [(0, .ref (G.1 k0)), (1, .int x1), (2, .int x2)] → sX2_safeTimeNow_35 n g f k0 x1 x2 = some r → W p l e { frames := 4, cells := 0, slots := 0, locals := 86 } s m args below meth c H locs 0 0 Q (F0 m 35 ls []) := by
  have hx := X.1
  have hb := X.2.1
  intro f
  induction f with
  | zero =>
    intro k0 x1 x2 H locs ls hk0 Z hl hm
    cases hm
  | succ f ih =>
    intro k0 x1 x2 H locs ls hk0 Z hl hm
    unfold sX2_safeTimeNow_35 at hm
    refine lv_iload_n hx hb dX2_safeTimeNow_35 rfl (lv_at hl 2 rfl) ?_
    refine lv_aload_n hx hb dX2_safeTimeNow_36 rfl (lv_at hl 0 rfl) ?_
    refine g_get (j := 5) (v := .ref (G.1 (k0 + 9))) X Z (oX2 hk0) (iB2 _) rfl (by decide) rfl (List.mem_cons_of_mem _ mB31) rfl dX2_safeTimeNow_37 ?_
    refine g_get (j := 0) (v := .int (g (k0 + 9) 0)) X Z (oX4 (k25 hk0)) (iB4 _) rfl (by decide) rfl (List.mem_cons_of_mem _ mB108) rfl dX2_safeTimeNow_40 ?_
    refine lv_icmp_ge (tgt := 81) hx hb dX2_safeTimeNow_43 (by decide) (fun c1 => ?_) (fun c1 => ?_)
    · replace hm := (if_pos c1).symm.trans hm
      refine lv_iload_n hx hb dX2_safeTimeNow_81 rfl (lv_at hl 1 rfl) ?_
      obtain rfl := Option.some.inj hm
      exact kI _ _ _ _ dX2_safeTimeNow_82 Z (vp_nar_int _)
    · replace hm := (if_neg c1).symm.trans hm
      refine lv_aload_n hx hb dX2_safeTimeNow_46 rfl (lv_at hl 0 rfl) ?_
      refine g_get (j := 5) (v := .ref (G.1 (k0 + 9))) X Z (oX2 hk0) (iB2 _) rfl (by decide) rfl (List.mem_cons_of_mem _ mB31) rfl dX2_safeTimeNow_47 ?_
      refine g_get (j := 2) (v := .ref (G.1 ((k0 + 9) + 2))) X Z (oX4 (k25 hk0)) (iB4 _) rfl (by decide) rfl (List.mem_cons_of_mem _ mB194) rfl dX2_safeTimeNow_50 ?_
      refine lv_iload_n hx hb dX2_safeTimeNow_53 rfl (lv_at hl 2 rfl) ?_
      obtain ⟨b2, hm⟩ := sIdx_some hm
      refine g_iald X Z (aI (k42 (k25 hk0))) b2 dX2_safeTimeNow_54 ?_
      refine lv_iconst (v := 1) hx hb dX2_safeTimeNow_55 (by decide) ?_
      refine lv_icmp_ne (tgt := 75) hx hb dX2_safeTimeNow_56 (by decide) (fun c3 => ?_) (fun c3 => ?_)
      · replace hm := (if_neg c3).symm.trans hm
        refine lv_iinc (v := (x2 + (1 : Int32))) (lv' := [(2, .int (x2 + (1 : Int32))), (0, .ref (G.1 k0)), (1, .int x1)]) hx hb dX2_safeTimeNow_75 hl (k := 2) rfl rfl (by decide) rfl (fun ls hl => ?_)
        refine lv_goto (tgt := 35) hx hb dX2_safeTimeNow_78 (by decide) ?_
        exact ih k0 x1 (x2 + (1 : Int32)) _ _ _ hk0 Z (lv_sub hl [1, 2, 0] rfl) hm
      · replace hm := (if_pos c3).symm.trans hm
        refine lv_iload_n hx hb dX2_safeTimeNow_59 rfl (lv_at hl 1 rfl) ?_
        refine lv_aload_n hx hb dX2_safeTimeNow_60 rfl (lv_at hl 0 rfl) ?_
        refine g_get (j := 5) (v := .ref (G.1 (k0 + 9))) X Z (oX2 hk0) (iB2 _) rfl (by decide) rfl (List.mem_cons_of_mem _ mB31) rfl dX2_safeTimeNow_61 ?_
        refine g_get (j := 3) (v := .ref (G.1 ((k0 + 9) + 3))) X Z (oX4 (k25 hk0)) (iB4 _) rfl (by decide) rfl (List.mem_cons_of_mem _ mB195) rfl dX2_safeTimeNow_64 ?_
        refine lv_iload_n hx hb dX2_safeTimeNow_67 rfl (lv_at hl 2 rfl) ?_
        obtain ⟨b4, hm⟩ := sIdx_some hm
        refine g_iald X Z (aI (k43 (k25 hk0))) b4 dX2_safeTimeNow_68 ?_
        refine lv_iconst (v := 1) hx hb dX2_safeTimeNow_69 (by decide) ?_
        refine lv_isub hx hb dX2_safeTimeNow_70 ?_
        refine g_min X hl.1 (List.mem_cons_of_mem _ mB232) (List.mem_cons_of_mem _ mB77) (List.mem_cons_of_mem _ mB78) (List.mem_cons_of_mem _ mB79) ⟨Nat.le_of_ble_eq_true rfl, Nat.le_of_ble_eq_true rfl, Nat.le_of_ble_eq_true rfl, Nat.le_of_ble_eq_true rfl⟩ dX2_safeTimeNow_71 ?_
        refine lv_istore_n (lv' := [(1, .int (sMin x1 ((g ((k0 + 9) + 3) x2.toNatClampNeg) - (1 : Int32)))), (0, .ref (G.1 k0)), (2, .int x2)]) hx hb dX2_safeTimeNow_74 rfl hl (by decide) rfl (fun ls hl => ?_)
        refine lv_iinc (v := (x2 + (1 : Int32))) (lv' := [(2, .int (x2 + (1 : Int32))), (1, .int (sMin x1 ((g ((k0 + 9) + 3) x2.toNatClampNeg) - (1 : Int32)))), (0, .ref (G.1 k0))]) hx hb dX2_safeTimeNow_75 hl (k := 2) rfl rfl (by decide) rfl (fun ls hl => ?_)
        refine lv_goto (tgt := 35) hx hb dX2_safeTimeNow_78 (by decide) ?_
        exact ih k0 (sMin x1 ((g ((k0 + 9) + 3) x2.toNatClampNeg) - (1 : Int32))) (x2 + (1 : Int32)) _ _ _ hk0 Z (lv_sub hl [2, 1, 0] rfl) hm
set_option maxHeartbeats 4000000 in
set_option maxRecDepth 100000 in
theorem bX2_safeTimeNow_10 (X : gC p s m args meth c cX2_safeTimeNow 3 wmX2_safeTimeNow yX2_safeTimeNow.cls (some .int) G A) {n : Nat} {g : Mem} {r : Int32} (kI : ∀ (pc : Nat) (ls : Array Slot) (H : Heap) (locs : List Loc), decode cX2_safeTimeNow pc = .ok (.ireturn, 1) → WS wC G g A s.heap H locs → narrow .int (.int r) = .int r → W p l e { frames := 4, cells := 0, slots := 0, locals := 86 } s m args below meth c H locs 0 0 Q (F0 m pc ls [.int r])) : ∀ (f : Nat), ∀ (k0 : Nat) (x1 : Int32) (x2 : Int32) (H : Heap) (locs : List Loc) (ls : Array Slot), KD k0 = 2 → WS wC G g A s.heap H locs → lv_has ls 3 [(0, .ref (G.1 k0)), (1, .int x1), (2, .int x2)] → sX2_safeTimeNow_10 n g f k0 x1 x2 = some r → W p l e { frames := 4, cells := 0, slots := 0, locals := 86 } s m args below meth c H locs 0 0 Q (F0 m 10 ls []) := by
  have hx := X.1
  have hb := X.2.1
  intro f
  induction f with
  | zero =>
    intro k0 x1 x2 H locs ls hk0 Z hl hm
    cases hm
  | succ f ih =>
    intro k0 x1 x2 H locs ls hk0 Z hl hm
    unfold sX2_safeTimeNow_10 at hm
    refine lv_iload_n hx hb dX2_safeTimeNow_10 rfl (lv_at hl 2 rfl) ?_
    refine lv_iconst (v := 3) hx hb dX2_safeTimeNow_11 (by decide) ?_
    refine lv_icmp_ge (tgt := 33) hx hb dX2_safeTimeNow_12 (by decide) (fun c1 => ?_) (fun c1 => ?_)
    · replace hm := (if_pos c1).symm.trans hm
      refine lv_iconst (v := 0) hx hb dX2_safeTimeNow_33 (by decide) ?_
      refine lv_istore_n (lv' := [(2, .int 0), (0, .ref (G.1 k0)), (1, .int x1)]) hx hb dX2_safeTimeNow_34 rfl hl (by decide) rfl (fun ls hl => ?_)
      exact bX2_safeTimeNow_35 X kI n k0 x1 (0 : Int32) _ _ _ hk0 Z (lv_sub hl [1, 2, 0] rfl) hm
    · replace hm := (if_neg c1).symm.trans hm
      refine lv_iload_n hx hb dX2_safeTimeNow_15 rfl (lv_at hl 1 rfl) ?_
      refine lv_aload_n hx hb dX2_safeTimeNow_16 rfl (lv_at hl 0 rfl) ?_
      refine lv_iload_n hx hb dX2_safeTimeNow_17 rfl (lv_at hl 2 rfl) ?_
      obtain ⟨r4, e2, hm⟩ := sBi_some hm
      refine g_callVI (n := 1) (As := [.int x2]) (rest := [.int x1]) sameC X Z (cX2_nextTimestampOf_c l hk0 e2) (oX2 hk0) rfl (gooV mB182 mB183 mB184 mB43 mB171) rfl (by decide +kernel) rfl ⟨Nat.le_of_ble_eq_true rfl, Nat.le_of_ble_eq_true rfl⟩ ⟨Nat.le_of_ble_eq_true rfl, Nat.le_of_ble_eq_true rfl⟩ hl.1 rfl (Nat.le_of_ble_eq_true rfl) dX2_safeTimeNow_18 (fun w3 H locs Z => ?_)
      refine lv_iconst (v := 1) hx hb dX2_safeTimeNow_21 (by decide) ?_
      refine lv_isub hx hb dX2_safeTimeNow_22 ?_
      refine g_min X hl.1 (List.mem_cons_of_mem _ mB232) (List.mem_cons_of_mem _ mB77) (List.mem_cons_of_mem _ mB78) (List.mem_cons_of_mem _ mB79) ⟨Nat.le_of_ble_eq_true rfl, Nat.le_of_ble_eq_true rfl, Nat.le_of_ble_eq_true rfl, Nat.le_of_ble_eq_true rfl⟩ dX2_safeTimeNow_23 ?_
      refine lv_istore_n (lv' := [(1, .int (sMin x1 (r4 - (1 : Int32)))), (0, .ref (G.1 k0)), (2, .int x2)]) hx hb dX2_safeTimeNow_26 rfl hl (by decide) rfl (fun ls hl => ?_)
      refine lv_iinc (v := (x2 + (1 : Int32))) (lv' := [(2, .int (x2 + (1 : Int32))), (1, .int (sMin x1 (r4 - (1 : Int32)))), (0, .ref (G.1 k0))]) hx hb dX2_safeTimeNow_27 hl (k := 2) rfl rfl (by decide) rfl (fun ls hl => ?_)
      refine lv_goto (tgt := 10) hx hb dX2_safeTimeNow_30 (by decide) ?_
      exact ih k0 (sMin x1 (r4 - (1 : Int32))) (x2 + (1 : Int32)) _ _ _ hk0 Z (lv_sub hl [2, 1, 0] rfl) hm
set_option maxHeartbeats 4000000 in
set_option maxRecDepth 100000 in
theorem bX2_safeTimeNow_0 (X : gC p s m args meth c cX2_safeTimeNow 3 wmX2_safeTimeNow yX2_safeTimeNow.cls (some .int) G A) {n : Nat} {g : Mem} {r : Int32} (kI : ∀ (pc : Nat) (ls : Array Slot) (H : Heap) (locs : List Loc), decode cX2_safeTimeNow pc = .ok (.ireturn, 1) → WS wC G g A s.heap H locs → narrow .int (.int r) = .int r → W p l e { frames := 4, cells := 0, slots := 0, locals := 86 } s m args below meth c H locs 0 0 Q (F0 m pc ls [.int r])) : ∀ (k0 : Nat) (H : Heap) (locs : List Loc) (ls : Array Slot), KD k0 = 2 → WS wC G g A s.heap H locs → lv_has ls 3 [(0, .ref (G.1 k0))] → sX2_safeTimeNow n g k0 = some r → W p l e { frames := 4, cells := 0, slots := 0, locals := 86 } s m args below meth c H locs 0 0 Q (F0 m 0 ls []) := by
  have hx := X.1
  have hb := X.2.1
  intro k0 H locs ls hk0 Z hl hm
  unfold sX2_safeTimeNow at hm
  refine lv_aload_n hx hb dX2_safeTimeNow_0 rfl (lv_at hl 0 rfl) ?_
  refine lv_iconst (v := 0) hx hb dX2_safeTimeNow_1 (by decide) ?_
  obtain ⟨r3, e1, hm⟩ := sBi_some hm
  refine g_callVI (n := 1) (As := [.int 0]) (rest := []) sameC X Z (cX2_nextTimestampOf_c l hk0 e1) (oX2 hk0) rfl (gooV mB182 mB183 mB184 mB43 mB171) rfl (by decide +kernel) rfl ⟨Nat.le_of_ble_eq_true rfl, Nat.le_of_ble_eq_true rfl⟩ ⟨Nat.le_of_ble_eq_true rfl, Nat.le_of_ble_eq_true rfl⟩ hl.1 rfl (Nat.le_of_ble_eq_true rfl) dX2_safeTimeNow_2 (fun w2 H locs Z => ?_)
  refine lv_iconst (v := 1) hx hb dX2_safeTimeNow_5 (by decide) ?_
  refine lv_isub hx hb dX2_safeTimeNow_6 ?_
  refine lv_istore_n (lv' := [(1, .int (r3 - (1 : Int32))), (0, .ref (G.1 k0))]) hx hb dX2_safeTimeNow_7 rfl hl (by decide) rfl (fun ls hl => ?_)
  refine lv_iconst (v := 1) hx hb dX2_safeTimeNow_8 (by decide) ?_
  refine lv_istore_n (lv' := [(2, .int 1), (1, .int (r3 - (1 : Int32))), (0, .ref (G.1 k0))]) hx hb dX2_safeTimeNow_9 rfl hl (by decide) rfl (fun ls hl => ?_)
  exact bX2_safeTimeNow_10 X kI n k0 (r3 - (1 : Int32)) (1 : Int32) _ _ _ hk0 Z (lv_sub hl [2, 1, 0] rfl) hm
theorem cX2_safeTimeNow_c (l : Launch) {G : LY} {g : Mem} {n : Nat} {k0 : Nat} {r : Int32} (hk0 : KD k0 = 2) (hm : sX2_safeTimeNow n g k0 = some r) : cI l yX2_safeTimeNow wmX2_safeTimeNow 4 86 .int wC G [.ref (G.1 k0)] g r g :=
  mk_cI sameC (by decide +kernel) rfl (Nat.le_of_ble_eq_true rfl) (fun p e s m args below meth c A Q ls X kI hl Z => bX2_safeTimeNow_0 X kI k0 _ _ ls hk0 Z hl hm)
abbrev wmX2_ticksUntilSafeAt : List Cond := Cond.code yX2_ticksUntilSafeAt cX2_ticksUntilSafeAt 5 (some .int) :: wA0
set_option maxHeartbeats 4000000 in
set_option maxRecDepth 100000 in
theorem bX2_ticksUntilSafeAt_51 (X : gC p s m args meth c cX2_ticksUntilSafeAt 5 wmX2_ticksUntilSafeAt yX2_ticksUntilSafeAt.cls (some .int) G A) {n : Nat} {g : Mem} {r : Int32} (kI : ∀ (pc : Nat) (ls : Array Slot) (H : Heap) (locs : List Loc), decode cX2_ticksUntilSafeAt pc = .ok (.ireturn, 1) → WS wC G g A s.heap H locs → narrow .int (.int r) = .int r → W p l e { frames := 4, cells := 0, slots := 0, locals := 91 } s m args below meth c H locs 0 0 Q (F0 m pc ls [.int r])) : ∀ (f : Nat), ∀ (k0 : Nat) (x1 : Int32) (x2 : Int32) (x3 : Int32) (x4 : Int32) (H : Heap) (locs : List Loc) (ls : Array Slot), KD k0 = 2 → WS wC G g A s.heap H locs → lv_has ls 5 [(0, .ref (G.1 k0)), (1, .int x1), (2, .int x2), (3, .int x3), (4, .int x4)] → sX2_ticksUntilSafeAt_51 n g f k0 x1 x2 x3 x4 = some r → W p l e { frames := 4, cells := 0, slots := 0, locals := 91 } s m args below meth c H locs 0 0 Q (F0 m 51 ls []) := by
  have hx := X.1
  have hb := X.2.1
  intro f
  induction f with
  | zero =>
    intro k0 x1 x2 x3 x4 H locs ls hk0 Z hl hm
    cases hm
  | succ f ih =>
    intro k0 x1 x2 x3 x4 H locs ls hk0 Z hl hm
    unfold sX2_ticksUntilSafeAt_51 at hm
    refine lv_iload hx hb dX2_ticksUntilSafeAt_51 (lv_at hl 4 rfl) ?_
    refine lv_aload_n hx hb dX2_ticksUntilSafeAt_53 rfl (lv_at hl 0 rfl) ?_
    refine g_get (j := 5) (v := .ref (G.1 (k0 + 9))) X Z (oX2 hk0) (iB2 _) rfl (by decide) rfl (List.mem_cons_of_mem _ mB31) rfl dX2_ticksUntilSafeAt_54 ?_
    refine g_get (j := 0) (v := .int (g (k0 + 9) 0)) X Z (oX4 (k25 hk0)) (iB4 _) rfl (by decide) rfl (List.mem_cons_of_mem _ mB108) rfl dX2_ticksUntilSafeAt_57 ?_
    refine lv_icmp_ge (tgt := 109) hx hb dX2_ticksUntilSafeAt_60 (by decide) (fun c1 => ?_) (fun c1 => ?_)
    · replace hm := (if_pos c1).symm.trans hm
      refine lv_iload_n hx hb dX2_ticksUntilSafeAt_109 rfl (lv_at hl 3 rfl) ?_
      obtain rfl := Option.some.inj hm
      exact kI _ _ _ _ dX2_ticksUntilSafeAt_110 Z (vp_nar_int _)
    · replace hm := (if_neg c1).symm.trans hm
      refine lv_aload_n hx hb dX2_ticksUntilSafeAt_63 rfl (lv_at hl 0 rfl) ?_
      refine g_get (j := 5) (v := .ref (G.1 (k0 + 9))) X Z (oX2 hk0) (iB2 _) rfl (by decide) rfl (List.mem_cons_of_mem _ mB31) rfl dX2_ticksUntilSafeAt_64 ?_
      refine g_get (j := 2) (v := .ref (G.1 ((k0 + 9) + 2))) X Z (oX4 (k25 hk0)) (iB4 _) rfl (by decide) rfl (List.mem_cons_of_mem _ mB194) rfl dX2_ticksUntilSafeAt_67 ?_
      refine lv_iload hx hb dX2_ticksUntilSafeAt_70 (lv_at hl 4 rfl) ?_
      obtain ⟨b2, hm⟩ := sIdx_some hm
      refine g_iald X Z (aI (k42 (k25 hk0))) b2 dX2_ticksUntilSafeAt_72 ?_
      refine lv_iconst (v := 1) hx hb dX2_ticksUntilSafeAt_73 (by decide) ?_
      refine lv_icmp_ne (tgt := 103) hx hb dX2_ticksUntilSafeAt_74 (by decide) (fun c3 => ?_) (fun c3 => ?_)
      · replace hm := (if_neg c3).symm.trans hm
        refine lv_iinc (v := (x4 + (1 : Int32))) (lv' := [(4, .int (x4 + (1 : Int32))), (0, .ref (G.1 k0)), (1, .int x1), (2, .int x2), (3, .int x3)]) hx hb dX2_ticksUntilSafeAt_103 hl (k := 4) rfl rfl (by decide) rfl (fun ls hl => ?_)
        refine lv_goto (tgt := 51) hx hb dX2_ticksUntilSafeAt_106 (by decide) ?_
        exact ih k0 x1 x2 x3 (x4 + (1 : Int32)) _ _ _ hk0 Z (lv_sub hl [1, 2, 3, 4, 0] rfl) hm
      · replace hm := (if_pos c3).symm.trans hm
        refine lv_aload_n hx hb dX2_ticksUntilSafeAt_77 rfl (lv_at hl 0 rfl) ?_
        refine g_get (j := 5) (v := .ref (G.1 (k0 + 9))) X Z (oX2 hk0) (iB2 _) rfl (by decide) rfl (List.mem_cons_of_mem _ mB31) rfl dX2_ticksUntilSafeAt_78 ?_
        refine g_get (j := 3) (v := .ref (G.1 ((k0 + 9) + 3))) X Z (oX4 (k25 hk0)) (iB4 _) rfl (by decide) rfl (List.mem_cons_of_mem _ mB195) rfl dX2_ticksUntilSafeAt_81 ?_
        refine lv_iload hx hb dX2_ticksUntilSafeAt_84 (lv_at hl 4 rfl) ?_
        obtain ⟨b4, hm⟩ := sIdx_some hm
        refine g_iald X Z (aI (k43 (k25 hk0))) b4 dX2_ticksUntilSafeAt_86 ?_
        refine lv_iload_n hx hb dX2_ticksUntilSafeAt_87 rfl (lv_at hl 1 rfl) ?_
        refine lv_icmp_gt (tgt := 103) hx hb dX2_ticksUntilSafeAt_88 (by decide) (fun c5 => ?_) (fun c5 => ?_)
        · replace hm := (if_pos c5).symm.trans hm
          refine lv_iinc (v := (x4 + (1 : Int32))) (lv' := [(4, .int (x4 + (1 : Int32))), (0, .ref (G.1 k0)), (1, .int x1), (2, .int x2), (3, .int x3)]) hx hb dX2_ticksUntilSafeAt_103 hl (k := 4) rfl rfl (by decide) rfl (fun ls hl => ?_)
          refine lv_goto (tgt := 51) hx hb dX2_ticksUntilSafeAt_106 (by decide) ?_
          exact ih k0 x1 x2 x3 (x4 + (1 : Int32)) _ _ _ hk0 Z (lv_sub hl [1, 2, 3, 4, 0] rfl) hm
        · replace hm := (if_neg c5).symm.trans hm
          refine lv_iload_n hx hb dX2_ticksUntilSafeAt_91 rfl (lv_at hl 3 rfl) ?_
          refine lv_aload_n hx hb dX2_ticksUntilSafeAt_92 rfl (lv_at hl 0 rfl) ?_
          refine lv_iload hx hb dX2_ticksUntilSafeAt_93 (lv_at hl 4 rfl) ?_
          refine lv_iload_n hx hb dX2_ticksUntilSafeAt_95 rfl (lv_at hl 2 rfl) ?_
          obtain ⟨r8, e6, hm⟩ := sBi_some hm
          refine g_callVI (n := 2) (As := [.int x4, .int x2]) (rest := [.int x3]) sameC X Z (cX2_ticksUntilCommitted_c l hk0 e6) (oX2 hk0) rfl (gooV mB220 mB221 mB222 mB43 mB219) rfl (by decide +kernel) rfl ⟨Nat.le_of_ble_eq_true rfl, Nat.le_of_ble_eq_true rfl⟩ ⟨Nat.le_of_ble_eq_true rfl, Nat.le_of_ble_eq_true rfl⟩ hl.1 rfl (Nat.le_of_ble_eq_true rfl) dX2_ticksUntilSafeAt_96 (fun w7 H locs Z => ?_)
          refine g_max X hl.1 (List.mem_cons_of_mem _ mB167) (List.mem_cons_of_mem _ mB168) (List.mem_cons_of_mem _ mB78) (List.mem_cons_of_mem _ mB169) ⟨Nat.le_of_ble_eq_true rfl, Nat.le_of_ble_eq_true rfl, Nat.le_of_ble_eq_true rfl, Nat.le_of_ble_eq_true rfl⟩ dX2_ticksUntilSafeAt_99 ?_
          refine lv_istore_n (lv' := [(3, .int (sMax x3 r8)), (0, .ref (G.1 k0)), (1, .int x1), (2, .int x2), (4, .int x4)]) hx hb dX2_ticksUntilSafeAt_102 rfl hl (by decide) rfl (fun ls hl => ?_)
          refine lv_iinc (v := (x4 + (1 : Int32))) (lv' := [(4, .int (x4 + (1 : Int32))), (3, .int (sMax x3 r8)), (0, .ref (G.1 k0)), (1, .int x1), (2, .int x2)]) hx hb dX2_ticksUntilSafeAt_103 hl (k := 4) rfl rfl (by decide) rfl (fun ls hl => ?_)
          refine lv_goto (tgt := 51) hx hb dX2_ticksUntilSafeAt_106 (by decide) ?_
          exact ih k0 x1 x2 (sMax x3 r8) (x4 + (1 : Int32)) _ _ _ hk0 Z (lv_sub hl [2, 3, 4, 1, 0] rfl) hm
set_option maxHeartbeats 4000000 in
set_option maxRecDepth 100000 in
theorem bX2_ticksUntilSafeAt_5 (X : gC p s m args meth c cX2_ticksUntilSafeAt 5 wmX2_ticksUntilSafeAt yX2_ticksUntilSafeAt.cls (some .int) G A) {n : Nat} {g : Mem} {r : Int32} (kI : ∀ (pc : Nat) (ls : Array Slot) (H : Heap) (locs : List Loc), decode cX2_ticksUntilSafeAt pc = .ok (.ireturn, 1) → WS wC G g A s.heap H locs → narrow .int (.int r) = .int r → W p l e { frames := 4, cells := 0, slots := 0, locals := 91 } s m args below meth c H locs 0 0 Q (F0 m pc ls [.int r])) : ∀ (f : Nat), ∀ (k0 : Nat) (x1 : Int32) (x2 : Int32) (x3 : Int32) (x4 : Int32) (H : Heap) (locs : List Loc) (ls : Array Slot), KD k0 = 2 → WS wC G g A s.heap H locs → lv_has ls 5 [(0, .ref (G.1 k0)), (1, .int x1), (2, .int x2), (3, .int x3), (4, .int x4)] → sX2_ticksUntilSafeAt_5 n g f k0 x1 x2 x3 x4 = some r → W p l e { frames := 4, cells := 0, slots := 0, locals := 91 } s m args below meth c H locs 0 0 Q (F0 m 5 ls []) := by
  have hx := X.1
  have hb := X.2.1
  intro f
  induction f with
  | zero =>
    intro k0 x1 x2 x3 x4 H locs ls hk0 Z hl hm
    cases hm
  | succ f ih =>
    intro k0 x1 x2 x3 x4 H locs ls hk0 Z hl hm
    unfold sX2_ticksUntilSafeAt_5 at hm
    refine lv_iload hx hb dX2_ticksUntilSafeAt_5 (lv_at hl 4 rfl) ?_
    refine lv_iconst (v := 3) hx hb dX2_ticksUntilSafeAt_7 (by decide) ?_
    refine lv_icmp_ge (tgt := 48) hx hb dX2_ticksUntilSafeAt_8 (by decide) (fun c1 => ?_) (fun c1 => ?_)
    · replace hm := (if_pos c1).symm.trans hm
      refine lv_iconst (v := 0) hx hb dX2_ticksUntilSafeAt_48 (by decide) ?_
      refine lv_istore (lv' := [(4, .int 0), (0, .ref (G.1 k0)), (1, .int x1), (2, .int x2), (3, .int x3)]) hx hb dX2_ticksUntilSafeAt_49 hl (by decide) rfl (fun ls hl => ?_)
      exact bX2_ticksUntilSafeAt_51 X kI n k0 x1 x2 x3 (0 : Int32) _ _ _ hk0 Z (lv_sub hl [1, 2, 3, 4, 0] rfl) hm
    · replace hm := (if_neg c1).symm.trans hm
      refine lv_aload_n hx hb dX2_ticksUntilSafeAt_11 rfl (lv_at hl 0 rfl) ?_
      refine lv_iload hx hb dX2_ticksUntilSafeAt_12 (lv_at hl 4 rfl) ?_
      obtain ⟨r4, e2, hm⟩ := sBi_some hm
      refine g_callVI (n := 1) (As := [.int x4]) (rest := []) sameC X Z (cX2_nextTimestampOf_c l hk0 e2) (oX2 hk0) rfl (gooV mB182 mB183 mB184 mB43 mB171) rfl (by decide +kernel) rfl ⟨Nat.le_of_ble_eq_true rfl, Nat.le_of_ble_eq_true rfl⟩ ⟨Nat.le_of_ble_eq_true rfl, Nat.le_of_ble_eq_true rfl⟩ hl.1 rfl (Nat.le_of_ble_eq_true rfl) dX2_ticksUntilSafeAt_14 (fun w3 H locs Z => ?_)
      refine lv_iload_n hx hb dX2_ticksUntilSafeAt_17 rfl (lv_at hl 1 rfl) ?_
      refine lv_icmp_gt (tgt := 42) hx hb dX2_ticksUntilSafeAt_18 (by decide) (fun c5 => ?_) (fun c5 => ?_)
      · replace hm := (if_pos c5).symm.trans hm
        refine lv_iinc (v := (x4 + (1 : Int32))) (lv' := [(4, .int (x4 + (1 : Int32))), (0, .ref (G.1 k0)), (1, .int x1), (2, .int x2), (3, .int x3)]) hx hb dX2_ticksUntilSafeAt_42 hl (k := 4) rfl rfl (by decide) rfl (fun ls hl => ?_)
        refine lv_goto (tgt := 5) hx hb dX2_ticksUntilSafeAt_45 (by decide) ?_
        exact ih k0 x1 x2 x3 (x4 + (1 : Int32)) _ _ _ hk0 Z (lv_sub hl [1, 2, 3, 4, 0] rfl) hm
      · replace hm := (if_neg c5).symm.trans hm
        refine lv_iload_n hx hb dX2_ticksUntilSafeAt_21 rfl (lv_at hl 3 rfl) ?_
        refine lv_aload_n hx hb dX2_ticksUntilSafeAt_22 rfl (lv_at hl 0 rfl) ?_
        refine g_get (j := 3) (v := .ref (G.1 (k0 + 1))) X Z (oX2 hk0) (iB2 _) rfl (by decide) rfl (List.mem_cons_of_mem _ mB23) rfl dX2_ticksUntilSafeAt_23 ?_
        refine lv_iload hx hb dX2_ticksUntilSafeAt_26 (lv_at hl 4 rfl) ?_
        obtain ⟨b6, hm⟩ := sIdx_some hm
        refine g_aald X Z (rS (k23 hk0)) rfl b6 dX2_ticksUntilSafeAt_28 ?_
        refine lv_iload_n hx hb dX2_ticksUntilSafeAt_29 rfl (lv_at hl 1 rfl) ?_
        refine lv_aload_n hx hb dX2_ticksUntilSafeAt_30 rfl (lv_at hl 0 rfl) ?_
        refine g_get (j := 0) (v := .int (g k0 0)) X Z (oX2 hk0) (iB2 _) rfl (by decide) rfl (List.mem_cons_of_mem _ mB61) rfl dX2_ticksUntilSafeAt_31 ?_
        refine lv_iload_n hx hb dX2_ticksUntilSafeAt_34 rfl (lv_at hl 2 rfl) ?_
        obtain ⟨r9, e7, hm⟩ := sBi_some hm
        refine g_callVI (n := 3) (As := [.int x1, .int (g k0 0), .int x2]) (rest := [.int x3]) sameC X Z (cX1_ticksUntilLatestPasses_c l (k11 (k23 hk0) (vp_in_lt b6)) e7) (oX1 (k11 (k23 hk0) (vp_in_lt b6))) rfl (gooV mB234 mB235 mB236 mB33 mB102) rfl (by decide +kernel) rfl ⟨Nat.le_of_ble_eq_true rfl, Nat.le_of_ble_eq_true rfl⟩ ⟨Nat.le_of_ble_eq_true rfl, Nat.le_of_ble_eq_true rfl⟩ hl.1 rfl (Nat.le_of_ble_eq_true rfl) dX2_ticksUntilSafeAt_35 (fun w8 H locs Z => ?_)
        refine g_max X hl.1 (List.mem_cons_of_mem _ mB167) (List.mem_cons_of_mem _ mB168) (List.mem_cons_of_mem _ mB78) (List.mem_cons_of_mem _ mB169) ⟨Nat.le_of_ble_eq_true rfl, Nat.le_of_ble_eq_true rfl, Nat.le_of_ble_eq_true rfl, Nat.le_of_ble_eq_true rfl⟩ dX2_ticksUntilSafeAt_38 ?_
        refine lv_istore_n (lv' := [(3, .int (sMax x3 r9)), (0, .ref (G.1 k0)), (1, .int x1), (2, .int x2), (4, .int x4)]) hx hb dX2_ticksUntilSafeAt_41 rfl hl (by decide) rfl (fun ls hl => ?_)
        refine lv_iinc (v := (x4 + (1 : Int32))) (lv' := [(4, .int (x4 + (1 : Int32))), (3, .int (sMax x3 r9)), (0, .ref (G.1 k0)), (1, .int x1), (2, .int x2)]) hx hb dX2_ticksUntilSafeAt_42 hl (k := 4) rfl rfl (by decide) rfl (fun ls hl => ?_)
        refine lv_goto (tgt := 5) hx hb dX2_ticksUntilSafeAt_45 (by decide) ?_
        exact ih k0 x1 x2 (sMax x3 r9) (x4 + (1 : Int32)) _ _ _ hk0 Z (lv_sub hl [2, 3, 4, 1, 0] rfl) hm
set_option maxHeartbeats 4000000 in
set_option maxRecDepth 100000 in
theorem bX2_ticksUntilSafeAt_0 (X : gC p s m args meth c cX2_ticksUntilSafeAt 5 wmX2_ticksUntilSafeAt yX2_ticksUntilSafeAt.cls (some .int) G A) {n : Nat} {g : Mem} {r : Int32} (kI : ∀ (pc : Nat) (ls : Array Slot) (H : Heap) (locs : List Loc), decode cX2_ticksUntilSafeAt pc = .ok (.ireturn, 1) → WS wC G g A s.heap H locs → narrow .int (.int r) = .int r → W p l e { frames := 4, cells := 0, slots := 0, locals := 91 } s m args below meth c H locs 0 0 Q (F0 m pc ls [.int r])) : ∀ (k0 : Nat) (x1 : Int32) (x2 : Int32) (H : Heap) (locs : List Loc) (ls : Array Slot), KD k0 = 2 → WS wC G g A s.heap H locs → lv_has ls 5 [(0, .ref (G.1 k0)), (1, .int x1), (2, .int x2)] → sX2_ticksUntilSafeAt n g k0 x1 x2 = some r → W p l e { frames := 4, cells := 0, slots := 0, locals := 91 } s m args below meth c H locs 0 0 Q (F0 m 0 ls []) := by
  have hx := X.1
  have hb := X.2.1
  intro k0 x1 x2 H locs ls hk0 Z hl hm
  unfold sX2_ticksUntilSafeAt at hm
  refine lv_iconst (v := 0) hx hb dX2_ticksUntilSafeAt_0 (by decide) ?_
  refine lv_istore_n (lv' := [(3, .int 0), (0, .ref (G.1 k0)), (1, .int x1), (2, .int x2)]) hx hb dX2_ticksUntilSafeAt_1 rfl hl (by decide) rfl (fun ls hl => ?_)
  refine lv_iconst (v := 0) hx hb dX2_ticksUntilSafeAt_2 (by decide) ?_
  refine lv_istore (lv' := [(4, .int 0), (3, .int 0), (0, .ref (G.1 k0)), (1, .int x1), (2, .int x2)]) hx hb dX2_ticksUntilSafeAt_3 hl (by decide) rfl (fun ls hl => ?_)
  exact bX2_ticksUntilSafeAt_5 X kI n k0 x1 x2 (0 : Int32) (0 : Int32) _ _ _ hk0 Z (lv_sub hl [2, 3, 4, 1, 0] rfl) hm
theorem cX2_ticksUntilSafeAt_c (l : Launch) {G : LY} {g : Mem} {n : Nat} {k0 : Nat} {x1 : Int32} {x2 : Int32} {r : Int32} (hk0 : KD k0 = 2) (hm : sX2_ticksUntilSafeAt n g k0 x1 x2 = some r) : cI l yX2_ticksUntilSafeAt wmX2_ticksUntilSafeAt 4 91 .int wC G [.ref (G.1 k0), .int x1, .int x2] g r g :=
  mk_cI sameC (by decide +kernel) rfl (Nat.le_of_ble_eq_true rfl) (fun p e s m args below meth c A Q ls X kI hl Z => bX2_ticksUntilSafeAt_0 X kI k0 x1 x2 _ _ ls hk0 Z hl hm)
end GW
