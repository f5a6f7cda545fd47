section GW
variable {Qc : Array Value → State → Outcome → State → Prop} {XC : String → State → State → Prop} {p : Program} {l : Launch} {e : Env} {s : State} {m : MethodId} {args : Array Value} {below : List Frame} {meth : Method} {c : Code} {Q : State → Prop} {G : LY} {A : Nat → Prop}
abbrev wmJ0_isLatin1_aae02 : List Cond := Cond.code yJ0_isLatin1_aae02 cJ0_isLatin1_aae02 1 (some .boolean) :: wA0
set_option maxHeartbeats 4000000 in
set_option maxRecDepth 100000 in
theorem bJ0_isLatin1_aae02_0 (X : gC p s m args meth c cJ0_isLatin1_aae02 1 wmJ0_isLatin1_aae02 yJ0_isLatin1_aae02.cls (some .boolean) G A) {g : Mem} {r : Int32} (kI : ∀ (pc : Nat) (ls : Array Slot) (H : Heap) (locs : List Loc), decode cJ0_isLatin1_aae02 pc = .ok (.ireturn, 1) → WS wC G g A s.heap H locs → narrow .boolean (.int r) = .int r → W p l e { frames := 0, cells := 0, slots := 0, locals := 0 } s m args below meth c H locs 0 0 Q (F0 m pc ls [.int r])) : ∀ (H : Heap) (locs : List Loc) (ls : Array Slot), WS wC G g A s.heap H locs → lv_has ls 1 [(0, .ref (G.1 200))] → sJ0_isLatin1_aae02 g = some r → W p l e { frames := 0, cells := 0, slots := 0, locals := 0 } s m args below meth c H locs 0 0 Q (F0 m 0 ls []) := by
  have hx := X.1
  have hb := X.2.1
  intro H locs ls Z hl hm
  unfold sJ0_isLatin1_aae02 at hm
  refine g_scmp X Z (List.mem_cons_of_mem _ mB250) dJ0_isLatin1_aae02_0 ?_
  refine lv_if_eq (tgt := 17) hx hb dJ0_isLatin1_aae02_3 (by decide) (fun c1 => ?_) (fun c1 => ?_)
  · first | exact absurd c1 (by decide) | exact absurd (by decide) c1
  refine lv_aload_n hx hb dJ0_isLatin1_aae02_6 rfl (lv_at hl 0 rfl) ?_
  refine g_scod X Z (List.mem_cons_of_mem _ mB251) dJ0_isLatin1_aae02_7 ?_
  refine lv_if_ne (tgt := 17) hx hb dJ0_isLatin1_aae02_10 (by decide) (fun c2 => ?_) (fun c2 => ?_)
  · first | exact absurd c2 (by decide) | exact absurd (by decide) c2
  refine lv_iconst (v := 1) hx hb dJ0_isLatin1_aae02_13 (by decide) ?_
  refine lv_goto (tgt := 18) hx hb dJ0_isLatin1_aae02_14 (by decide) ?_
  obtain rfl := Option.some.inj hm
  exact kI _ _ _ _ dJ0_isLatin1_aae02_18 Z nb1
theorem cJ0_isLatin1_aae02_c (l : Launch) {G : LY} {g : Mem} {r : Int32} (hm : sJ0_isLatin1_aae02 g = some r) : cI l yJ0_isLatin1_aae02 wmJ0_isLatin1_aae02 0 0 .boolean wC G [.ref (G.1 200)] g r g :=
  mk_cI sameC (by decide +kernel) rfl (Nat.le_of_ble_eq_true rfl) (fun p e s m args below meth c A Q ls X kI hl Z => bJ0_isLatin1_aae02_0 X kI  _ _ ls Z hl hm)
abbrev wmJ0_coder_7d493 : List Cond := Cond.code yJ0_coder_7d493 cJ0_coder_7d493 1 (some .byte) :: wA0
set_option maxHeartbeats 4000000 in
set_option maxRecDepth 100000 in
theorem bJ0_coder_7d493_0 (X : gC p s m args meth c cJ0_coder_7d493 1 wmJ0_coder_7d493 yJ0_coder_7d493.cls (some .byte) G A) {g : Mem} {r : Int32} (kI : ∀ (pc : Nat) (ls : Array Slot) (H : Heap) (locs : List Loc), decode cJ0_coder_7d493 pc = .ok (.ireturn, 1) → WS wC G g A s.heap H locs → narrow .byte (.int r) = .int r → W p l e { frames := 0, cells := 0, slots := 0, locals := 0 } s m args below meth c H locs 0 0 Q (F0 m pc ls [.int r])) : ∀ (H : Heap) (locs : List Loc) (ls : Array Slot), WS wC G g A s.heap H locs → lv_has ls 1 [(0, .ref (G.1 200))] → sJ0_coder_7d493 g = some r → W p l e { frames := 0, cells := 0, slots := 0, locals := 0 } s m args below meth c H locs 0 0 Q (F0 m 0 ls []) := by
  have hx := X.1
  have hb := X.2.1
  intro H locs ls Z hl hm
  unfold sJ0_coder_7d493 at hm
  refine g_scmp X Z (List.mem_cons_of_mem _ mB250) dJ0_coder_7d493_0 ?_
  refine lv_if_eq (tgt := 13) hx hb dJ0_coder_7d493_3 (by decide) (fun c1 => ?_) (fun c1 => ?_)
  · first | exact absurd c1 (by decide) | exact absurd (by decide) c1
  refine lv_aload_n hx hb dJ0_coder_7d493_6 rfl (lv_at hl 0 rfl) ?_
  refine g_scod X Z (List.mem_cons_of_mem _ mB251) dJ0_coder_7d493_7 ?_
  refine lv_goto (tgt := 14) hx hb dJ0_coder_7d493_10 (by decide) ?_
  obtain rfl := Option.some.inj hm
  exact kI _ _ _ _ dJ0_coder_7d493_14 Z (vp_nar_int _)
theorem cJ0_coder_7d493_c (l : Launch) {G : LY} {g : Mem} {r : Int32} (hm : sJ0_coder_7d493 g = some r) : cI l yJ0_coder_7d493 wmJ0_coder_7d493 0 0 .byte wC G [.ref (G.1 200)] g r g :=
  mk_cI sameC (by decide +kernel) rfl (Nat.le_of_ble_eq_true rfl) (fun p e s m args below meth c A Q ls X kI hl Z => bJ0_coder_7d493_0 X kI  _ _ ls Z hl hm)
abbrev wmJ0_length_8abf5 : List Cond := Cond.code yJ0_length_8abf5 cJ0_length_8abf5 1 (some .int) :: wA0
set_option maxHeartbeats 4000000 in
set_option maxRecDepth 100000 in
theorem bJ0_length_8abf5_0 (X : gC p s m args meth c cJ0_length_8abf5 1 wmJ0_length_8abf5 yJ0_length_8abf5.cls (some .int) G A) {g : Mem} {r : Int32} (kI : ∀ (pc : Nat) (ls : Array Slot) (H : Heap) (locs : List Loc), decode cJ0_length_8abf5 pc = .ok (.ireturn, 1) → WS wC G g A s.heap H locs → narrow .int (.int r) = .int r → W p l e { frames := 1, cells := 0, slots := 0, locals := 20 } s m args below meth c H locs 0 0 Q (F0 m pc ls [.int r])) : ∀ (H : Heap) (locs : List Loc) (ls : Array Slot), WS wC G g A s.heap H locs → lv_has ls 1 [(0, .ref (G.1 200))] → sJ0_length_8abf5 g = some r → W p l e { frames := 1, cells := 0, slots := 0, locals := 20 } s m args below meth c H locs 0 0 Q (F0 m 0 ls []) := by
  have hx := X.1
  have hb := X.2.1
  intro H locs ls Z hl hm
  unfold sJ0_length_8abf5 at hm
  refine lv_aload_n hx hb dJ0_length_8abf5_0 rfl (lv_at hl 0 rfl) ?_
  refine g_sval X Z (List.mem_cons_of_mem _ mB254) dJ0_length_8abf5_1 ?_
  refine g_slen X Z dJ0_length_8abf5_4 ?_
  refine lv_aload_n hx hb dJ0_length_8abf5_5 rfl (lv_at hl 0 rfl) ?_
  obtain ⟨r3, e1, hm⟩ := sBi_some hm
  have zr3 : sJ0_coder_7d493 g = some (0 : Int32) := rfl
  refine g_callStr (n := 0) (As := []) (rest := [.int 7]) sameC X Z (cJ0_coder_7d493_c l e1) (gooV mB255 mB256 mB257 mB258 mB252) rfl (by decide +kernel) rfl ⟨Nat.le_of_ble_eq_true rfl, Nat.le_of_ble_eq_true rfl⟩ ⟨Nat.le_of_ble_eq_true rfl, Nat.le_of_ble_eq_true rfl⟩ hl.1 rfl (Nat.le_of_ble_eq_true rfl) dJ0_length_8abf5_6 (fun w2 H locs Z => ?_)
  obtain rfl : (0 : Int32) = r3 := Option.some.inj (zr3.symm.trans e1)
  refine lv_ishr hx hb dJ0_length_8abf5_9 ?_
  obtain rfl := Option.some.inj hm
  exact kI _ _ _ _ dJ0_length_8abf5_10 Z (vp_nar_int _)
theorem cJ0_length_8abf5_c (l : Launch) {G : LY} {g : Mem} {r : Int32} (hm : sJ0_length_8abf5 g = some r) : cI l yJ0_length_8abf5 wmJ0_length_8abf5 1 20 .int wC G [.ref (G.1 200)] g r g :=
  mk_cI sameC (by decide +kernel) rfl (Nat.le_of_ble_eq_true rfl) (fun p e s m args below meth c A Q ls X kI hl Z => bJ0_length_8abf5_0 X kI  _ _ ls Z hl hm)
abbrev wmJ1_canEncode_9a6ad : List Cond := Cond.code yJ1_canEncode_9a6ad cJ1_canEncode_9a6ad 1 (some .boolean) :: wA0
set_option maxHeartbeats 4000000 in
set_option maxRecDepth 100000 in
theorem bJ1_canEncode_9a6ad_0 (X : gC p s m args meth c cJ1_canEncode_9a6ad 1 wmJ1_canEncode_9a6ad yJ1_canEncode_9a6ad.cls (some .boolean) G A) {g : Mem} {r : Int32} (kI : ∀ (pc : Nat) (ls : Array Slot) (H : Heap) (locs : List Loc), decode cJ1_canEncode_9a6ad pc = .ok (.ireturn, 1) → WS wC G g A s.heap H locs → narrow .boolean (.int r) = .int r → W p l e { frames := 0, cells := 0, slots := 0, locals := 0 } s m args below meth c H locs 0 0 Q (F0 m pc ls [.int r])) : ∀ (x0 : Int32) (H : Heap) (locs : List Loc) (ls : Array Slot), WS wC G g A s.heap H locs → lv_has ls 1 [(0, .int x0)] → sJ1_canEncode_9a6ad g x0 = some r → W p l e { frames := 0, cells := 0, slots := 0, locals := 0 } s m args below meth c H locs 0 0 Q (F0 m 0 ls []) := by
  have hx := X.1
  have hb := X.2.1
  intro x0 H locs ls Z hl hm
  unfold sJ1_canEncode_9a6ad at hm
  refine lv_iload_n hx hb dJ1_canEncode_9a6ad_0 rfl (lv_at hl 0 rfl) ?_
  refine lv_if_lt (tgt := 15) hx hb dJ1_canEncode_9a6ad_1 (by decide) (fun c1 => ?_) (fun c1 => ?_)
  · replace hm := (if_pos c1).symm.trans hm
    refine lv_iconst (v := 0) hx hb dJ1_canEncode_9a6ad_15 (by decide) ?_
    obtain rfl := Option.some.inj hm
    exact kI _ _ _ _ dJ1_canEncode_9a6ad_16 Z nb0
  · replace hm := (if_neg c1).symm.trans hm
    refine lv_iload_n hx hb dJ1_canEncode_9a6ad_4 rfl (lv_at hl 0 rfl) ?_
    refine lv_sipush (v := 255) hx hb dJ1_canEncode_9a6ad_5 (by decide) ?_
    refine lv_icmp_gt (tgt := 15) hx hb dJ1_canEncode_9a6ad_8 (by decide) (fun c2 => ?_) (fun c2 => ?_)
    · replace hm := (if_pos c2).symm.trans hm
      refine lv_iconst (v := 0) hx hb dJ1_canEncode_9a6ad_15 (by decide) ?_
      obtain rfl := Option.some.inj hm
      exact kI _ _ _ _ dJ1_canEncode_9a6ad_16 Z nb0
    · replace hm := (if_neg c2).symm.trans hm
      refine lv_iconst (v := 1) hx hb dJ1_canEncode_9a6ad_11 (by decide) ?_
      refine lv_goto (tgt := 16) hx hb dJ1_canEncode_9a6ad_12 (by decide) ?_
      obtain rfl := Option.some.inj hm
      exact kI _ _ _ _ dJ1_canEncode_9a6ad_16 Z nb1
theorem cJ1_canEncode_9a6ad_c (l : Launch) {G : LY} {g : Mem} {x0 : Int32} {r : Int32} (hm : sJ1_canEncode_9a6ad g x0 = some r) : cI l yJ1_canEncode_9a6ad wmJ1_canEncode_9a6ad 0 0 .boolean wC G [.int x0] g r g :=
  mk_cI sameC (by decide +kernel) rfl (Nat.le_of_ble_eq_true rfl) (fun p e s m args below meth c A Q ls X kI hl Z => bJ1_canEncode_9a6ad_0 X kI x0 _ _ ls Z hl hm)
abbrev wmJ1_indexOfChar_4cfef : List Cond := Cond.code yJ1_indexOfChar_4cfef cJ1_indexOfChar_4cfef 6 (some .int) :: wA0
set_option maxHeartbeats 4000000 in
set_option maxRecDepth 100000 in
theorem bJ1_indexOfChar_4cfef_7 (X : gC p s m args meth c cJ1_indexOfChar_4cfef 6 wmJ1_indexOfChar_4cfef yJ1_indexOfChar_4cfef.cls (some .int) G A) {n : Nat} {g : Mem} {r : Int32} (kI : ∀ (pc : Nat) (ls : Array Slot) (H : Heap) (locs : List Loc), decode cJ1_indexOfChar_4cfef pc = .ok (.ireturn, 1) → WS wC G g A s.heap H locs → narrow .int (.int r) = .int r → W p l e { frames := 0, cells := 0, slots := 0, locals := 0 } s m args below meth c H locs 0 0 Q (F0 m pc ls [.int r])) : ∀ (f : Nat), ∀ (x3 : Int32) (x4 : Int32) (x5 : Int32) (H : Heap) (locs : List Loc) (ls : Array Slot), WS wC G g A s.heap H locs → lv_has ls 6 [(0, .ref (G.1 201)), (3, .int x3), (4, .int x4), (5, .int x5)] → sJ1_indexOfChar_4cfef_7 n g f x3 x4 x5 = some r → W p l e { frames := 0, cells := 0, slots := 0, locals := 0 } s m args below meth c H locs 0 0 Q (F0 m 7 ls []) := by
  have hx := X.1
  have hb := X.2.1
  intro f
  induction f with
  | zero =>
    intro x3 x4 x5 H locs ls Z hl hm
    cases hm
  | succ f ih =>
    intro x3 x4 x5 H locs ls Z hl hm
    unfold sJ1_indexOfChar_4cfef_7 at hm
    refine lv_iload hx hb dJ1_indexOfChar_4cfef_7 (lv_at hl 3 rfl) ?_
    refine lv_iload_n hx hb dJ1_indexOfChar_4cfef_9 rfl (lv_at hl 1 rfl) ?_
    refine lv_icmp_ge (tgt := 31) hx hb dJ1_indexOfChar_4cfef_10 (by decide) (fun c1 => ?_) (fun c1 => ?_)
    · replace hm := (if_pos c1).symm.trans hm
      refine lv_iconst (v := (-1)) hx hb dJ1_indexOfChar_4cfef_31 (by decide) ?_
      obtain rfl := Option.some.inj hm
      exact kI _ _ _ _ dJ1_indexOfChar_4cfef_32 Z (vp_nar_int _)
    · replace hm := (if_neg c1).symm.trans hm
      refine lv_aload_n hx hb dJ1_indexOfChar_4cfef_13 rfl (lv_at hl 0 rfl) ?_
      refine lv_iload hx hb dJ1_indexOfChar_4cfef_14 (lv_at hl 3 rfl) ?_
      obtain ⟨b2, hm⟩ := sIdx_some hm
      refine g_sbyt X Z b2 dJ1_indexOfChar_4cfef_16 ?_
      refine lv_iload hx hb dJ1_indexOfChar_4cfef_17 (lv_at hl 2 rfl) ?_
      refine lv_icmp_ne (tgt := 25) hx hb dJ1_indexOfChar_4cfef_19 (by decide) (fun c3 => ?_) (fun c3 => ?_)
      · replace hm := (if_neg c3).symm.trans hm
        refine lv_iinc (v := (x5 + (1 : Int32))) (lv' := [(5, .int (x5 + (1 : Int32))), (0, .ref (G.1 201)), (3, .int x3), (4, .int x4)]) hx hb dJ1_indexOfChar_4cfef_25 hl (k := 3) rfl rfl (by decide) rfl (fun ls hl => ?_)
        refine lv_goto (tgt := 7) hx hb dJ1_indexOfChar_4cfef_28 (by decide) ?_
        exact ih x3 x4 (x5 + (1 : Int32)) _ _ _ Z (lv_sub hl [1, 2, 3, 0] rfl) hm
      · replace hm := (if_pos c3).symm.trans hm
        refine lv_iload hx hb dJ1_indexOfChar_4cfef_22 (lv_at hl 3 rfl) ?_
        obtain rfl := Option.some.inj hm
        exact kI _ _ _ _ dJ1_indexOfChar_4cfef_24 Z (vp_nar_int _)
set_option maxHeartbeats 4000000 in
set_option maxRecDepth 100000 in
theorem bJ1_indexOfChar_4cfef_0 (X : gC p s m args meth c cJ1_indexOfChar_4cfef 6 wmJ1_indexOfChar_4cfef yJ1_indexOfChar_4cfef.cls (some .int) G A) {n : Nat} {g : Mem} {r : Int32} (kI : ∀ (pc : Nat) (ls : Array Slot) (H : Heap) (locs : List Loc), decode cJ1_indexOfChar_4cfef pc = .ok (.ireturn, 1) → WS wC G g A s.heap H locs → narrow .int (.int r) = .int r → W p l e { frames := 0, cells := 0, slots := 0, locals := 0 } s m args below meth c H locs 0 0 Q (F0 m pc ls [.int r])) : ∀ (x1 : Int32) (x2 : Int32) (x3 : Int32) (H : Heap) (locs : List Loc) (ls : Array Slot), WS wC G g A s.heap H locs → lv_has ls 6 [(0, .ref (G.1 201)), (1, .int x1), (2, .int x2), (3, .int x3)] → sJ1_indexOfChar_4cfef n g x1 x2 x3 = some r → W p l e { frames := 0, cells := 0, slots := 0, locals := 0 } s m args below meth c H locs 0 0 Q (F0 m 0 ls []) := by
  have hx := X.1
  have hb := X.2.1
  intro x1 x2 x3 H locs ls Z hl hm
  unfold sJ1_indexOfChar_4cfef at hm
  refine lv_iload_n hx hb dJ1_indexOfChar_4cfef_0 rfl (lv_at hl 1 rfl) ?_
  refine lv_i2b hx hb dJ1_indexOfChar_4cfef_1 rfl ?_
  refine lv_istore (lv' := [(4, .int x1.toInt8.toInt32), (0, .ref (G.1 201)), (1, .int x1), (2, .int x2), (3, .int x3)]) hx hb dJ1_indexOfChar_4cfef_2 hl (by decide) rfl (fun ls hl => ?_)
  refine lv_iload_n hx hb dJ1_indexOfChar_4cfef_4 rfl (lv_at hl 3 rfl) ?_
  refine lv_istore (lv' := [(5, .int x2), (4, .int x1.toInt8.toInt32), (0, .ref (G.1 201)), (1, .int x1), (2, .int x2), (3, .int x3)]) hx hb dJ1_indexOfChar_4cfef_5 hl (by decide) rfl (fun ls hl => ?_)
  exact bJ1_indexOfChar_4cfef_7 X kI n x3 x1.toInt8.toInt32 x2 _ _ _ Z (lv_sub hl [2, 5, 1, 0] rfl) hm
theorem cJ1_indexOfChar_4cfef_c (l : Launch) {G : LY} {g : Mem} {n : Nat} {x1 : Int32} {x2 : Int32} {x3 : Int32} {r : Int32} (hm : sJ1_indexOfChar_4cfef n g x1 x2 x3 = some r) : cI l yJ1_indexOfChar_4cfef wmJ1_indexOfChar_4cfef 0 0 .int wC G [.ref (G.1 201), .int x1, .int x2, .int x3] g r g :=
  mk_cI sameC (by decide +kernel) rfl (Nat.le_of_ble_eq_true rfl) (fun p e s m args below meth c A Q ls X kI hl Z => bJ1_indexOfChar_4cfef_0 X kI x1 x2 x3 _ _ ls Z hl hm)
abbrev wmJ1_indexOf_4cfef : List Cond := Cond.code yJ1_indexOf_4cfef cJ1_indexOf_4cfef 4 (some .int) :: wA0
set_option maxHeartbeats 4000000 in
set_option maxRecDepth 100000 in
theorem bJ1_indexOf_4cfef_0 (X : gC p s m args meth c cJ1_indexOf_4cfef 4 wmJ1_indexOf_4cfef yJ1_indexOf_4cfef.cls (some .int) G A) {n : Nat} {g : Mem} {r : Int32} (kI : ∀ (pc : Nat) (ls : Array Slot) (H : Heap) (locs : List Loc), decode cJ1_indexOf_4cfef pc = .ok (.ireturn, 1) → WS wC G g A s.heap H locs → narrow .int (.int r) = .int r → W p l e { frames := 1, cells := 0, slots := 0, locals := 25 } s m args below meth c H locs 0 0 Q (F0 m pc ls [.int r])) : ∀ (x1 : Int32) (x2 : Int32) (x3 : Int32) (H : Heap) (locs : List Loc) (ls : Array Slot), WS wC G g A s.heap H locs → lv_has ls 4 [(0, .ref (G.1 201)), (1, .int x1), (2, .int x2), (3, .int x3)] → sJ1_indexOf_4cfef n g x1 x2 x3 = some r → W p l e { frames := 1, cells := 0, slots := 0, locals := 25 } s m args below meth c H locs 0 0 Q (F0 m 0 ls []) := by
  have hx := X.1
  have hb := X.2.1
  intro x1 x2 x3 H locs ls Z hl hm
  unfold sJ1_indexOf_4cfef at hm
  refine lv_iload_n hx hb dJ1_indexOf_4cfef_0 rfl (lv_at hl 1 rfl) ?_
  obtain ⟨r3, e1, hm⟩ := sBi_some hm
  refine g_callSI (n := 1) (As := [.int x1]) (rest := []) sameC X Z (cJ1_canEncode_9a6ad_c l e1) (gooS mB264 mB265 mB266 mB259) rfl (by decide +kernel) rfl ⟨Nat.le_of_ble_eq_true rfl, Nat.le_of_ble_eq_true rfl⟩ ⟨Nat.le_of_ble_eq_true rfl, Nat.le_of_ble_eq_true rfl⟩ hl.1 rfl (Nat.le_of_ble_eq_true rfl) dJ1_indexOf_4cfef_1 (fun w2 H locs Z => ?_)
  refine lv_if_ne (tgt := 9) hx hb dJ1_indexOf_4cfef_4 (by decide) (fun c4 => ?_) (fun c4 => ?_)
  · replace hm := (if_neg c4).symm.trans hm
    refine lv_iload_n hx hb dJ1_indexOf_4cfef_9 rfl (lv_at hl 2 rfl) ?_
    refine lv_iconst (v := 0) hx hb dJ1_indexOf_4cfef_10 (by decide) ?_
    refine g_max X hl.1 (List.mem_cons_of_mem _ mB262) (List.mem_cons_of_mem _ mB169) (List.mem_cons_of_mem _ mB78) (List.mem_cons_of_mem _ mB170) ⟨Nat.le_of_ble_eq_true rfl, Nat.le_of_ble_eq_true rfl, Nat.le_of_ble_eq_true rfl, Nat.le_of_ble_eq_true rfl⟩ dJ1_indexOf_4cfef_11 ?_
    refine lv_istore_n (lv' := [(2, .int (sMax x2 (0 : Int32))), (0, .ref (G.1 201)), (1, .int x1), (3, .int x3)]) hx hb dJ1_indexOf_4cfef_14 rfl hl (by decide) rfl (fun ls hl => ?_)
    refine lv_iload_n hx hb dJ1_indexOf_4cfef_15 rfl (lv_at hl 3 rfl) ?_
    refine lv_aload_n hx hb dJ1_indexOf_4cfef_16 rfl (lv_at hl 1 rfl) ?_
    refine g_slen X Z dJ1_indexOf_4cfef_17 ?_
    refine g_min X hl.1 (List.mem_cons_of_mem _ mB263) (List.mem_cons_of_mem _ mB77) (List.mem_cons_of_mem _ mB78) (List.mem_cons_of_mem _ mB79) ⟨Nat.le_of_ble_eq_true rfl, Nat.le_of_ble_eq_true rfl, Nat.le_of_ble_eq_true rfl, Nat.le_of_ble_eq_true rfl⟩ dJ1_indexOf_4cfef_18 ?_
    refine lv_istore_n (lv' := [(3, .int (sMin x3 (7 : Int32))), (2, .int (sMax x2 (0 : Int32))), (0, .ref (G.1 201)), (1, .int x1)]) hx hb dJ1_indexOf_4cfef_21 rfl hl (by decide) rfl (fun ls hl => ?_)
    refine lv_iload_n hx hb dJ1_indexOf_4cfef_22 rfl (lv_at hl 1 rfl) ?_
    refine lv_iload_n hx hb dJ1_indexOf_4cfef_23 rfl (lv_at hl 0 rfl) ?_
    refine lv_icmp_lt (tgt := 29) hx hb dJ1_indexOf_4cfef_24 (by decide) (fun c5 => ?_) (fun c5 => ?_)
    · replace hm := (if_pos c5).symm.trans hm
      refine lv_aload_n hx hb dJ1_indexOf_4cfef_29 rfl (lv_at hl 2 rfl) ?_
      refine lv_iload_n hx hb dJ1_indexOf_4cfef_30 rfl (lv_at hl 3 rfl) ?_
      refine lv_iload_n hx hb dJ1_indexOf_4cfef_31 rfl (lv_at hl 1 rfl) ?_
      refine lv_iload_n hx hb dJ1_indexOf_4cfef_32 rfl (lv_at hl 0 rfl) ?_
      obtain ⟨r8, e6, hm⟩ := sBi_some hm
      refine g_callSI (n := 4) (As := [.ref (G.1 201), .int x1, .int (sMax x2 (0 : Int32)), .int (sMin x3 (7 : Int32))]) (rest := []) sameC X Z (cJ1_indexOfChar_4cfef_c l e6) (gooS mB267 mB268 mB266 mB260) rfl (by decide +kernel) rfl ⟨Nat.le_of_ble_eq_true rfl, Nat.le_of_ble_eq_true rfl⟩ ⟨Nat.le_of_ble_eq_true rfl, Nat.le_of_ble_eq_true rfl⟩ hl.1 rfl (Nat.le_of_ble_eq_true rfl) dJ1_indexOf_4cfef_33 (fun w7 H locs Z => ?_)
      obtain rfl := Option.some.inj hm
      exact kI _ _ _ _ dJ1_indexOf_4cfef_36 Z (vp_nar_int _)
    · replace hm := (if_neg c5).symm.trans hm
      refine lv_iconst (v := (-1)) hx hb dJ1_indexOf_4cfef_27 (by decide) ?_
      obtain rfl := Option.some.inj hm
      exact kI _ _ _ _ dJ1_indexOf_4cfef_28 Z (vp_nar_int _)
  · replace hm := (if_pos c4).symm.trans hm
    refine lv_iconst (v := (-1)) hx hb dJ1_indexOf_4cfef_7 (by decide) ?_
    obtain rfl := Option.some.inj hm
    exact kI _ _ _ _ dJ1_indexOf_4cfef_8 Z (vp_nar_int _)
theorem cJ1_indexOf_4cfef_c (l : Launch) {G : LY} {g : Mem} {n : Nat} {x1 : Int32} {x2 : Int32} {x3 : Int32} {r : Int32} (hm : sJ1_indexOf_4cfef n g x1 x2 x3 = some r) : cI l yJ1_indexOf_4cfef wmJ1_indexOf_4cfef 1 25 .int wC G [.ref (G.1 201), .int x1, .int x2, .int x3] g r g :=
  mk_cI sameC (by decide +kernel) rfl (Nat.le_of_ble_eq_true rfl) (fun p e s m args below meth c A Q ls X kI hl Z => bJ1_indexOf_4cfef_0 X kI x1 x2 x3 _ _ ls Z hl hm)
abbrev wmJ0_indexOf_7cf53 : List Cond := Cond.code yJ0_indexOf_7cf53 cJ0_indexOf_7cf53 3 (some .int) :: wA0
set_option maxHeartbeats 4000000 in
set_option maxRecDepth 100000 in
theorem bJ0_indexOf_7cf53_0 (X : gC p s m args meth c cJ0_indexOf_7cf53 3 wmJ0_indexOf_7cf53 yJ0_indexOf_7cf53.cls (some .int) G A) {n : Nat} {g : Mem} {r : Int32} (kI : ∀ (pc : Nat) (ls : Array Slot) (H : Heap) (locs : List Loc), decode cJ0_indexOf_7cf53 pc = .ok (.ireturn, 1) → WS wC G g A s.heap H locs → narrow .int (.int r) = .int r → W p l e { frames := 2, cells := 0, slots := 0, locals := 48 } s m args below meth c H locs 0 0 Q (F0 m pc ls [.int r])) : ∀ (x1 : Int32) (x2 : Int32) (H : Heap) (locs : List Loc) (ls : Array Slot), WS wC G g A s.heap H locs → lv_has ls 3 [(0, .ref (G.1 200)), (1, .int x1), (2, .int x2)] → sJ0_indexOf_7cf53 n g x1 x2 = some r → W p l e { frames := 2, cells := 0, slots := 0, locals := 48 } s m args below meth c H locs 0 0 Q (F0 m 0 ls []) := by
  have hx := X.1
  have hb := X.2.1
  intro x1 x2 H locs ls Z hl hm
  unfold sJ0_indexOf_7cf53 at hm
  refine lv_aload_n hx hb dJ0_indexOf_7cf53_0 rfl (lv_at hl 0 rfl) ?_
  obtain ⟨r3, e1, hm⟩ := sBi_some hm
  have zr3 : sJ0_isLatin1_aae02 g = some (1 : Int32) := rfl
  refine g_callStr (n := 0) (As := []) (rest := []) sameC X Z (cJ0_isLatin1_aae02_c l e1) (gooV mB315 mB316 mB317 mB258 mB249) rfl (by decide +kernel) rfl ⟨Nat.le_of_ble_eq_true rfl, Nat.le_of_ble_eq_true rfl⟩ ⟨Nat.le_of_ble_eq_true rfl, Nat.le_of_ble_eq_true rfl⟩ hl.1 rfl (Nat.le_of_ble_eq_true rfl) dJ0_indexOf_7cf53_1 (fun w2 H locs Z => ?_)
  obtain rfl : (1 : Int32) = r3 := Option.some.inj (zr3.symm.trans e1)
  refine lv_if_eq (tgt := 23) hx hb dJ0_indexOf_7cf53_4 (by decide) (fun c4 => ?_) (fun c4 => ?_)
  · first | exact absurd c4 (by decide) | exact absurd (by decide) c4
  refine lv_aload_n hx hb dJ0_indexOf_7cf53_7 rfl (lv_at hl 0 rfl) ?_
  refine g_sval X Z (List.mem_cons_of_mem _ mB254) dJ0_indexOf_7cf53_8 ?_
  refine lv_iload_n hx hb dJ0_indexOf_7cf53_11 rfl (lv_at hl 1 rfl) ?_
  refine lv_iload_n hx hb dJ0_indexOf_7cf53_12 rfl (lv_at hl 2 rfl) ?_
  refine lv_aload_n hx hb dJ0_indexOf_7cf53_13 rfl (lv_at hl 0 rfl) ?_
  obtain ⟨r7, e5, hm⟩ := sBi_some hm
  have zr7 : sJ0_length_8abf5 g = some (7 : Int32) := rfl
  refine g_callStr (n := 0) (As := []) (rest := [.int x2, .int x1, .ref (G.1 201)]) sameC X Z (cJ0_length_8abf5_c l e5) (gooV mB318 mB319 mB320 mB258 mB253) rfl (by decide +kernel) rfl ⟨Nat.le_of_ble_eq_true rfl, Nat.le_of_ble_eq_true rfl⟩ ⟨Nat.le_of_ble_eq_true rfl, Nat.le_of_ble_eq_true rfl⟩ hl.1 rfl (Nat.le_of_ble_eq_true rfl) dJ0_indexOf_7cf53_14 (fun w6 H locs Z => ?_)
  obtain rfl : (7 : Int32) = r7 := Option.some.inj (zr7.symm.trans e5)
  obtain ⟨r10, e8, hm⟩ := sBi_some hm
  refine g_callSI (n := 4) (As := [.ref (G.1 201), .int x1, .int x2, .int 7]) (rest := []) sameC X Z (cJ1_indexOf_4cfef_c l e8) (gooS mB321 mB322 mB266 mB261) rfl (by decide +kernel) rfl ⟨Nat.le_of_ble_eq_true rfl, Nat.le_of_ble_eq_true rfl⟩ ⟨Nat.le_of_ble_eq_true rfl, Nat.le_of_ble_eq_true rfl⟩ hl.1 rfl (Nat.le_of_ble_eq_true rfl) dJ0_indexOf_7cf53_17 (fun w9 H locs Z => ?_)
  refine lv_goto (tgt := 36) hx hb dJ0_indexOf_7cf53_20 (by decide) ?_
  obtain rfl := Option.some.inj hm
  exact kI _ _ _ _ dJ0_indexOf_7cf53_36 Z (vp_nar_int _)
theorem cJ0_indexOf_7cf53_c (l : Launch) {G : LY} {g : Mem} {n : Nat} {x1 : Int32} {x2 : Int32} {r : Int32} (hm : sJ0_indexOf_7cf53 n g x1 x2 = some r) : cI l yJ0_indexOf_7cf53 wmJ0_indexOf_7cf53 2 48 .int wC G [.ref (G.1 200), .int x1, .int x2] g r g :=
  mk_cI sameC (by decide +kernel) rfl (Nat.le_of_ble_eq_true rfl) (fun p e s m args below meth c A Q ls X kI hl Z => bJ0_indexOf_7cf53_0 X kI x1 x2 _ _ ls Z hl hm)
abbrev wmJ0_indexOf_0f7a4 : List Cond := Cond.code yJ0_indexOf_0f7a4 cJ0_indexOf_0f7a4 2 (some .int) :: wA0
set_option maxHeartbeats 4000000 in
set_option maxRecDepth 100000 in
theorem bJ0_indexOf_0f7a4_0 (X : gC p s m args meth c cJ0_indexOf_0f7a4 2 wmJ0_indexOf_0f7a4 yJ0_indexOf_0f7a4.cls (some .int) G A) {n : Nat} {g : Mem} {r : Int32} (kI : ∀ (pc : Nat) (ls : Array Slot) (H : Heap) (locs : List Loc), decode cJ0_indexOf_0f7a4 pc = .ok (.ireturn, 1) → WS wC G g A s.heap H locs → narrow .int (.int r) = .int r → W p l e { frames := 3, cells := 0, slots := 0, locals := 70 } s m args below meth c H locs 0 0 Q (F0 m pc ls [.int r])) : ∀ (x1 : Int32) (H : Heap) (locs : List Loc) (ls : Array Slot), WS wC G g A s.heap H locs → lv_has ls 2 [(0, .ref (G.1 200)), (1, .int x1)] → sJ0_indexOf_0f7a4 n g x1 = some r → W p l e { frames := 3, cells := 0, slots := 0, locals := 70 } s m args below meth c H locs 0 0 Q (F0 m 0 ls []) := by
  have hx := X.1
  have hb := X.2.1
  intro x1 H locs ls Z hl hm
  unfold sJ0_indexOf_0f7a4 at hm
  refine lv_aload_n hx hb dJ0_indexOf_0f7a4_0 rfl (lv_at hl 0 rfl) ?_
  refine lv_iload_n hx hb dJ0_indexOf_0f7a4_1 rfl (lv_at hl 1 rfl) ?_
  refine lv_iconst (v := 0) hx hb dJ0_indexOf_0f7a4_2 (by decide) ?_
  obtain ⟨r3, e1, hm⟩ := sBi_some hm
  refine g_callStr (n := 2) (As := [.int x1, .int 0]) (rest := []) sameC X Z (cJ0_indexOf_7cf53_c l e1) (gooV mB326 mB327 mB328 mB258 mB325) rfl (by decide +kernel) rfl ⟨Nat.le_of_ble_eq_true rfl, Nat.le_of_ble_eq_true rfl⟩ ⟨Nat.le_of_ble_eq_true rfl, Nat.le_of_ble_eq_true rfl⟩ hl.1 rfl (Nat.le_of_ble_eq_true rfl) dJ0_indexOf_0f7a4_3 (fun w2 H locs Z => ?_)
  obtain rfl := Option.some.inj hm
  exact kI _ _ _ _ dJ0_indexOf_0f7a4_6 Z (vp_nar_int _)
theorem cJ0_indexOf_0f7a4_c (l : Launch) {G : LY} {g : Mem} {n : Nat} {x1 : Int32} {r : Int32} (hm : sJ0_indexOf_0f7a4 n g x1 = some r) : cI l yJ0_indexOf_0f7a4 wmJ0_indexOf_0f7a4 3 70 .int wC G [.ref (G.1 200), .int x1] g r g :=
  mk_cI sameC (by decide +kernel) rfl (Nat.le_of_ble_eq_true rfl) (fun p e s m args below meth c A Q ls X kI hl Z => bJ0_indexOf_0f7a4_0 X kI x1 _ _ ls Z hl hm)
end GW
