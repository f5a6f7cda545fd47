section GW
variable {Qc : Array Value → State → Outcome → State → Prop} {XC : String → State → State → Prop} {p : Program} {l : Launch} {e : Env} {s : State} {m : MethodId} {args : Array Value} {below : List Frame} {meth : Method} {c : Code} {Q : State → Prop} {G : LY} {A : Nat → Prop}
abbrev wmL_low : List Cond := Cond.code yL_low cL_low 2 (some .int) :: wA0
set_option maxHeartbeats 4000000 in
set_option maxRecDepth 100000 in
theorem pL_low_0 (X : gC p s m args meth c cL_low 2 wmL_low yL_low.cls (some .int) G A) {g : Mem} {r : Int32} (kI : ∀ (pc : Nat) (ls : Array Slot) (H : Heap) (locs : List Loc), decode cL_low pc = .ok (.ireturn, 1) → WS wC G g A s.heap H locs → narrow .int (.int r) = .int r → W p l e { frames := 0, cells := 0, slots := 0, locals := 0 } s m args below meth c H locs 0 0 Q (F0 m pc ls [.int r])) : ∀ (x0 : Int32) (x1 : Int32) (H : Heap) (locs : List Loc) (ls : Array Slot), WS wC G g A s.heap H locs → lv_has ls 2 [(0, .int x0), (1, .int x1)] → sL_low g x0 x1 = some r → W p l e { frames := 0, cells := 0, slots := 0, locals := 0 } s m args below meth c H locs 0 0 Q (F0 m 0 ls []) := by
  have hx := X.1
  have hb := X.2.1
  intro x0 x1 H locs ls Z hl hm
  unfold sL_low at hm
  refine lv_iload_n hx hb dL_low_0 rfl (lv_at hl 0 rfl) ?_
  refine lv_ldc (v := 2147483647) hx hb X.2.2.2.1 (X.2.2.2.2.1 _ (List.mem_cons_of_mem _ mB438)) dL_low_1 ?_
  refine lv_iand hx hb dL_low_3 ?_
  refine lv_iload_n hx hb dL_low_4 rfl (lv_at hl 1 rfl) ?_
  by_cases c1 : x1 = 0
  · replace hm := (if_pos c1).symm.trans hm
    cases hm
  replace hm := (if_neg c1).symm.trans hm
  refine lv_irem hx hb dL_low_5 c1 ?_
  obtain rfl := Option.some.inj hm
  exact kI _ _ _ _ dL_low_6 Z (vp_nar_int _)
theorem cL_low_c (l : Launch) {G : LY} {g : Mem} {x0 : Int32} {x1 : Int32} {r : Int32} (hm : sL_low g x0 x1 = some r) : cI l yL_low wmL_low 0 0 .int wC G [.int x0, .int x1] g r g :=
  mk_cI sameC (by decide +kernel) rfl (Nat.le_of_ble_eq_true rfl) (fun p e s m args below meth c A Q ls X kI hl Z => pL_low_0 X kI x0 x1 _ _ ls Z hl hm)
abbrev wmL_newestBelow : List Cond := Cond.code yL_newestBelow cL_newestBelow 6 (some .int) :: wA0
set_option maxHeartbeats 4000000 in
set_option maxRecDepth 100000 in
theorem pL_newestBelow_12 (X : gC p s m args meth c cL_newestBelow 6 wmL_newestBelow yL_newestBelow.cls (some .int) G A) {n : Nat} {g : Mem} {r : Int32} (kI : ∀ (pc : Nat) (ls : Array Slot) (H : Heap) (locs : List Loc), decode cL_newestBelow pc = .ok (.ireturn, 1) → WS wC G g A s.heap H locs → narrow .int (.int r) = .int r → W p l e { frames := 8, cells := 0, slots := 0, locals := 133 } s m args below meth c H locs 0 0 Q (F0 m pc ls [.int r])) : ∀ (f : Nat), ∀ (x1 : Int32) (x2 : Int32) (x3 : Int32) (x4 : Int32) (x5 : Int32) (H : Heap) (locs : List Loc) (ls : Array Slot), WS wC G g A s.heap H locs → lv_has ls 6 [(0, .ref (G.1 160)), (1, .int x1), (2, .int x2), (3, .int x3), (4, .int x4), (5, .int x5)] → sL_newestBelow_12 n g f x1 x2 x3 x4 x5 = some r → W p l e { frames := 8, cells := 0, slots := 0, locals := 133 } s m args below meth c H locs 0 0 Q (F0 m 12 ls []) := by
  have hx := X.1
  have hb := X.2.1
  intro f
  induction f with
  | zero =>
    intro x1 x2 x3 x4 x5 H locs ls Z hl hm
    cases hm
  | succ f ih =>
    intro x1 x2 x3 x4 x5 H locs ls Z hl hm
    unfold sL_newestBelow_12 at hm
    refine lv_iload hx hb dL_newestBelow_12 (lv_at hl 5 rfl) ?_
    refine lv_iload_n hx hb dL_newestBelow_14 rfl (lv_at hl 3 rfl) ?_
    refine lv_icmp_ge (tgt := 51) hx hb dL_newestBelow_15 (by decide) (fun c1 => ?_) (fun c1 => ?_)
    · replace hm := (if_pos c1).symm.trans hm
      refine lv_iload hx hb dL_newestBelow_51 (lv_at hl 4 rfl) ?_
      obtain rfl := Option.some.inj hm
      exact kI _ _ _ _ dL_newestBelow_53 Z (vp_nar_int _)
    · replace hm := (if_neg c1).symm.trans hm
      refine lv_iload hx hb dL_newestBelow_18 (lv_at hl 5 rfl) ?_
      refine lv_bipush (v := 41) hx hb dL_newestBelow_20 (by decide) ?_
      refine lv_icmp_ge (tgt := 51) hx hb dL_newestBelow_22 (by decide) (fun c2 => ?_) (fun c2 => ?_)
      · replace hm := (if_pos c2).symm.trans hm
        refine lv_iload hx hb dL_newestBelow_51 (lv_at hl 4 rfl) ?_
        obtain rfl := Option.some.inj hm
        exact kI _ _ _ _ dL_newestBelow_53 Z (vp_nar_int _)
      · replace hm := (if_neg c2).symm.trans hm
        refine lv_aload_n hx hb dL_newestBelow_25 rfl (lv_at hl 0 rfl) ?_
        refine lv_iload_n hx hb dL_newestBelow_26 rfl (lv_at hl 1 rfl) ?_
        refine lv_iload hx hb dL_newestBelow_27 (lv_at hl 5 rfl) ?_
        obtain ⟨r5, e3, hm⟩ := sOk1_some hm
        refine g_callVI (n := 2) (As := [.int x1, .int x5]) (rest := []) (r0 := r5) (g0 := g) sameC X Z (nX6_versionTimestamp_c l e3 rfl) (oX6 k160) rfl (gooV mB469 mB470 mB471 mB285 mB400) rfl (by decide +kernel) rfl ⟨Nat.le_of_ble_eq_true rfl, Nat.le_of_ble_eq_true rfl⟩ ⟨Nat.le_of_ble_eq_true rfl, Nat.le_of_ble_eq_true rfl⟩ hl.1 rfl (Nat.le_of_ble_eq_true rfl) dL_newestBelow_29 (fun w4 H locs Z => ?_)
        refine lv_iload_n hx hb dL_newestBelow_32 rfl (lv_at hl 2 rfl) ?_
        refine lv_icmp_ge (tgt := 41) hx hb dL_newestBelow_33 (by decide) (fun c6 => ?_) (fun c6 => ?_)
        · replace hm := (if_pos c6).symm.trans hm
          refine lv_iload hx hb dL_newestBelow_41 (lv_at hl 4 rfl) ?_
          refine lv_istore (lv' := [(4, .int x4), (0, .ref (G.1 160)), (1, .int x1), (2, .int x2), (3, .int x3), (5, .int x5)]) hx hb dL_newestBelow_43 hl (by decide) rfl (fun ls hl => ?_)
          refine lv_iinc (v := (x5 + (1 : Int32))) (lv' := [(5, .int (x5 + (1 : Int32))), (4, .int x4), (0, .ref (G.1 160)), (1, .int x1), (2, .int x2), (3, .int x3)]) hx hb dL_newestBelow_45 hl (k := 5) rfl rfl (by decide) rfl (fun ls hl => ?_)
          refine lv_goto (tgt := 12) hx hb dL_newestBelow_48 (by decide) ?_
          exact ih x1 x2 x3 x4 (x5 + (1 : Int32)) _ _ _ Z (lv_sub hl [2, 3, 4, 5, 1, 0] rfl) hm
        · replace hm := (if_neg c6).symm.trans hm
          refine lv_iload hx hb dL_newestBelow_36 (lv_at hl 5 rfl) ?_
          refine lv_goto (tgt := 43) hx hb dL_newestBelow_38 (by decide) ?_
          refine lv_istore (lv' := [(4, .int x5), (0, .ref (G.1 160)), (1, .int x1), (2, .int x2), (3, .int x3), (5, .int x5)]) hx hb dL_newestBelow_43 hl (by decide) rfl (fun ls hl => ?_)
          refine lv_iinc (v := (x5 + (1 : Int32))) (lv' := [(5, .int (x5 + (1 : Int32))), (4, .int x5), (0, .ref (G.1 160)), (1, .int x1), (2, .int x2), (3, .int x3)]) hx hb dL_newestBelow_45 hl (k := 5) rfl rfl (by decide) rfl (fun ls hl => ?_)
          refine lv_goto (tgt := 12) hx hb dL_newestBelow_48 (by decide) ?_
          exact ih x1 x2 x3 x5 (x5 + (1 : Int32)) _ _ _ Z (lv_sub hl [2, 3, 4, 5, 1, 0] rfl) hm
set_option maxHeartbeats 4000000 in
set_option maxRecDepth 100000 in
theorem pL_newestBelow_0 (X : gC p s m args meth c cL_newestBelow 6 wmL_newestBelow yL_newestBelow.cls (some .int) G A) {n : Nat} {g : Mem} {r : Int32} (kI : ∀ (pc : Nat) (ls : Array Slot) (H : Heap) (locs : List Loc), decode cL_newestBelow pc = .ok (.ireturn, 1) → WS wC G g A s.heap H locs → narrow .int (.int r) = .int r → W p l e { frames := 8, cells := 0, slots := 0, locals := 133 } s m args below meth c H locs 0 0 Q (F0 m pc ls [.int r])) : ∀ (x1 : Int32) (x2 : Int32) (H : Heap) (locs : List Loc) (ls : Array Slot), WS wC G g A s.heap H locs → lv_has ls 6 [(0, .ref (G.1 160)), (1, .int x1), (2, .int x2)] → sL_newestBelow n g x1 x2 = some r → W p l e { frames := 8, cells := 0, slots := 0, locals := 133 } s m args below meth c H locs 0 0 Q (F0 m 0 ls []) := by
  have hx := X.1
  have hb := X.2.1
  intro x1 x2 H locs ls Z hl hm
  unfold sL_newestBelow at hm
  refine lv_aload_n hx hb dL_newestBelow_0 rfl (lv_at hl 0 rfl) ?_
  refine lv_iload_n hx hb dL_newestBelow_1 rfl (lv_at hl 1 rfl) ?_
  obtain ⟨r3, e1, hm⟩ := sOk1_some hm
  refine g_callVI (n := 1) (As := [.int x1]) (rest := []) (r0 := r3) (g0 := g) sameC X Z (nX6_versions_c l e1 rfl) (oX6 k160) rfl (gooV mB466 mB467 mB468 mB285 mB398) rfl (by decide +kernel) rfl ⟨Nat.le_of_ble_eq_true rfl, Nat.le_of_ble_eq_true rfl⟩ ⟨Nat.le_of_ble_eq_true rfl, Nat.le_of_ble_eq_true rfl⟩ hl.1 rfl (Nat.le_of_ble_eq_true rfl) dL_newestBelow_2 (fun w2 H locs Z => ?_)
  refine lv_istore_n (lv' := [(3, .int r3), (0, .ref (G.1 160)), (1, .int x1), (2, .int x2)]) hx hb dL_newestBelow_5 rfl hl (by decide) rfl (fun ls hl => ?_)
  refine lv_iconst (v := (-1)) hx hb dL_newestBelow_6 (by decide) ?_
  refine lv_istore (lv' := [(4, .int (-1)), (3, .int r3), (0, .ref (G.1 160)), (1, .int x1), (2, .int x2)]) hx hb dL_newestBelow_7 hl (by decide) rfl (fun ls hl => ?_)
  refine lv_iconst (v := 0) hx hb dL_newestBelow_9 (by decide) ?_
  refine lv_istore (lv' := [(5, .int 0), (4, .int (-1)), (3, .int r3), (0, .ref (G.1 160)), (1, .int x1), (2, .int x2)]) hx hb dL_newestBelow_10 hl (by decide) rfl (fun ls hl => ?_)
  exact pL_newestBelow_12 X kI n x1 x2 r3 (-1 : Int32) (0 : Int32) _ _ _ Z (lv_sub hl [3, 4, 5, 2, 1, 0] rfl) hm
theorem cL_newestBelow_c (l : Launch) {G : LY} {g : Mem} {n : Nat} {x1 : Int32} {x2 : Int32} {r : Int32} (hm : sL_newestBelow n g x1 x2 = some r) : cI l yL_newestBelow wmL_newestBelow 8 133 .int wC G [.ref (G.1 160), .int x1, .int x2] g r g :=
  mk_cI sameC (by decide +kernel) rfl (Nat.le_of_ble_eq_true rfl) (fun p e s m args below meth c A Q ls X kI hl Z => pL_newestBelow_0 X kI x1 x2 _ _ ls Z hl hm)
abbrev wmL_areVersions : List Cond := Cond.code yL_areVersions cL_areVersions 6 (some .boolean) :: wA0
set_option maxHeartbeats 4000000 in
set_option maxRecDepth 100000 in
theorem pL_areVersions_50 (X : gC p s m args meth c cL_areVersions 6 wmL_areVersions yL_areVersions.cls (some .boolean) G A) {n : Nat} {g : Mem} {r : Int32} (kI : ∀ (pc : Nat) (ls : Array Slot) (H : Heap) (locs : List Loc), decode cL_areVersions pc = .ok (.ireturn, 1) → WS wC G g A s.heap H locs → narrow .boolean (.int r) = .int r → W p l e { frames := 8, cells := 0, slots := 0, locals := 133 } s m args below meth c H locs 0 0 Q (F0 m pc ls [.int r])) {rec2 : Int32 → Option (Int32)} (h2 : ∀ (x1 : Int32) (H : Heap) (locs : List Loc) (ls : Array Slot), WS wC G g A s.heap H locs → lv_has ls 6 [(0, .ref (G.1 160)), (1, .int x1)] → rec2 x1 = some r → W p l e { frames := 8, cells := 0, slots := 0, locals := 133 } s m args below meth c H locs 0 0 Q (F0 m 2 ls [])) : ∀ (f : Nat), ∀ (x1 : Int32) (x2 : Int32) (x3 : Int32) (x4 : Int32) (H : Heap) (locs : List Loc) (ls : Array Slot), WS wC G g A s.heap H locs → lv_has ls 6 [(0, .ref (G.1 160)), (1, .int x1), (2, .int x2), (3, .int x3), (4, .int x4)] → sL_areVersions_50 n g rec2 f x1 x2 x3 x4 = some r → W p l e { frames := 8, cells := 0, slots := 0, locals := 133 } s m args below meth c H locs 0 0 Q (F0 m 50 ls []) := by
  have hx := X.1
  have hb := X.2.1
  intro f
  induction f with
  | zero =>
    intro x1 x2 x3 x4 H locs ls Z hl hm
    cases hm
  | succ f ih =>
    intro x1 x2 x3 x4 H locs ls Z hl hm
    unfold sL_areVersions_50 at hm
    refine lv_iload hx hb dL_areVersions_50 (lv_at hl 4 rfl) ?_
    refine lv_iload_n hx hb dL_areVersions_52 rfl (lv_at hl 2 rfl) ?_
    refine lv_icmp_ge (tgt := 99) hx hb dL_areVersions_53 (by decide) (fun c1 => ?_) (fun c1 => ?_)
    · replace hm := (if_pos c1).symm.trans hm
      refine lv_iinc (v := (x1 + (1 : Int32))) (lv' := [(1, .int (x1 + (1 : Int32))), (0, .ref (G.1 160)), (2, .int x2), (3, .int x3), (4, .int x4)]) hx hb dL_areVersions_99 hl (k := 1) rfl rfl (by decide) rfl (fun ls hl => ?_)
      refine lv_goto (tgt := 2) hx hb dL_areVersions_102 (by decide) ?_
      exact h2 (x1 + (1 : Int32)) _ _ _ Z (lv_sub hl [1, 0] rfl) hm
    · replace hm := (if_neg c1).symm.trans hm
      refine lv_aload_n hx hb dL_areVersions_56 rfl (lv_at hl 0 rfl) ?_
      refine lv_iload_n hx hb dL_areVersions_57 rfl (lv_at hl 1 rfl) ?_
      refine lv_iload hx hb dL_areVersions_58 (lv_at hl 4 rfl) ?_
      obtain ⟨r4, e2, hm⟩ := sOk1_some hm
      refine g_callVI (n := 2) (As := [.int x1, .int x4]) (rest := []) (r0 := r4) (g0 := g) sameC X Z (nX6_versionTimestamp_c l e2 rfl) (oX6 k160) rfl (gooV mB469 mB470 mB471 mB285 mB400) rfl (by decide +kernel) rfl ⟨Nat.le_of_ble_eq_true rfl, Nat.le_of_ble_eq_true rfl⟩ ⟨Nat.le_of_ble_eq_true rfl, Nat.le_of_ble_eq_true rfl⟩ hl.1 rfl (Nat.le_of_ble_eq_true rfl) dL_areVersions_60 (fun w3 H locs Z => ?_)
      refine lv_istore (lv' := [(5, .int r4), (0, .ref (G.1 160)), (1, .int x1), (2, .int x2), (3, .int x3), (4, .int x4)]) hx hb dL_areVersions_63 hl (by decide) rfl (fun ls hl => ?_)
      refine lv_iload hx hb dL_areVersions_65 (lv_at hl 0 rfl) ?_
      refine lv_iload_n hx hb dL_areVersions_67 rfl (lv_at hl 4 rfl) ?_
      refine lv_icmp_le (tgt := 88) hx hb dL_areVersions_68 (by decide) (fun c5 => ?_) (fun c5 => ?_)
      · replace hm := (if_pos c5).symm.trans hm
        refine lv_iconst (v := 0) hx hb dL_areVersions_88 (by decide) ?_
        obtain rfl := Option.some.inj hm
        exact kI _ _ _ _ dL_areVersions_89 Z nb0
      · replace hm := (if_neg c5).symm.trans hm
        refine lv_aload_n hx hb dL_areVersions_71 rfl (lv_at hl 1 rfl) ?_
        refine lv_iload_n hx hb dL_areVersions_72 rfl (lv_at hl 2 rfl) ?_
        refine lv_iload hx hb dL_areVersions_73 (lv_at hl 0 rfl) ?_
        obtain ⟨r8, e6, hm⟩ := sOk1_some hm
        refine g_callVI (n := 2) (As := [.int x1, .int r4]) (rest := []) (r0 := r8) (g0 := g) sameC X Z (nX6_valueAt_c l e6 rfl) (oX6 k160) rfl (gooV mB472 mB473 mB474 mB285 mB401) rfl (by decide +kernel) rfl ⟨Nat.le_of_ble_eq_true rfl, Nat.le_of_ble_eq_true rfl⟩ ⟨Nat.le_of_ble_eq_true rfl, Nat.le_of_ble_eq_true rfl⟩ hl.1 rfl (Nat.le_of_ble_eq_true rfl) dL_areVersions_75 (fun w7 H locs Z => ?_)
        refine lv_aload_n hx hb dL_areVersions_78 rfl (lv_at hl 1 rfl) ?_
        refine lv_iload_n hx hb dL_areVersions_79 rfl (lv_at hl 2 rfl) ?_
        refine lv_iload hx hb dL_areVersions_80 (lv_at hl 0 rfl) ?_
        obtain ⟨r11, e9, hm⟩ := sOk1_some hm
        refine g_callVI (n := 2) (As := [.int x1, .int r4]) (rest := [.int r8]) (r0 := r11) (g0 := g) sameC X Z (nX6_replayedValueAt_c l e9 rfl) (oX6 k160) rfl (gooV mB475 mB476 mB477 mB285 mB405) rfl (by decide +kernel) rfl ⟨Nat.le_of_ble_eq_true rfl, Nat.le_of_ble_eq_true rfl⟩ ⟨Nat.le_of_ble_eq_true rfl, Nat.le_of_ble_eq_true rfl⟩ hl.1 rfl (Nat.le_of_ble_eq_true rfl) dL_areVersions_82 (fun w10 H locs Z => ?_)
        refine lv_icmp_eq (tgt := 90) hx hb dL_areVersions_85 (by decide) (fun c12 => ?_) (fun c12 => ?_)
        · replace hm := (if_pos c12).symm.trans hm
          refine lv_iload hx hb dL_areVersions_90 (lv_at hl 0 rfl) ?_
          refine lv_istore_n (lv' := [(3, .int r4), (5, .int r4), (0, .ref (G.1 160)), (1, .int x1), (2, .int x2), (4, .int x4)]) hx hb dL_areVersions_92 rfl hl (by decide) rfl (fun ls hl => ?_)
          refine lv_iinc (v := (x4 + (1 : Int32))) (lv' := [(4, .int (x4 + (1 : Int32))), (3, .int r4), (5, .int r4), (0, .ref (G.1 160)), (1, .int x1), (2, .int x2)]) hx hb dL_areVersions_93 hl (k := 5) rfl rfl (by decide) rfl (fun ls hl => ?_)
          refine lv_goto (tgt := 50) hx hb dL_areVersions_96 (by decide) ?_
          exact ih x1 x2 r4 (x4 + (1 : Int32)) _ _ _ Z (lv_sub hl [3, 4, 5, 1, 0] rfl) hm
        · replace hm := (if_neg c12).symm.trans hm
          refine lv_iconst (v := 0) hx hb dL_areVersions_88 (by decide) ?_
          obtain rfl := Option.some.inj hm
          exact kI _ _ _ _ dL_areVersions_89 Z nb0
set_option maxHeartbeats 4000000 in
set_option maxRecDepth 100000 in
theorem pL_areVersions_2 (X : gC p s m args meth c cL_areVersions 6 wmL_areVersions yL_areVersions.cls (some .boolean) G A) {n : Nat} {g : Mem} {r : Int32} (kI : ∀ (pc : Nat) (ls : Array Slot) (H : Heap) (locs : List Loc), decode cL_areVersions pc = .ok (.ireturn, 1) → WS wC G g A s.heap H locs → narrow .boolean (.int r) = .int r → W p l e { frames := 8, cells := 0, slots := 0, locals := 133 } s m args below meth c H locs 0 0 Q (F0 m pc ls [.int r])) : ∀ (f : Nat), ∀ (x1 : Int32) (H : Heap) (locs : List Loc) (ls : Array Slot), WS wC G g A s.heap H locs → lv_has ls 6 [(0, .ref (G.1 160)), (1, .int x1)] → sL_areVersions_2 n g f x1 = some r → W p l e { frames := 8, cells := 0, slots := 0, locals := 133 } s m args below meth c H locs 0 0 Q (F0 m 2 ls []) := by
  have hx := X.1
  have hb := X.2.1
  intro f
  induction f with
  | zero =>
    intro x1 H locs ls Z hl hm
    cases hm
  | succ f ih =>
    intro x1 H locs ls Z hl hm
    unfold sL_areVersions_2 at hm
    refine lv_iload_n hx hb dL_areVersions_2 rfl (lv_at hl 1 rfl) ?_
    refine lv_bipush (v := 8) hx hb dL_areVersions_3 (by decide) ?_
    refine lv_icmp_ge (tgt := 105) hx hb dL_areVersions_5 (by decide) (fun c1 => ?_) (fun c1 => ?_)
    · replace hm := (if_pos c1).symm.trans hm
      refine lv_iconst (v := 1) hx hb dL_areVersions_105 (by decide) ?_
      obtain rfl := Option.some.inj hm
      exact kI _ _ _ _ dL_areVersions_106 Z nb1
    · replace hm := (if_neg c1).symm.trans hm
      refine lv_aload_n hx hb dL_areVersions_8 rfl (lv_at hl 0 rfl) ?_
      refine lv_iload_n hx hb dL_areVersions_9 rfl (lv_at hl 1 rfl) ?_
      obtain ⟨r4, e2, hm⟩ := sOk1_some hm
      refine g_callVI (n := 1) (As := [.int x1]) (rest := []) (r0 := r4) (g0 := g) sameC X Z (nX6_versions_c l e2 rfl) (oX6 k160) rfl (gooV mB466 mB467 mB468 mB285 mB398) rfl (by decide +kernel) rfl ⟨Nat.le_of_ble_eq_true rfl, Nat.le_of_ble_eq_true rfl⟩ ⟨Nat.le_of_ble_eq_true rfl, Nat.le_of_ble_eq_true rfl⟩ hl.1 rfl (Nat.le_of_ble_eq_true rfl) dL_areVersions_10 (fun w3 H locs Z => ?_)
      refine lv_istore_n (lv' := [(2, .int r4), (0, .ref (G.1 160)), (1, .int x1)]) hx hb dL_areVersions_13 rfl hl (by decide) rfl (fun ls hl => ?_)
      refine lv_iload_n hx hb dL_areVersions_14 rfl (lv_at hl 0 rfl) ?_
      refine lv_iconst (v := 1) hx hb dL_areVersions_15 (by decide) ?_
      refine lv_icmp_lt (tgt := 43) hx hb dL_areVersions_16 (by decide) (fun c5 => ?_) (fun c5 => ?_)
      · replace hm := (if_pos c5).symm.trans hm
        refine lv_iconst (v := 0) hx hb dL_areVersions_43 (by decide) ?_
        obtain rfl := Option.some.inj hm
        exact kI _ _ _ _ dL_areVersions_44 Z nb0
      · replace hm := (if_neg c5).symm.trans hm
        refine lv_iload_n hx hb dL_areVersions_19 rfl (lv_at hl 0 rfl) ?_
        refine lv_bipush (v := 41) hx hb dL_areVersions_20 (by decide) ?_
        refine lv_icmp_gt (tgt := 43) hx hb dL_areVersions_22 (by decide) (fun c6 => ?_) (fun c6 => ?_)
        · replace hm := (if_pos c6).symm.trans hm
          refine lv_iconst (v := 0) hx hb dL_areVersions_43 (by decide) ?_
          obtain rfl := Option.some.inj hm
          exact kI _ _ _ _ dL_areVersions_44 Z nb0
        · replace hm := (if_neg c6).symm.trans hm
          refine lv_aload_n hx hb dL_areVersions_25 rfl (lv_at hl 1 rfl) ?_
          refine lv_iload_n hx hb dL_areVersions_26 rfl (lv_at hl 2 rfl) ?_
          refine lv_iconst (v := 0) hx hb dL_areVersions_27 (by decide) ?_
          obtain ⟨r9, e7, hm⟩ := sOk1_some hm
          refine g_callVI (n := 2) (As := [.int x1, .int 0]) (rest := []) (r0 := r9) (g0 := g) sameC X Z (nX6_versionTimestamp_c l e7 rfl) (oX6 k160) rfl (gooV mB469 mB470 mB471 mB285 mB400) rfl (by decide +kernel) rfl ⟨Nat.le_of_ble_eq_true rfl, Nat.le_of_ble_eq_true rfl⟩ ⟨Nat.le_of_ble_eq_true rfl, Nat.le_of_ble_eq_true rfl⟩ hl.1 rfl (Nat.le_of_ble_eq_true rfl) dL_areVersions_28 (fun w8 H locs Z => ?_)
          refine lv_if_ne (tgt := 43) hx hb dL_areVersions_31 (by decide) (fun c10 => ?_) (fun c10 => ?_)
          · replace hm := (if_neg c10).symm.trans hm
            refine lv_iconst (v := 0) hx hb dL_areVersions_43 (by decide) ?_
            obtain rfl := Option.some.inj hm
            exact kI _ _ _ _ dL_areVersions_44 Z nb0
          · replace hm := (if_pos c10).symm.trans hm
            refine lv_aload_n hx hb dL_areVersions_34 rfl (lv_at hl 1 rfl) ?_
            refine lv_iload_n hx hb dL_areVersions_35 rfl (lv_at hl 2 rfl) ?_
            refine lv_iconst (v := 0) hx hb dL_areVersions_36 (by decide) ?_
            obtain ⟨r13, e11, hm⟩ := sOk1_some hm
            refine g_callVI (n := 2) (As := [.int x1, .int 0]) (rest := []) (r0 := r13) (g0 := g) sameC X Z (nX6_valueAt_c l e11 rfl) (oX6 k160) rfl (gooV mB472 mB473 mB474 mB285 mB401) rfl (by decide +kernel) rfl ⟨Nat.le_of_ble_eq_true rfl, Nat.le_of_ble_eq_true rfl⟩ ⟨Nat.le_of_ble_eq_true rfl, Nat.le_of_ble_eq_true rfl⟩ hl.1 rfl (Nat.le_of_ble_eq_true rfl) dL_areVersions_37 (fun w12 H locs Z => ?_)
            refine lv_if_eq (tgt := 45) hx hb dL_areVersions_40 (by decide) (fun c14 => ?_) (fun c14 => ?_)
            · replace hm := (if_pos c14).symm.trans hm
              refine lv_iconst (v := (-1)) hx hb dL_areVersions_45 (by decide) ?_
              refine lv_istore_n (lv' := [(3, .int (-1)), (2, .int r4), (0, .ref (G.1 160)), (1, .int x1)]) hx hb dL_areVersions_46 rfl hl (by decide) rfl (fun ls hl => ?_)
              refine lv_iconst (v := 0) hx hb dL_areVersions_47 (by decide) ?_
              refine lv_istore (lv' := [(4, .int 0), (3, .int (-1)), (2, .int r4), (0, .ref (G.1 160)), (1, .int x1)]) hx hb dL_areVersions_48 hl (by decide) rfl (fun ls hl => ?_)
              exact pL_areVersions_50 X kI ih n x1 r4 (-1 : Int32) (0 : Int32) _ _ _ Z (lv_sub hl [3, 4, 2, 1, 0] rfl) hm
            · replace hm := (if_neg c14).symm.trans hm
              refine lv_iconst (v := 0) hx hb dL_areVersions_43 (by decide) ?_
              obtain rfl := Option.some.inj hm
              exact kI _ _ _ _ dL_areVersions_44 Z nb0
set_option maxHeartbeats 4000000 in
set_option maxRecDepth 100000 in
theorem pL_areVersions_0 (X : gC p s m args meth c cL_areVersions 6 wmL_areVersions yL_areVersions.cls (some .boolean) G A) {n : Nat} {g : Mem} {r : Int32} (kI : ∀ (pc : Nat) (ls : Array Slot) (H : Heap) (locs : List Loc), decode cL_areVersions pc = .ok (.ireturn, 1) → WS wC G g A s.heap H locs → narrow .boolean (.int r) = .int r → W p l e { frames := 8, cells := 0, slots := 0, locals := 133 } s m args below meth c H locs 0 0 Q (F0 m pc ls [.int r])) : ∀ (H : Heap) (locs : List Loc) (ls : Array Slot), WS wC G g A s.heap H locs → lv_has ls 6 [(0, .ref (G.1 160))] → sL_areVersions n g = some r → W p l e { frames := 8, cells := 0, slots := 0, locals := 133 } s m args below meth c H locs 0 0 Q (F0 m 0 ls []) := by
  have hx := X.1
  have hb := X.2.1
  intro H locs ls Z hl hm
  unfold sL_areVersions at hm
  refine lv_iconst (v := 0) hx hb dL_areVersions_0 (by decide) ?_
  refine lv_istore_n (lv' := [(1, .int 0), (0, .ref (G.1 160))]) hx hb dL_areVersions_1 rfl hl (by decide) rfl (fun ls hl => ?_)
  exact pL_areVersions_2 X kI n (0 : Int32) _ _ _ Z (lv_sub hl [1, 0] rfl) hm
theorem cL_areVersions_c (l : Launch) {G : LY} {g : Mem} {n : Nat} {r : Int32} (hm : sL_areVersions n g = some r) : cI l yL_areVersions wmL_areVersions 8 133 .boolean wC G [.ref (G.1 160)] g r g :=
  mk_cI sameC (by decide +kernel) rfl (Nat.le_of_ble_eq_true rfl) (fun p e s m args below meth c A Q ls X kI hl Z => pL_areVersions_0 X kI  _ _ ls Z hl hm)
abbrev wmL_isOne : List Cond := Cond.code yL_isOne cL_isOne 9 (some .boolean) :: wA0
set_option maxHeartbeats 4000000 in
set_option maxRecDepth 100000 in
theorem pL_isOne_191 (X : gC p s m args meth c cL_isOne 9 wmL_isOne yL_isOne.cls (some .boolean) G A) {n : Nat} {g : Mem} {r : Int32} (kI : ∀ (pc : Nat) (ls : Array Slot) (H : Heap) (locs : List Loc), decode cL_isOne pc = .ok (.ireturn, 1) → WS wC G g A s.heap H locs → narrow .boolean (.int r) = .int r → W p l e { frames := 9, cells := 0, slots := 0, locals := 158 } s m args below meth c H locs 0 0 Q (F0 m pc ls [.int r])) {rec110 : Int32 → Int32 → Int32 → Int32 → Int32 → Option (Int32)} (h110 : ∀ (x1 : Int32) (x2 : Int32) (x3 : Int32) (x4 : Int32) (x5 : Int32) (H : Heap) (locs : List Loc) (ls : Array Slot), WS wC G g A s.heap H locs → lv_has ls 9 [(0, .ref (G.1 160)), (1, .int x1), (2, .int x2), (3, .int x3), (4, .int x4), (5, .int x5)] → rec110 x1 x2 x3 x4 x5 = some r → W p l e { frames := 9, cells := 0, slots := 0, locals := 158 } s m args below meth c H locs 0 0 Q (F0 m 110 ls [])) : ∀ (x1 : Int32) (x2 : Int32) (x3 : Int32) (x4 : Int32) (x5 : Int32) (x6 : Int32) (H : Heap) (locs : List Loc) (ls : Array Slot), WS wC G g A s.heap H locs → lv_has ls 9 [(0, .ref (G.1 160)), (1, .int x1), (2, .int x2), (3, .int x3), (4, .int x4), (5, .int x5), (6, .int x6)] → sL_isOne_191 n g rec110 x1 x2 x3 x4 x5 x6 = some r → W p l e { frames := 9, cells := 0, slots := 0, locals := 158 } s m args below meth c H locs 0 0 Q (F0 m 191 ls []) := by
  have hx := X.1
  have hb := X.2.1
  intro x1 x2 x3 x4 x5 x6 H locs ls Z hl hm
  unfold sL_isOne_191 at hm
  refine lv_iload hx hb dL_isOne_191 (lv_at hl 6 rfl) ?_
  refine lv_if_lt (tgt := 238) hx hb dL_isOne_193 (by decide) (fun c1 => ?_) (fun c1 => ?_)
  · replace hm := (if_pos c1).symm.trans hm
    refine lv_iinc (v := (x5 + (1 : Int32))) (lv' := [(5, .int (x5 + (1 : Int32))), (0, .ref (G.1 160)), (1, .int x1), (2, .int x2), (3, .int x3), (4, .int x4), (6, .int x6)]) hx hb dL_isOne_238 hl (k := 5) rfl rfl (by decide) rfl (fun ls hl => ?_)
    refine lv_goto (tgt := 110) hx hb dL_isOne_241 (by decide) ?_
    exact h110 x1 x2 x3 x4 (x5 + (1 : Int32)) _ _ _ Z (lv_sub hl [1, 2, 3, 4, 5, 0] rfl) hm
  · replace hm := (if_neg c1).symm.trans hm
    refine lv_aload_n hx hb dL_isOne_196 rfl (lv_at hl 0 rfl) ?_
    refine lv_iload hx hb dL_isOne_197 (lv_at hl 5 rfl) ?_
    obtain ⟨r4, e2, hm⟩ := sOk1_some hm
    refine g_callVI (n := 1) (As := [.int x5]) (rest := []) (r0 := r4) (g0 := g) sameC X Z (nX6_readerMark_c l e2 rfl) (oX6 k160) rfl (gooV mB500 mB501 mB502 mB285 mB411) rfl (by decide +kernel) rfl ⟨Nat.le_of_ble_eq_true rfl, Nat.le_of_ble_eq_true rfl⟩ ⟨Nat.le_of_ble_eq_true rfl, Nat.le_of_ble_eq_true rfl⟩ hl.1 rfl (Nat.le_of_ble_eq_true rfl) dL_isOne_199 (fun w3 H locs Z => ?_)
    refine lv_iload_n hx hb dL_isOne_202 rfl (lv_at hl 3 rfl) ?_
    refine lv_icmp_ge (tgt := 238) hx hb dL_isOne_203 (by decide) (fun c5 => ?_) (fun c5 => ?_)
    · replace hm := (if_pos c5).symm.trans hm
      refine lv_iinc (v := (x5 + (1 : Int32))) (lv' := [(5, .int (x5 + (1 : Int32))), (0, .ref (G.1 160)), (1, .int x1), (2, .int x2), (3, .int x3), (4, .int x4), (6, .int x6)]) hx hb dL_isOne_238 hl (k := 5) rfl rfl (by decide) rfl (fun ls hl => ?_)
      refine lv_goto (tgt := 110) hx hb dL_isOne_241 (by decide) ?_
      exact h110 x1 x2 x3 x4 (x5 + (1 : Int32)) _ _ _ Z (lv_sub hl [1, 2, 3, 4, 5, 0] rfl) hm
    · replace hm := (if_neg c5).symm.trans hm
      refine lv_iconst (v := 0) hx hb dL_isOne_206 (by decide) ?_
      obtain rfl := Option.some.inj hm
      exact kI _ _ _ _ dL_isOne_207 Z nb0
set_option maxHeartbeats 4000000 in
set_option maxRecDepth 100000 in
theorem pL_isOne_169 (X : gC p s m args meth c cL_isOne 9 wmL_isOne yL_isOne.cls (some .boolean) G A) {n : Nat} {g : Mem} {r : Int32} (kI : ∀ (pc : Nat) (ls : Array Slot) (H : Heap) (locs : List Loc), decode cL_isOne pc = .ok (.ireturn, 1) → WS wC G g A s.heap H locs → narrow .boolean (.int r) = .int r → W p l e { frames := 9, cells := 0, slots := 0, locals := 158 } s m args below meth c H locs 0 0 Q (F0 m pc ls [.int r])) {rec110 : Int32 → Int32 → Int32 → Int32 → Int32 → Option (Int32)} (h110 : ∀ (x1 : Int32) (x2 : Int32) (x3 : Int32) (x4 : Int32) (x5 : Int32) (H : Heap) (locs : List Loc) (ls : Array Slot), WS wC G g A s.heap H locs → lv_has ls 9 [(0, .ref (G.1 160)), (1, .int x1), (2, .int x2), (3, .int x3), (4, .int x4), (5, .int x5)] → rec110 x1 x2 x3 x4 x5 = some r → W p l e { frames := 9, cells := 0, slots := 0, locals := 158 } s m args below meth c H locs 0 0 Q (F0 m 110 ls [])) : ∀ (x1 : Int32) (x2 : Int32) (x3 : Int32) (x4 : Int32) (x5 : Int32) (x6 : Int32) (x7 : Int32) (x8 : Int32) (H : Heap) (locs : List Loc) (ls : Array Slot), WS wC G g A s.heap H locs → lv_has ls 9 [(0, .ref (G.1 160)), (1, .int x1), (2, .int x2), (3, .int x3), (4, .int x4), (5, .int x5), (6, .int x6), (7, .int x7), (8, .int x8)] → sL_isOne_169 n g rec110 x1 x2 x3 x4 x5 x6 x7 x8 = some r → W p l e { frames := 9, cells := 0, slots := 0, locals := 158 } s m args below meth c H locs 0 0 Q (F0 m 169 ls []) := by
  have hx := X.1
  have hb := X.2.1
  intro x1 x2 x3 x4 x5 x6 x7 x8 H locs ls Z hl hm
  unfold sL_isOne_169 at hm
  refine lv_iload_n hx hb dL_isOne_169 rfl (lv_at hl 2 rfl) ?_
  refine lv_iconst (v := 2) hx hb dL_isOne_170 (by decide) ?_
  refine lv_icmp_ne (tgt := 208) hx hb dL_isOne_171 (by decide) (fun c1 => ?_) (fun c1 => ?_)
  · replace hm := (if_neg c1).symm.trans hm
    refine lv_iload hx hb dL_isOne_208 (lv_at hl 7 rfl) ?_
    refine lv_if_lt (tgt := 238) hx hb dL_isOne_210 (by decide) (fun c2 => ?_) (fun c2 => ?_)
    · replace hm := (if_pos c2).symm.trans hm
      refine lv_iinc (v := (x5 + (1 : Int32))) (lv' := [(5, .int (x5 + (1 : Int32))), (0, .ref (G.1 160)), (1, .int x1), (2, .int x2), (3, .int x3), (4, .int x4), (6, .int x6), (7, .int x7), (8, .int x8)]) hx hb dL_isOne_238 hl (k := 5) rfl rfl (by decide) rfl (fun ls hl => ?_)
      refine lv_goto (tgt := 110) hx hb dL_isOne_241 (by decide) ?_
      exact h110 x1 x2 x3 x4 (x5 + (1 : Int32)) _ _ _ Z (lv_sub hl [1, 2, 3, 4, 5, 0] rfl) hm
    · replace hm := (if_neg c2).symm.trans hm
      refine lv_aload_n hx hb dL_isOne_213 rfl (lv_at hl 0 rfl) ?_
      refine lv_iload hx hb dL_isOne_214 (lv_at hl 5 rfl) ?_
      obtain ⟨r5, e3, hm⟩ := sOk1_some hm
      refine g_callVI (n := 1) (As := [.int x5]) (rest := []) (r0 := r5) (g0 := g) sameC X Z (nX6_waitingWriter_c l e3 rfl) (oX6 k160) rfl (gooV mB503 mB504 mB505 mB285 mB406) rfl (by decide +kernel) rfl ⟨Nat.le_of_ble_eq_true rfl, Nat.le_of_ble_eq_true rfl⟩ ⟨Nat.le_of_ble_eq_true rfl, Nat.le_of_ble_eq_true rfl⟩ hl.1 rfl (Nat.le_of_ble_eq_true rfl) dL_isOne_216 (fun w4 H locs Z => ?_)
      refine lv_iload_n hx hb dL_isOne_219 rfl (lv_at hl 1 rfl) ?_
      refine lv_icmp_ne (tgt := 236) hx hb dL_isOne_220 (by decide) (fun c6 => ?_) (fun c6 => ?_)
      · replace hm := (if_neg c6).symm.trans hm
        refine lv_iconst (v := 0) hx hb dL_isOne_236 (by decide) ?_
        obtain rfl := Option.some.inj hm
        exact kI _ _ _ _ dL_isOne_237 Z nb0
      · replace hm := (if_pos c6).symm.trans hm
        refine lv_iload hx hb dL_isOne_223 (lv_at hl 8 rfl) ?_
        refine lv_aload_n hx hb dL_isOne_225 rfl (lv_at hl 0 rfl) ?_
        refine lv_iload hx hb dL_isOne_226 (lv_at hl 5 rfl) ?_
        obtain ⟨r9, e7, hm⟩ := sOk1_some hm
        refine g_callVI (n := 1) (As := [.int x5]) (rest := [.int x8]) (r0 := r9) (g0 := g) sameC X Z (nX6_versions_c l e7 rfl) (oX6 k160) rfl (gooV mB466 mB467 mB468 mB285 mB398) rfl (by decide +kernel) rfl ⟨Nat.le_of_ble_eq_true rfl, Nat.le_of_ble_eq_true rfl⟩ ⟨Nat.le_of_ble_eq_true rfl, Nat.le_of_ble_eq_true rfl⟩ hl.1 rfl (Nat.le_of_ble_eq_true rfl) dL_isOne_228 (fun w8 H locs Z => ?_)
        refine lv_iconst (v := 1) hx hb dL_isOne_231 (by decide) ?_
        refine lv_isub hx hb dL_isOne_232 ?_
        refine lv_icmp_eq (tgt := 238) hx hb dL_isOne_233 (by decide) (fun c10 => ?_) (fun c10 => ?_)
        · replace hm := (if_pos c10).symm.trans hm
          refine lv_iinc (v := (x5 + (1 : Int32))) (lv' := [(5, .int (x5 + (1 : Int32))), (0, .ref (G.1 160)), (1, .int x1), (2, .int x2), (3, .int x3), (4, .int x4), (6, .int x6), (7, .int x7), (8, .int x8)]) hx hb dL_isOne_238 hl (k := 5) rfl rfl (by decide) rfl (fun ls hl => ?_)
          refine lv_goto (tgt := 110) hx hb dL_isOne_241 (by decide) ?_
          exact h110 x1 x2 x3 x4 (x5 + (1 : Int32)) _ _ _ Z (lv_sub hl [1, 2, 3, 4, 5, 0] rfl) hm
        · replace hm := (if_neg c10).symm.trans hm
          refine lv_iconst (v := 0) hx hb dL_isOne_236 (by decide) ?_
          obtain rfl := Option.some.inj hm
          exact kI _ _ _ _ dL_isOne_237 Z nb0
  · replace hm := (if_pos c1).symm.trans hm
    refine lv_iload hx hb dL_isOne_174 (lv_at hl 7 rfl) ?_
    refine lv_if_lt (tgt := 191) hx hb dL_isOne_176 (by decide) (fun c11 => ?_) (fun c11 => ?_)
    · replace hm := (if_pos c11).symm.trans hm
      exact pL_isOne_191 X kI h110 x1 x2 x3 x4 x5 x6 _ _ _ Z (lv_sub hl [0, 1, 2, 3, 4, 5, 6] rfl) hm
    · replace hm := (if_neg c11).symm.trans hm
      refine lv_aload_n hx hb dL_isOne_179 rfl (lv_at hl 0 rfl) ?_
      refine lv_iload hx hb dL_isOne_180 (lv_at hl 5 rfl) ?_
      refine lv_iload_n hx hb dL_isOne_182 rfl (lv_at hl 3 rfl) ?_
      obtain ⟨r14, e12, hm⟩ := sOk1_some hm
      refine g_callVI (n := 2) (As := [.int x5, .int x3]) (rest := []) (r0 := r14) (g0 := g) sameC X Z (nX6_valueAt_c l e12 rfl) (oX6 k160) rfl (gooV mB472 mB473 mB474 mB285 mB401) rfl (by decide +kernel) rfl ⟨Nat.le_of_ble_eq_true rfl, Nat.le_of_ble_eq_true rfl⟩ ⟨Nat.le_of_ble_eq_true rfl, Nat.le_of_ble_eq_true rfl⟩ hl.1 rfl (Nat.le_of_ble_eq_true rfl) dL_isOne_183 (fun w13 H locs Z => ?_)
      refine lv_iload hx hb dL_isOne_186 (lv_at hl 7 rfl) ?_
      refine lv_icmp_ne (tgt := 206) hx hb dL_isOne_188 (by decide) (fun c15 => ?_) (fun c15 => ?_)
      · replace hm := (if_neg c15).symm.trans hm
        refine lv_iconst (v := 0) hx hb dL_isOne_206 (by decide) ?_
        obtain rfl := Option.some.inj hm
        exact kI _ _ _ _ dL_isOne_207 Z nb0
      · replace hm := (if_pos c15).symm.trans hm
        exact pL_isOne_191 X kI h110 x1 x2 x3 x4 x5 x6 _ _ _ Z (lv_sub hl [0, 1, 2, 3, 4, 5, 6] rfl) hm
set_option maxHeartbeats 4000000 in
set_option maxRecDepth 100000 in
theorem pL_isOne_244 (X : gC p s m args meth c cL_isOne 9 wmL_isOne yL_isOne.cls (some .boolean) G A) {n : Nat} {g : Mem} {r : Int32} (kI : ∀ (pc : Nat) (ls : Array Slot) (H : Heap) (locs : List Loc), decode cL_isOne pc = .ok (.ireturn, 1) → WS wC G g A s.heap H locs → narrow .boolean (.int r) = .int r → W p l e { frames := 9, cells := 0, slots := 0, locals := 158 } s m args below meth c H locs 0 0 Q (F0 m pc ls [.int r])) : ∀ (x1 : Int32) (x2 : Int32) (x3 : Int32) (H : Heap) (locs : List Loc) (ls : Array Slot), WS wC G g A s.heap H locs → lv_has ls 9 [(0, .ref (G.1 160)), (1, .int x1), (2, .int x2), (3, .int x3)] → sL_isOne_244 n g x1 x2 x3 = some r → W p l e { frames := 9, cells := 0, slots := 0, locals := 158 } s m args below meth c H locs 0 0 Q (F0 m 244 ls []) := by
  have hx := X.1
  have hb := X.2.1
  intro x1 x2 x3 H locs ls Z hl hm
  unfold sL_isOne_244 at hm
  refine lv_iload_n hx hb dL_isOne_244 rfl (lv_at hl 2 rfl) ?_
  refine lv_iconst (v := 1) hx hb dL_isOne_245 (by decide) ?_
  refine lv_icmp_ne (tgt := 265) hx hb dL_isOne_246 (by decide) (fun c1 => ?_) (fun c1 => ?_)
  · replace hm := (if_neg c1).symm.trans hm
    refine lv_iconst (v := 1) hx hb dL_isOne_265 (by decide) ?_
    refine lv_goto (tgt := 270) hx hb dL_isOne_266 (by decide) ?_
    obtain rfl := Option.some.inj hm
    exact kI _ _ _ _ dL_isOne_270 Z nb1
  · replace hm := (if_pos c1).symm.trans hm
    refine lv_aload_n hx hb dL_isOne_249 rfl (lv_at hl 0 rfl) ?_
    obtain ⟨r4, e2, hm⟩ := sBi_some hm
    refine g_callVI (n := 0) (As := []) (rest := []) sameC X Z (cX6_safeTime_c l e2) (oX6 k160) rfl (gooV mB506 mB507 mB508 mB285 mB412) rfl (by decide +kernel) rfl ⟨Nat.le_of_ble_eq_true rfl, Nat.le_of_ble_eq_true rfl⟩ ⟨Nat.le_of_ble_eq_true rfl, Nat.le_of_ble_eq_true rfl⟩ hl.1 rfl (Nat.le_of_ble_eq_true rfl) dL_isOne_250 (fun w3 H locs Z => ?_)
    refine lv_iload_n hx hb dL_isOne_253 rfl (lv_at hl 3 rfl) ?_
    refine lv_icmp_ge (tgt := 269) hx hb dL_isOne_254 (by decide) (fun c5 => ?_) (fun c5 => ?_)
    · replace hm := (if_pos c5).symm.trans hm
      refine lv_iconst (v := 0) hx hb dL_isOne_269 (by decide) ?_
      obtain rfl := Option.some.inj hm
      exact kI _ _ _ _ dL_isOne_270 Z nb0
    · replace hm := (if_neg c5).symm.trans hm
      refine lv_aload_n hx hb dL_isOne_257 rfl (lv_at hl 0 rfl) ?_
      refine lv_iload_n hx hb dL_isOne_258 rfl (lv_at hl 1 rfl) ?_
      obtain ⟨r8, e6, hm⟩ := sOk1_some hm
      refine g_callVI (n := 1) (As := [.int x1]) (rest := []) (r0 := r8) (g0 := g) sameC X Z (nX6_ticksToCommit_c l e6 rfl) (oX6 k160) rfl (gooV mB509 mB510 mB511 mB285 mB397) rfl (by decide +kernel) rfl ⟨Nat.le_of_ble_eq_true rfl, Nat.le_of_ble_eq_true rfl⟩ ⟨Nat.le_of_ble_eq_true rfl, Nat.le_of_ble_eq_true rfl⟩ hl.1 rfl (Nat.le_of_ble_eq_true rfl) dL_isOne_259 (fun w7 H locs Z => ?_)
      refine lv_if_eq (tgt := 269) hx hb dL_isOne_262 (by decide) (fun c9 => ?_) (fun c9 => ?_)
      · replace hm := (if_pos c9).symm.trans hm
        refine lv_iconst (v := 0) hx hb dL_isOne_269 (by decide) ?_
        obtain rfl := Option.some.inj hm
        exact kI _ _ _ _ dL_isOne_270 Z nb0
      · replace hm := (if_neg c9).symm.trans hm
        refine lv_iconst (v := 1) hx hb dL_isOne_265 (by decide) ?_
        refine lv_goto (tgt := 270) hx hb dL_isOne_266 (by decide) ?_
        obtain rfl := Option.some.inj hm
        exact kI _ _ _ _ dL_isOne_270 Z nb1
set_option maxHeartbeats 4000000 in
set_option maxRecDepth 100000 in
theorem pL_isOne_110 (X : gC p s m args meth c cL_isOne 9 wmL_isOne yL_isOne.cls (some .boolean) G A) {n : Nat} {g : Mem} {r : Int32} (kI : ∀ (pc : Nat) (ls : Array Slot) (H : Heap) (locs : List Loc), decode cL_isOne pc = .ok (.ireturn, 1) → WS wC G g A s.heap H locs → narrow .boolean (.int r) = .int r → W p l e { frames := 9, cells := 0, slots := 0, locals := 158 } s m args below meth c H locs 0 0 Q (F0 m pc ls [.int r])) : ∀ (f : Nat), ∀ (x1 : Int32) (x2 : Int32) (x3 : Int32) (x4 : Int32) (x5 : Int32) (H : Heap) (locs : List Loc) (ls : Array Slot), WS wC G g A s.heap H locs → lv_has ls 9 [(0, .ref (G.1 160)), (1, .int x1), (2, .int x2), (3, .int x3), (4, .int x4), (5, .int x5)] → sL_isOne_110 n g f x1 x2 x3 x4 x5 = some r → W p l e { frames := 9, cells := 0, slots := 0, locals := 158 } s m args below meth c H locs 0 0 Q (F0 m 110 ls []) := by
  have hx := X.1
  have hb := X.2.1
  intro f
  induction f with
  | zero =>
    intro x1 x2 x3 x4 x5 H locs ls Z hl hm
    cases hm
  | succ f ih =>
    intro x1 x2 x3 x4 x5 H locs ls Z hl hm
    unfold sL_isOne_110 at hm
    refine lv_iload hx hb dL_isOne_110 (lv_at hl 5 rfl) ?_
    refine lv_bipush (v := 8) hx hb dL_isOne_112 (by decide) ?_
    refine lv_icmp_ge (tgt := 244) hx hb dL_isOne_114 (by decide) (fun c1 => ?_) (fun c1 => ?_)
    · replace hm := (if_pos c1).symm.trans hm
      exact pL_isOne_244 X kI x1 x2 x3 _ _ _ Z (lv_sub hl [0, 1, 2, 3] rfl) hm
    · replace hm := (if_neg c1).symm.trans hm
      refine lv_iload hx hb dL_isOne_117 (lv_at hl 4 rfl) ?_
      refine lv_if_eq (tgt := 244) hx hb dL_isOne_119 (by decide) (fun c2 => ?_) (fun c2 => ?_)
      · replace hm := (if_pos c2).symm.trans hm
        exact pL_isOne_244 X kI x1 x2 x3 _ _ _ Z (lv_sub hl [0, 1, 2, 3] rfl) hm
      · replace hm := (if_neg c2).symm.trans hm
        refine lv_aload_n hx hb dL_isOne_122 rfl (lv_at hl 0 rfl) ?_
        refine lv_iload_n hx hb dL_isOne_123 rfl (lv_at hl 1 rfl) ?_
        refine lv_iload hx hb dL_isOne_124 (lv_at hl 5 rfl) ?_
        obtain ⟨r5, e3, hm⟩ := sOk1_some hm
        refine g_callVI (n := 2) (As := [.int x1, .int x5]) (rest := []) (r0 := r5) (g0 := g) sameC X Z (nX6_recordedTimestamp_c l e3 rfl) (oX6 k160) rfl (gooV mB491 mB492 mB493 mB285 mB394) rfl (by decide +kernel) rfl ⟨Nat.le_of_ble_eq_true rfl, Nat.le_of_ble_eq_true rfl⟩ ⟨Nat.le_of_ble_eq_true rfl, Nat.le_of_ble_eq_true rfl⟩ hl.1 rfl (Nat.le_of_ble_eq_true rfl) dL_isOne_126 (fun w4 H locs Z => ?_)
        refine lv_istore (lv' := [(6, .int r5), (0, .ref (G.1 160)), (1, .int x1), (2, .int x2), (3, .int x3), (4, .int x4), (5, .int x5)]) hx hb dL_isOne_129 hl (by decide) rfl (fun ls hl => ?_)
        refine lv_aload_n hx hb dL_isOne_131 rfl (lv_at hl 1 rfl) ?_
        refine lv_iload_n hx hb dL_isOne_132 rfl (lv_at hl 2 rfl) ?_
        refine lv_iload hx hb dL_isOne_133 (lv_at hl 6 rfl) ?_
        obtain ⟨r8, e6, hm⟩ := sOk1_some hm
        refine g_callVI (n := 2) (As := [.int x1, .int x5]) (rest := []) (r0 := r8) (g0 := g) sameC X Z (nX6_bufferedValue_c l e6 rfl) (oX6 k160) rfl (gooV mB494 mB495 mB496 mB285 mB390) rfl (by decide +kernel) rfl ⟨Nat.le_of_ble_eq_true rfl, Nat.le_of_ble_eq_true rfl⟩ ⟨Nat.le_of_ble_eq_true rfl, Nat.le_of_ble_eq_true rfl⟩ hl.1 rfl (Nat.le_of_ble_eq_true rfl) dL_isOne_135 (fun w7 H locs Z => ?_)
        refine lv_istore (lv' := [(7, .int r8), (6, .int r5), (0, .ref (G.1 160)), (1, .int x1), (2, .int x2), (3, .int x3), (4, .int x4), (5, .int x5)]) hx hb dL_isOne_138 hl (by decide) rfl (fun ls hl => ?_)
        refine lv_aload_n hx hb dL_isOne_140 rfl (lv_at hl 2 rfl) ?_
        refine lv_iload hx hb dL_isOne_141 (lv_at hl 7 rfl) ?_
        refine lv_iload_n hx hb dL_isOne_143 rfl (lv_at hl 5 rfl) ?_
        obtain ⟨r11, e9, hm⟩ := sBi_some hm
        refine g_callSI (n := 3) (As := [.ref (G.1 160), .int x5, .int x3]) (rest := []) sameC X Z (cL_newestBelow_c l e9) (gooS mB497 mB498 mB499 mB465) rfl (by decide +kernel) rfl ⟨Nat.le_of_ble_eq_true rfl, Nat.le_of_ble_eq_true rfl⟩ ⟨Nat.le_of_ble_eq_true rfl, Nat.le_of_ble_eq_true rfl⟩ hl.1 rfl (Nat.le_of_ble_eq_true rfl) dL_isOne_144 (fun w10 H locs Z => ?_)
        refine lv_istore (lv' := [(8, .int r11), (7, .int r8), (6, .int r5), (0, .ref (G.1 160)), (1, .int x1), (2, .int x2), (3, .int x3), (4, .int x4), (5, .int x5)]) hx hb dL_isOne_147 hl (by decide) rfl (fun ls hl => ?_)
        refine lv_iload hx hb dL_isOne_149 (lv_at hl 2 rfl) ?_
        refine lv_if_lt (tgt := 169) hx hb dL_isOne_151 (by decide) (fun c12 => ?_) (fun c12 => ?_)
        · replace hm := (if_pos c12).symm.trans hm
          exact pL_isOne_169 X kI ih x1 x2 x3 x4 x5 r5 r8 r11 _ _ _ Z (lv_sub hl [3, 4, 5, 6, 7, 8, 2, 1, 0] rfl) hm
        · replace hm := (if_neg c12).symm.trans hm
          refine lv_aload_n hx hb dL_isOne_154 rfl (lv_at hl 3 rfl) ?_
          refine lv_iload hx hb dL_isOne_155 (lv_at hl 8 rfl) ?_
          refine lv_iload hx hb dL_isOne_157 (lv_at hl 0 rfl) ?_
          obtain ⟨r15, e13, hm⟩ := sOk1_some hm
          refine g_callVI (n := 2) (As := [.int x5, .int r11]) (rest := []) (r0 := r15) (g0 := g) sameC X Z (nX6_versionTimestamp_c l e13 rfl) (oX6 k160) rfl (gooV mB469 mB470 mB471 mB285 mB400) rfl (by decide +kernel) rfl ⟨Nat.le_of_ble_eq_true rfl, Nat.le_of_ble_eq_true rfl⟩ ⟨Nat.le_of_ble_eq_true rfl, Nat.le_of_ble_eq_true rfl⟩ hl.1 rfl (Nat.le_of_ble_eq_true rfl) dL_isOne_159 (fun w14 H locs Z => ?_)
          refine lv_iload hx hb dL_isOne_162 (lv_at hl 2 rfl) ?_
          refine lv_icmp_eq (tgt := 169) hx hb dL_isOne_164 (by decide) (fun c16 => ?_) (fun c16 => ?_)
          · replace hm := (if_pos c16).symm.trans hm
            exact pL_isOne_169 X kI ih x1 x2 x3 x4 x5 r5 r8 r11 _ _ _ Z (lv_sub hl [3, 4, 5, 6, 7, 8, 2, 1, 0] rfl) hm
          · replace hm := (if_neg c16).symm.trans hm
            refine lv_iconst (v := 0) hx hb dL_isOne_167 (by decide) ?_
            obtain rfl := Option.some.inj hm
            exact kI _ _ _ _ dL_isOne_168 Z nb0
set_option maxHeartbeats 4000000 in
set_option maxRecDepth 100000 in
theorem pL_isOne_22 (X : gC p s m args meth c cL_isOne 9 wmL_isOne yL_isOne.cls (some .boolean) G A) {n : Nat} {g : Mem} {r : Int32} (kI : ∀ (pc : Nat) (ls : Array Slot) (H : Heap) (locs : List Loc), decode cL_isOne pc = .ok (.ireturn, 1) → WS wC G g A s.heap H locs → narrow .boolean (.int r) = .int r → W p l e { frames := 9, cells := 0, slots := 0, locals := 158 } s m args below meth c H locs 0 0 Q (F0 m pc ls [.int r])) : ∀ (x1 : Int32) (x2 : Int32) (x3 : Int32) (H : Heap) (locs : List Loc) (ls : Array Slot), WS wC G g A s.heap H locs → lv_has ls 9 [(0, .ref (G.1 160)), (1, .int x1), (2, .int x2), (3, .int x3)] → sL_isOne_22 n g x1 x2 x3 = some r → W p l e { frames := 9, cells := 0, slots := 0, locals := 158 } s m args below meth c H locs 0 0 Q (F0 m 22 ls []) := by
  have hx := X.1
  have hb := X.2.1
  intro x1 x2 x3 H locs ls Z hl hm
  unfold sL_isOne_22 at hm
  refine lv_iconst (v := 1) hx hb dL_isOne_22 (by decide) ?_
  refine lv_goto (tgt := 27) hx hb dL_isOne_23 (by decide) ?_
  refine lv_istore (lv' := [(4, .int 1), (0, .ref (G.1 160)), (1, .int x1), (2, .int x2), (3, .int x3)]) hx hb dL_isOne_27 hl (by decide) rfl (fun ls hl => ?_)
  refine lv_iload_n hx hb dL_isOne_29 rfl (lv_at hl 4 rfl) ?_
  refine lv_if_lt (tgt := 37) hx hb dL_isOne_30 (by decide) (fun c1 => ?_) (fun c1 => ?_)
  · replace hm := (if_pos c1).symm.trans hm
    refine lv_iconst (v := 0) hx hb dL_isOne_37 (by decide) ?_
    refine lv_iload hx hb dL_isOne_38 (lv_at hl 0 rfl) ?_
    refine lv_icmp_ne (tgt := 105) hx hb dL_isOne_40 (by decide) (fun c2 => ?_) (fun c2 => ?_)
    rotate_left
    · first | exact absurd c2 (by decide) | exact absurd (by decide) c2
    refine lv_iconst (v := 0) hx hb dL_isOne_105 (by decide) ?_
    obtain rfl := Option.some.inj hm
    exact kI _ _ _ _ dL_isOne_106 Z nb0
  · replace hm := (if_neg c1).symm.trans hm
    refine lv_iconst (v := 1) hx hb dL_isOne_33 (by decide) ?_
    refine lv_goto (tgt := 38) hx hb dL_isOne_34 (by decide) ?_
    refine lv_iload hx hb dL_isOne_38 (lv_at hl 0 rfl) ?_
    refine lv_icmp_ne (tgt := 105) hx hb dL_isOne_40 (by decide) (fun c3 => ?_) (fun c3 => ?_)
    · first | exact absurd c3 (by decide) | exact absurd (by decide) c3
    refine lv_aload_n hx hb dL_isOne_43 rfl (lv_at hl 1 rfl) ?_
    refine lv_iload_n hx hb dL_isOne_44 rfl (lv_at hl 2 rfl) ?_
    obtain ⟨r6, e4, hm⟩ := sOk1_some hm
    refine g_callVI (n := 1) (As := [.int x1]) (rest := []) (r0 := r6) (g0 := g) sameC X Z (nX6_requestTime_c l e4 rfl) (oX6 k160) rfl (gooV mB485 mB486 mB487 mB285 mB386) rfl (by decide +kernel) rfl ⟨Nat.le_of_ble_eq_true rfl, Nat.le_of_ble_eq_true rfl⟩ ⟨Nat.le_of_ble_eq_true rfl, Nat.le_of_ble_eq_true rfl⟩ hl.1 rfl (Nat.le_of_ble_eq_true rfl) dL_isOne_45 (fun w5 H locs Z => ?_)
    refine lv_if_lt (tgt := 55) hx hb dL_isOne_48 (by decide) (fun c7 => ?_) (fun c7 => ?_)
    · replace hm := (if_pos c7).symm.trans hm
      refine lv_iconst (v := 0) hx hb dL_isOne_55 (by decide) ?_
      refine lv_iload hx hb dL_isOne_56 (lv_at hl 0 rfl) ?_
      refine lv_icmp_ne (tgt := 105) hx hb dL_isOne_58 (by decide) (fun c8 => ?_) (fun c8 => ?_)
      rotate_left
      · first | exact absurd c8 (by decide) | exact absurd (by decide) c8
      refine lv_iconst (v := 0) hx hb dL_isOne_105 (by decide) ?_
      obtain rfl := Option.some.inj hm
      exact kI _ _ _ _ dL_isOne_106 Z nb0
    · replace hm := (if_neg c7).symm.trans hm
      refine lv_iconst (v := 1) hx hb dL_isOne_51 (by decide) ?_
      refine lv_goto (tgt := 56) hx hb dL_isOne_52 (by decide) ?_
      refine lv_iload hx hb dL_isOne_56 (lv_at hl 0 rfl) ?_
      refine lv_icmp_ne (tgt := 105) hx hb dL_isOne_58 (by decide) (fun c9 => ?_) (fun c9 => ?_)
      · first | exact absurd c9 (by decide) | exact absurd (by decide) c9
      refine lv_aload_n hx hb dL_isOne_61 rfl (lv_at hl 1 rfl) ?_
      refine lv_iload_n hx hb dL_isOne_62 rfl (lv_at hl 2 rfl) ?_
      obtain ⟨r12, e10, hm⟩ := sOk1_some hm
      refine g_callVI (n := 1) (As := [.int x1]) (rest := []) (r0 := r12) (g0 := g) sameC X Z (nX6_commitTime_c l e10 rfl) (oX6 k160) rfl (gooV mB488 mB489 mB490 mB285 mB388) rfl (by decide +kernel) rfl ⟨Nat.le_of_ble_eq_true rfl, Nat.le_of_ble_eq_true rfl⟩ ⟨Nat.le_of_ble_eq_true rfl, Nat.le_of_ble_eq_true rfl⟩ hl.1 rfl (Nat.le_of_ble_eq_true rfl) dL_isOne_63 (fun w11 H locs Z => ?_)
      refine lv_if_lt (tgt := 73) hx hb dL_isOne_66 (by decide) (fun c13 => ?_) (fun c13 => ?_)
      · replace hm := (if_pos c13).symm.trans hm
        refine lv_iconst (v := 0) hx hb dL_isOne_73 (by decide) ?_
        refine lv_iload_n hx hb dL_isOne_74 rfl (lv_at hl 3 rfl) ?_
        refine lv_iconst (v := 2) hx hb dL_isOne_75 (by decide) ?_
        refine lv_icmp_ne (tgt := 83) hx hb dL_isOne_76 (by decide) (fun c14 => ?_) (fun c14 => ?_)
        · replace hm := (if_neg c14).symm.trans hm
          refine lv_iconst (v := 0) hx hb dL_isOne_83 (by decide) ?_
          refine lv_icmp_ne (tgt := 105) hx hb dL_isOne_84 (by decide) (fun c15 => ?_) (fun c15 => ?_)
          · first | exact absurd c15 (by decide) | exact absurd (by decide) c15
          refine lv_iload_n hx hb dL_isOne_87 rfl (lv_at hl 3 rfl) ?_
          refine lv_iconst (v := 2) hx hb dL_isOne_88 (by decide) ?_
          refine lv_icmp_ne (tgt := 107) hx hb dL_isOne_89 (by decide) (fun c16 => ?_) (fun c16 => ?_)
          · replace hm := (if_neg c16).symm.trans hm
            refine lv_iconst (v := 0) hx hb dL_isOne_107 (by decide) ?_
            refine lv_istore (lv' := [(5, .int 0), (4, .int 1), (0, .ref (G.1 160)), (1, .int x1), (2, .int x2), (3, .int x3)]) hx hb dL_isOne_108 hl (by decide) rfl (fun ls hl => ?_)
            exact pL_isOne_110 X kI n x1 x2 x3 (1 : Int32) (0 : Int32) _ _ _ Z (lv_sub hl [2, 3, 4, 5, 1, 0] rfl) hm
          · replace hm := (if_pos c16).symm.trans hm
            refine lv_aload_n hx hb dL_isOne_92 rfl (lv_at hl 1 rfl) ?_
            refine lv_iload_n hx hb dL_isOne_93 rfl (lv_at hl 2 rfl) ?_
            obtain ⟨r19, e17, hm⟩ := sOk1_some hm
            refine g_callVI (n := 1) (As := [.int x1]) (rest := []) (r0 := r19) (g0 := g) sameC X Z (nX6_commitTime_c l e17 rfl) (oX6 k160) rfl (gooV mB488 mB489 mB490 mB285 mB388) rfl (by decide +kernel) rfl ⟨Nat.le_of_ble_eq_true rfl, Nat.le_of_ble_eq_true rfl⟩ ⟨Nat.le_of_ble_eq_true rfl, Nat.le_of_ble_eq_true rfl⟩ hl.1 rfl (Nat.le_of_ble_eq_true rfl) dL_isOne_94 (fun w18 H locs Z => ?_)
            refine lv_aload_n hx hb dL_isOne_97 rfl (lv_at hl 1 rfl) ?_
            refine lv_iload_n hx hb dL_isOne_98 rfl (lv_at hl 2 rfl) ?_
            obtain ⟨r22, e20, hm⟩ := sOk1_some hm
            refine g_callVI (n := 1) (As := [.int x1]) (rest := [.int r19]) (r0 := r22) (g0 := g) sameC X Z (nX6_requestTime_c l e20 rfl) (oX6 k160) rfl (gooV mB485 mB486 mB487 mB285 mB386) rfl (by decide +kernel) rfl ⟨Nat.le_of_ble_eq_true rfl, Nat.le_of_ble_eq_true rfl⟩ ⟨Nat.le_of_ble_eq_true rfl, Nat.le_of_ble_eq_true rfl⟩ hl.1 rfl (Nat.le_of_ble_eq_true rfl) dL_isOne_99 (fun w21 H locs Z => ?_)
            refine lv_icmp_gt (tgt := 107) hx hb dL_isOne_102 (by decide) (fun c23 => ?_) (fun c23 => ?_)
            · replace hm := (if_pos c23).symm.trans hm
              refine lv_iconst (v := 0) hx hb dL_isOne_107 (by decide) ?_
              refine lv_istore (lv' := [(5, .int 0), (4, .int 1), (0, .ref (G.1 160)), (1, .int x1), (2, .int x2), (3, .int x3)]) hx hb dL_isOne_108 hl (by decide) rfl (fun ls hl => ?_)
              exact pL_isOne_110 X kI n x1 x2 x3 (1 : Int32) (0 : Int32) _ _ _ Z (lv_sub hl [2, 3, 4, 5, 1, 0] rfl) hm
            · replace hm := (if_neg c23).symm.trans hm
              refine lv_iconst (v := 0) hx hb dL_isOne_105 (by decide) ?_
              obtain rfl := Option.some.inj hm
              exact kI _ _ _ _ dL_isOne_106 Z nb0
        · replace hm := (if_pos c14).symm.trans hm
          refine lv_iconst (v := 1) hx hb dL_isOne_79 (by decide) ?_
          refine lv_goto (tgt := 84) hx hb dL_isOne_80 (by decide) ?_
          refine lv_icmp_ne (tgt := 105) hx hb dL_isOne_84 (by decide) (fun c24 => ?_) (fun c24 => ?_)
          rotate_left
          · first | exact absurd c24 (by decide) | exact absurd (by decide) c24
          refine lv_iconst (v := 0) hx hb dL_isOne_105 (by decide) ?_
          obtain rfl := Option.some.inj hm
          exact kI _ _ _ _ dL_isOne_106 Z nb0
      · replace hm := (if_neg c13).symm.trans hm
        refine lv_iconst (v := 1) hx hb dL_isOne_69 (by decide) ?_
        refine lv_goto (tgt := 74) hx hb dL_isOne_70 (by decide) ?_
        refine lv_iload_n hx hb dL_isOne_74 rfl (lv_at hl 3 rfl) ?_
        refine lv_iconst (v := 2) hx hb dL_isOne_75 (by decide) ?_
        refine lv_icmp_ne (tgt := 83) hx hb dL_isOne_76 (by decide) (fun c25 => ?_) (fun c25 => ?_)
        · replace hm := (if_neg c25).symm.trans hm
          refine lv_iconst (v := 0) hx hb dL_isOne_83 (by decide) ?_
          refine lv_icmp_ne (tgt := 105) hx hb dL_isOne_84 (by decide) (fun c26 => ?_) (fun c26 => ?_)
          rotate_left
          · first | exact absurd c26 (by decide) | exact absurd (by decide) c26
          refine lv_iconst (v := 0) hx hb dL_isOne_105 (by decide) ?_
          obtain rfl := Option.some.inj hm
          exact kI _ _ _ _ dL_isOne_106 Z nb0
        · replace hm := (if_pos c25).symm.trans hm
          refine lv_iconst (v := 1) hx hb dL_isOne_79 (by decide) ?_
          refine lv_goto (tgt := 84) hx hb dL_isOne_80 (by decide) ?_
          refine lv_icmp_ne (tgt := 105) hx hb dL_isOne_84 (by decide) (fun c27 => ?_) (fun c27 => ?_)
          · first | exact absurd c27 (by decide) | exact absurd (by decide) c27
          refine lv_iload_n hx hb dL_isOne_87 rfl (lv_at hl 3 rfl) ?_
          refine lv_iconst (v := 2) hx hb dL_isOne_88 (by decide) ?_
          refine lv_icmp_ne (tgt := 107) hx hb dL_isOne_89 (by decide) (fun c28 => ?_) (fun c28 => ?_)
          · replace hm := (if_neg c28).symm.trans hm
            refine lv_iconst (v := 0) hx hb dL_isOne_107 (by decide) ?_
            refine lv_istore (lv' := [(5, .int 0), (4, .int 1), (0, .ref (G.1 160)), (1, .int x1), (2, .int x2), (3, .int x3)]) hx hb dL_isOne_108 hl (by decide) rfl (fun ls hl => ?_)
            exact pL_isOne_110 X kI n x1 x2 x3 (1 : Int32) (0 : Int32) _ _ _ Z (lv_sub hl [2, 3, 4, 5, 1, 0] rfl) hm
          · replace hm := (if_pos c28).symm.trans hm
            refine lv_aload_n hx hb dL_isOne_92 rfl (lv_at hl 1 rfl) ?_
            refine lv_iload_n hx hb dL_isOne_93 rfl (lv_at hl 2 rfl) ?_
            obtain ⟨r31, e29, hm⟩ := sOk1_some hm
            refine g_callVI (n := 1) (As := [.int x1]) (rest := []) (r0 := r31) (g0 := g) sameC X Z (nX6_commitTime_c l e29 rfl) (oX6 k160) rfl (gooV mB488 mB489 mB490 mB285 mB388) rfl (by decide +kernel) rfl ⟨Nat.le_of_ble_eq_true rfl, Nat.le_of_ble_eq_true rfl⟩ ⟨Nat.le_of_ble_eq_true rfl, Nat.le_of_ble_eq_true rfl⟩ hl.1 rfl (Nat.le_of_ble_eq_true rfl) dL_isOne_94 (fun w30 H locs Z => ?_)
            refine lv_aload_n hx hb dL_isOne_97 rfl (lv_at hl 1 rfl) ?_
            refine lv_iload_n hx hb dL_isOne_98 rfl (lv_at hl 2 rfl) ?_
            obtain ⟨r34, e32, hm⟩ := sOk1_some hm
            refine g_callVI (n := 1) (As := [.int x1]) (rest := [.int r31]) (r0 := r34) (g0 := g) sameC X Z (nX6_requestTime_c l e32 rfl) (oX6 k160) rfl (gooV mB485 mB486 mB487 mB285 mB386) rfl (by decide +kernel) rfl ⟨Nat.le_of_ble_eq_true rfl, Nat.le_of_ble_eq_true rfl⟩ ⟨Nat.le_of_ble_eq_true rfl, Nat.le_of_ble_eq_true rfl⟩ hl.1 rfl (Nat.le_of_ble_eq_true rfl) dL_isOne_99 (fun w33 H locs Z => ?_)
            refine lv_icmp_gt (tgt := 107) hx hb dL_isOne_102 (by decide) (fun c35 => ?_) (fun c35 => ?_)
            · replace hm := (if_pos c35).symm.trans hm
              refine lv_iconst (v := 0) hx hb dL_isOne_107 (by decide) ?_
              refine lv_istore (lv' := [(5, .int 0), (4, .int 1), (0, .ref (G.1 160)), (1, .int x1), (2, .int x2), (3, .int x3)]) hx hb dL_isOne_108 hl (by decide) rfl (fun ls hl => ?_)
              exact pL_isOne_110 X kI n x1 x2 x3 (1 : Int32) (0 : Int32) _ _ _ Z (lv_sub hl [2, 3, 4, 5, 1, 0] rfl) hm
            · replace hm := (if_neg c35).symm.trans hm
              refine lv_iconst (v := 0) hx hb dL_isOne_105 (by decide) ?_
              obtain rfl := Option.some.inj hm
              exact kI _ _ _ _ dL_isOne_106 Z nb0
set_option maxHeartbeats 4000000 in
set_option maxRecDepth 100000 in
theorem pL_isOne_0 (X : gC p s m args meth c cL_isOne 9 wmL_isOne yL_isOne.cls (some .boolean) G A) {n : Nat} {g : Mem} {r : Int32} (kI : ∀ (pc : Nat) (ls : Array Slot) (H : Heap) (locs : List Loc), decode cL_isOne pc = .ok (.ireturn, 1) → WS wC G g A s.heap H locs → narrow .boolean (.int r) = .int r → W p l e { frames := 9, cells := 0, slots := 0, locals := 158 } s m args below meth c H locs 0 0 Q (F0 m pc ls [.int r])) : ∀ (x1 : Int32) (H : Heap) (locs : List Loc) (ls : Array Slot), WS wC G g A s.heap H locs → lv_has ls 9 [(0, .ref (G.1 160)), (1, .int x1)] → sL_isOne n g x1 = some r → W p l e { frames := 9, cells := 0, slots := 0, locals := 158 } s m args below meth c H locs 0 0 Q (F0 m 0 ls []) := by
  have hx := X.1
  have hb := X.2.1
  intro x1 H locs ls Z hl hm
  unfold sL_isOne at hm
  refine lv_aload_n hx hb dL_isOne_0 rfl (lv_at hl 0 rfl) ?_
  refine lv_iload_n hx hb dL_isOne_1 rfl (lv_at hl 1 rfl) ?_
  obtain ⟨r3, e1, hm⟩ := sOk1_some hm
  refine g_callVI (n := 1) (As := [.int x1]) (rest := []) (r0 := r3) (g0 := g) sameC X Z (nX6_state_c l e1 rfl) (oX6 k160) rfl (gooV mB479 mB480 mB481 mB285 mB382) rfl (by decide +kernel) rfl ⟨Nat.le_of_ble_eq_true rfl, Nat.le_of_ble_eq_true rfl⟩ ⟨Nat.le_of_ble_eq_true rfl, Nat.le_of_ble_eq_true rfl⟩ hl.1 rfl (Nat.le_of_ble_eq_true rfl) dL_isOne_2 (fun w2 H locs Z => ?_)
  refine lv_istore_n (lv' := [(2, .int r3), (0, .ref (G.1 160)), (1, .int x1)]) hx hb dL_isOne_5 rfl hl (by decide) rfl (fun ls hl => ?_)
  refine lv_aload_n hx hb dL_isOne_6 rfl (lv_at hl 1 rfl) ?_
  refine lv_iload_n hx hb dL_isOne_7 rfl (lv_at hl 2 rfl) ?_
  obtain ⟨r6, e4, hm⟩ := sOk1_some hm
  refine g_callVI (n := 1) (As := [.int x1]) (rest := []) (r0 := r6) (g0 := g) sameC X Z (nX6_timestamp_c l e4 rfl) (oX6 k160) rfl (gooV mB482 mB483 mB484 mB285 mB384) rfl (by decide +kernel) rfl ⟨Nat.le_of_ble_eq_true rfl, Nat.le_of_ble_eq_true rfl⟩ ⟨Nat.le_of_ble_eq_true rfl, Nat.le_of_ble_eq_true rfl⟩ hl.1 rfl (Nat.le_of_ble_eq_true rfl) dL_isOne_8 (fun w5 H locs Z => ?_)
  refine lv_istore_n (lv' := [(3, .int r6), (2, .int r3), (0, .ref (G.1 160)), (1, .int x1)]) hx hb dL_isOne_11 rfl hl (by decide) rfl (fun ls hl => ?_)
  refine lv_iload_n hx hb dL_isOne_12 rfl (lv_at hl 1 rfl) ?_
  refine lv_iconst (v := 1) hx hb dL_isOne_13 (by decide) ?_
  refine lv_icmp_eq (tgt := 22) hx hb dL_isOne_14 (by decide) (fun c7 => ?_) (fun c7 => ?_)
  · replace hm := (if_pos c7).symm.trans hm
    exact pL_isOne_22 X kI x1 r3 r6 _ _ _ Z (lv_sub hl [2, 3, 1, 0] rfl) hm
  · replace hm := (if_neg c7).symm.trans hm
    refine lv_iload_n hx hb dL_isOne_17 rfl (lv_at hl 1 rfl) ?_
    refine lv_iconst (v := 2) hx hb dL_isOne_18 (by decide) ?_
    refine lv_icmp_ne (tgt := 26) hx hb dL_isOne_19 (by decide) (fun c8 => ?_) (fun c8 => ?_)
    · replace hm := (if_neg c8).symm.trans hm
      refine lv_iconst (v := 0) hx hb dL_isOne_26 (by decide) ?_
      refine lv_istore (lv' := [(4, .int 0), (3, .int r6), (2, .int r3), (0, .ref (G.1 160)), (1, .int x1)]) hx hb dL_isOne_27 hl (by decide) rfl (fun ls hl => ?_)
      refine lv_iload_n hx hb dL_isOne_29 rfl (lv_at hl 1 rfl) ?_
      refine lv_if_lt (tgt := 37) hx hb dL_isOne_30 (by decide) (fun c9 => ?_) (fun c9 => ?_)
      · replace hm := (if_pos c9).symm.trans hm
        refine lv_iconst (v := 0) hx hb dL_isOne_37 (by decide) ?_
        refine lv_iload hx hb dL_isOne_38 (lv_at hl 0 rfl) ?_
        refine lv_icmp_ne (tgt := 105) hx hb dL_isOne_40 (by decide) (fun c10 => ?_) (fun c10 => ?_)
        · first | exact absurd c10 (by decide) | exact absurd (by decide) c10
        refine lv_aload_n hx hb dL_isOne_43 rfl (lv_at hl 3 rfl) ?_
        refine lv_iload_n hx hb dL_isOne_44 rfl (lv_at hl 4 rfl) ?_
        obtain ⟨r13, e11, hm⟩ := sOk1_some hm
        refine g_callVI (n := 1) (As := [.int x1]) (rest := []) (r0 := r13) (g0 := g) sameC X Z (nX6_requestTime_c l e11 rfl) (oX6 k160) rfl (gooV mB485 mB486 mB487 mB285 mB386) rfl (by decide +kernel) rfl ⟨Nat.le_of_ble_eq_true rfl, Nat.le_of_ble_eq_true rfl⟩ ⟨Nat.le_of_ble_eq_true rfl, Nat.le_of_ble_eq_true rfl⟩ hl.1 rfl (Nat.le_of_ble_eq_true rfl) dL_isOne_45 (fun w12 H locs Z => ?_)
        refine lv_if_lt (tgt := 55) hx hb dL_isOne_48 (by decide) (fun c14 => ?_) (fun c14 => ?_)
        · replace hm := (if_pos c14).symm.trans hm
          refine lv_iconst (v := 0) hx hb dL_isOne_55 (by decide) ?_
          refine lv_iload hx hb dL_isOne_56 (lv_at hl 0 rfl) ?_
          refine lv_icmp_ne (tgt := 105) hx hb dL_isOne_58 (by decide) (fun c15 => ?_) (fun c15 => ?_)
          · first | exact absurd c15 (by decide) | exact absurd (by decide) c15
          refine lv_aload_n hx hb dL_isOne_61 rfl (lv_at hl 3 rfl) ?_
          refine lv_iload_n hx hb dL_isOne_62 rfl (lv_at hl 4 rfl) ?_
          obtain ⟨r18, e16, hm⟩ := sOk1_some hm
          refine g_callVI (n := 1) (As := [.int x1]) (rest := []) (r0 := r18) (g0 := g) sameC X Z (nX6_commitTime_c l e16 rfl) (oX6 k160) rfl (gooV mB488 mB489 mB490 mB285 mB388) rfl (by decide +kernel) rfl ⟨Nat.le_of_ble_eq_true rfl, Nat.le_of_ble_eq_true rfl⟩ ⟨Nat.le_of_ble_eq_true rfl, Nat.le_of_ble_eq_true rfl⟩ hl.1 rfl (Nat.le_of_ble_eq_true rfl) dL_isOne_63 (fun w17 H locs Z => ?_)
          refine lv_if_lt (tgt := 73) hx hb dL_isOne_66 (by decide) (fun c19 => ?_) (fun c19 => ?_)
          · replace hm := (if_pos c19).symm.trans hm
            refine lv_iconst (v := 0) hx hb dL_isOne_73 (by decide) ?_
            refine lv_iload_n hx hb dL_isOne_74 rfl (lv_at hl 2 rfl) ?_
            refine lv_iconst (v := 2) hx hb dL_isOne_75 (by decide) ?_
            refine lv_icmp_ne (tgt := 83) hx hb dL_isOne_76 (by decide) (fun c20 => ?_) (fun c20 => ?_)
            · replace hm := (if_neg c20).symm.trans hm
              refine lv_iconst (v := 0) hx hb dL_isOne_83 (by decide) ?_
              refine lv_icmp_ne (tgt := 105) hx hb dL_isOne_84 (by decide) (fun c21 => ?_) (fun c21 => ?_)
              · first | exact absurd c21 (by decide) | exact absurd (by decide) c21
              refine lv_iload_n hx hb dL_isOne_87 rfl (lv_at hl 2 rfl) ?_
              refine lv_iconst (v := 2) hx hb dL_isOne_88 (by decide) ?_
              refine lv_icmp_ne (tgt := 107) hx hb dL_isOne_89 (by decide) (fun c22 => ?_) (fun c22 => ?_)
              · replace hm := (if_neg c22).symm.trans hm
                refine lv_iconst (v := 0) hx hb dL_isOne_107 (by decide) ?_
                refine lv_istore (lv' := [(5, .int 0), (4, .int 0), (3, .int r6), (2, .int r3), (0, .ref (G.1 160)), (1, .int x1)]) hx hb dL_isOne_108 hl (by decide) rfl (fun ls hl => ?_)
                exact pL_isOne_110 X kI n x1 r3 r6 (0 : Int32) (0 : Int32) _ _ _ Z (lv_sub hl [4, 5, 3, 2, 1, 0] rfl) hm
              · replace hm := (if_pos c22).symm.trans hm
                refine lv_aload_n hx hb dL_isOne_92 rfl (lv_at hl 3 rfl) ?_
                refine lv_iload_n hx hb dL_isOne_93 rfl (lv_at hl 4 rfl) ?_
                obtain ⟨r25, e23, hm⟩ := sOk1_some hm
                refine g_callVI (n := 1) (As := [.int x1]) (rest := []) (r0 := r25) (g0 := g) sameC X Z (nX6_commitTime_c l e23 rfl) (oX6 k160) rfl (gooV mB488 mB489 mB490 mB285 mB388) rfl (by decide +kernel) rfl ⟨Nat.le_of_ble_eq_true rfl, Nat.le_of_ble_eq_true rfl⟩ ⟨Nat.le_of_ble_eq_true rfl, Nat.le_of_ble_eq_true rfl⟩ hl.1 rfl (Nat.le_of_ble_eq_true rfl) dL_isOne_94 (fun w24 H locs Z => ?_)
                refine lv_aload_n hx hb dL_isOne_97 rfl (lv_at hl 3 rfl) ?_
                refine lv_iload_n hx hb dL_isOne_98 rfl (lv_at hl 4 rfl) ?_
                obtain ⟨r28, e26, hm⟩ := sOk1_some hm
                refine g_callVI (n := 1) (As := [.int x1]) (rest := [.int r25]) (r0 := r28) (g0 := g) sameC X Z (nX6_requestTime_c l e26 rfl) (oX6 k160) rfl (gooV mB485 mB486 mB487 mB285 mB386) rfl (by decide +kernel) rfl ⟨Nat.le_of_ble_eq_true rfl, Nat.le_of_ble_eq_true rfl⟩ ⟨Nat.le_of_ble_eq_true rfl, Nat.le_of_ble_eq_true rfl⟩ hl.1 rfl (Nat.le_of_ble_eq_true rfl) dL_isOne_99 (fun w27 H locs Z => ?_)
                refine lv_icmp_gt (tgt := 107) hx hb dL_isOne_102 (by decide) (fun c29 => ?_) (fun c29 => ?_)
                · replace hm := (if_pos c29).symm.trans hm
                  refine lv_iconst (v := 0) hx hb dL_isOne_107 (by decide) ?_
                  refine lv_istore (lv' := [(5, .int 0), (4, .int 0), (3, .int r6), (2, .int r3), (0, .ref (G.1 160)), (1, .int x1)]) hx hb dL_isOne_108 hl (by decide) rfl (fun ls hl => ?_)
                  exact pL_isOne_110 X kI n x1 r3 r6 (0 : Int32) (0 : Int32) _ _ _ Z (lv_sub hl [4, 5, 3, 2, 1, 0] rfl) hm
                · replace hm := (if_neg c29).symm.trans hm
                  refine lv_iconst (v := 0) hx hb dL_isOne_105 (by decide) ?_
                  obtain rfl := Option.some.inj hm
                  exact kI _ _ _ _ dL_isOne_106 Z nb0
            · replace hm := (if_pos c20).symm.trans hm
              refine lv_iconst (v := 1) hx hb dL_isOne_79 (by decide) ?_
              refine lv_goto (tgt := 84) hx hb dL_isOne_80 (by decide) ?_
              refine lv_icmp_ne (tgt := 105) hx hb dL_isOne_84 (by decide) (fun c30 => ?_) (fun c30 => ?_)
              rotate_left
              · first | exact absurd c30 (by decide) | exact absurd (by decide) c30
              refine lv_iconst (v := 0) hx hb dL_isOne_105 (by decide) ?_
              obtain rfl := Option.some.inj hm
              exact kI _ _ _ _ dL_isOne_106 Z nb0
          · replace hm := (if_neg c19).symm.trans hm
            refine lv_iconst (v := 1) hx hb dL_isOne_69 (by decide) ?_
            refine lv_goto (tgt := 74) hx hb dL_isOne_70 (by decide) ?_
            refine lv_iload_n hx hb dL_isOne_74 rfl (lv_at hl 2 rfl) ?_
            refine lv_iconst (v := 2) hx hb dL_isOne_75 (by decide) ?_
            refine lv_icmp_ne (tgt := 83) hx hb dL_isOne_76 (by decide) (fun c31 => ?_) (fun c31 => ?_)
            · replace hm := (if_neg c31).symm.trans hm
              refine lv_iconst (v := 0) hx hb dL_isOne_83 (by decide) ?_
              refine lv_icmp_ne (tgt := 105) hx hb dL_isOne_84 (by decide) (fun c32 => ?_) (fun c32 => ?_)
              rotate_left
              · first | exact absurd c32 (by decide) | exact absurd (by decide) c32
              refine lv_iconst (v := 0) hx hb dL_isOne_105 (by decide) ?_
              obtain rfl := Option.some.inj hm
              exact kI _ _ _ _ dL_isOne_106 Z nb0
            · replace hm := (if_pos c31).symm.trans hm
              refine lv_iconst (v := 1) hx hb dL_isOne_79 (by decide) ?_
              refine lv_goto (tgt := 84) hx hb dL_isOne_80 (by decide) ?_
              refine lv_icmp_ne (tgt := 105) hx hb dL_isOne_84 (by decide) (fun c33 => ?_) (fun c33 => ?_)
              · first | exact absurd c33 (by decide) | exact absurd (by decide) c33
              refine lv_iload_n hx hb dL_isOne_87 rfl (lv_at hl 2 rfl) ?_
              refine lv_iconst (v := 2) hx hb dL_isOne_88 (by decide) ?_
              refine lv_icmp_ne (tgt := 107) hx hb dL_isOne_89 (by decide) (fun c34 => ?_) (fun c34 => ?_)
              · replace hm := (if_neg c34).symm.trans hm
                refine lv_iconst (v := 0) hx hb dL_isOne_107 (by decide) ?_
                refine lv_istore (lv' := [(5, .int 0), (4, .int 0), (3, .int r6), (2, .int r3), (0, .ref (G.1 160)), (1, .int x1)]) hx hb dL_isOne_108 hl (by decide) rfl (fun ls hl => ?_)
                exact pL_isOne_110 X kI n x1 r3 r6 (0 : Int32) (0 : Int32) _ _ _ Z (lv_sub hl [4, 5, 3, 2, 1, 0] rfl) hm
              · replace hm := (if_pos c34).symm.trans hm
                refine lv_aload_n hx hb dL_isOne_92 rfl (lv_at hl 3 rfl) ?_
                refine lv_iload_n hx hb dL_isOne_93 rfl (lv_at hl 4 rfl) ?_
                obtain ⟨r37, e35, hm⟩ := sOk1_some hm
                refine g_callVI (n := 1) (As := [.int x1]) (rest := []) (r0 := r37) (g0 := g) sameC X Z (nX6_commitTime_c l e35 rfl) (oX6 k160) rfl (gooV mB488 mB489 mB490 mB285 mB388) rfl (by decide +kernel) rfl ⟨Nat.le_of_ble_eq_true rfl, Nat.le_of_ble_eq_true rfl⟩ ⟨Nat.le_of_ble_eq_true rfl, Nat.le_of_ble_eq_true rfl⟩ hl.1 rfl (Nat.le_of_ble_eq_true rfl) dL_isOne_94 (fun w36 H locs Z => ?_)
                refine lv_aload_n hx hb dL_isOne_97 rfl (lv_at hl 3 rfl) ?_
                refine lv_iload_n hx hb dL_isOne_98 rfl (lv_at hl 4 rfl) ?_
                obtain ⟨r40, e38, hm⟩ := sOk1_some hm
                refine g_callVI (n := 1) (As := [.int x1]) (rest := [.int r37]) (r0 := r40) (g0 := g) sameC X Z (nX6_requestTime_c l e38 rfl) (oX6 k160) rfl (gooV mB485 mB486 mB487 mB285 mB386) rfl (by decide +kernel) rfl ⟨Nat.le_of_ble_eq_true rfl, Nat.le_of_ble_eq_true rfl⟩ ⟨Nat.le_of_ble_eq_true rfl, Nat.le_of_ble_eq_true rfl⟩ hl.1 rfl (Nat.le_of_ble_eq_true rfl) dL_isOne_99 (fun w39 H locs Z => ?_)
                refine lv_icmp_gt (tgt := 107) hx hb dL_isOne_102 (by decide) (fun c41 => ?_) (fun c41 => ?_)
                · replace hm := (if_pos c41).symm.trans hm
                  refine lv_iconst (v := 0) hx hb dL_isOne_107 (by decide) ?_
                  refine lv_istore (lv' := [(5, .int 0), (4, .int 0), (3, .int r6), (2, .int r3), (0, .ref (G.1 160)), (1, .int x1)]) hx hb dL_isOne_108 hl (by decide) rfl (fun ls hl => ?_)
                  exact pL_isOne_110 X kI n x1 r3 r6 (0 : Int32) (0 : Int32) _ _ _ Z (lv_sub hl [4, 5, 3, 2, 1, 0] rfl) hm
                · replace hm := (if_neg c41).symm.trans hm
                  refine lv_iconst (v := 0) hx hb dL_isOne_105 (by decide) ?_
                  obtain rfl := Option.some.inj hm
                  exact kI _ _ _ _ dL_isOne_106 Z nb0
        · replace hm := (if_neg c14).symm.trans hm
          refine lv_iconst (v := 1) hx hb dL_isOne_51 (by decide) ?_
          refine lv_goto (tgt := 56) hx hb dL_isOne_52 (by decide) ?_
          refine lv_iload hx hb dL_isOne_56 (lv_at hl 0 rfl) ?_
          refine lv_icmp_ne (tgt := 105) hx hb dL_isOne_58 (by decide) (fun c42 => ?_) (fun c42 => ?_)
          rotate_left
          · first | exact absurd c42 (by decide) | exact absurd (by decide) c42
          refine lv_iconst (v := 0) hx hb dL_isOne_105 (by decide) ?_
          obtain rfl := Option.some.inj hm
          exact kI _ _ _ _ dL_isOne_106 Z nb0
      · replace hm := (if_neg c9).symm.trans hm
        refine lv_iconst (v := 1) hx hb dL_isOne_33 (by decide) ?_
        refine lv_goto (tgt := 38) hx hb dL_isOne_34 (by decide) ?_
        refine lv_iload hx hb dL_isOne_38 (lv_at hl 0 rfl) ?_
        refine lv_icmp_ne (tgt := 105) hx hb dL_isOne_40 (by decide) (fun c43 => ?_) (fun c43 => ?_)
        rotate_left
        · first | exact absurd c43 (by decide) | exact absurd (by decide) c43
        refine lv_iconst (v := 0) hx hb dL_isOne_105 (by decide) ?_
        obtain rfl := Option.some.inj hm
        exact kI _ _ _ _ dL_isOne_106 Z nb0
    · replace hm := (if_pos c8).symm.trans hm
      exact pL_isOne_22 X kI x1 r3 r6 _ _ _ Z (lv_sub hl [2, 3, 1, 0] rfl) hm
theorem cL_isOne_c (l : Launch) {G : LY} {g : Mem} {n : Nat} {x1 : Int32} {r : Int32} (hm : sL_isOne n g x1 = some r) : cI l yL_isOne wmL_isOne 9 158 .boolean wC G [.ref (G.1 160), .int x1] g r g :=
  mk_cI sameC (by decide +kernel) rfl (Nat.le_of_ble_eq_true rfl) (fun p e s m args below meth c A Q ls X kI hl Z => pL_isOne_0 X kI x1 _ _ ls Z hl hm)
abbrev wmL_areAll : List Cond := Cond.code yL_areAll cL_areAll 6 (some .boolean) :: wA0
set_option maxHeartbeats 4000000 in
set_option maxRecDepth 100000 in
theorem pL_areAll_70 (X : gC p s m args meth c cL_areAll 6 wmL_areAll yL_areAll.cls (some .boolean) G A) {n : Nat} {g : Mem} {r : Int32} (kI : ∀ (pc : Nat) (ls : Array Slot) (H : Heap) (locs : List Loc), decode cL_areAll pc = .ok (.ireturn, 1) → WS wC G g A s.heap H locs → narrow .boolean (.int r) = .int r → W p l e { frames := 10, cells := 0, slots := 0, locals := 186 } s m args below meth c H locs 0 0 Q (F0 m pc ls [.int r])) {rec12 : Int32 → Int32 → Int32 → Int32 → Option (Int32)} (h12 : ∀ (x1 : Int32) (x2 : Int32) (x3 : Int32) (x4 : Int32) (H : Heap) (locs : List Loc) (ls : Array Slot), WS wC G g A s.heap H locs → lv_has ls 6 [(0, .ref (G.1 160)), (1, .int x1), (2, .int x2), (3, .int x3), (4, .int x4)] → rec12 x1 x2 x3 x4 = some r → W p l e { frames := 10, cells := 0, slots := 0, locals := 186 } s m args below meth c H locs 0 0 Q (F0 m 12 ls [])) : ∀ (x1 : Int32) (x2 : Int32) (x3 : Int32) (x4 : Int32) (x5 : Int32) (H : Heap) (locs : List Loc) (ls : Array Slot), WS wC G g A s.heap H locs → lv_has ls 6 [(0, .ref (G.1 160)), (1, .int x1), (2, .int x2), (3, .int x3), (4, .int x4), (5, .int x5)] → sL_areAll_70 n g rec12 x1 x2 x3 x4 x5 = some r → W p l e { frames := 10, cells := 0, slots := 0, locals := 186 } s m args below meth c H locs 0 0 Q (F0 m 70 ls []) := by
  have hx := X.1
  have hb := X.2.1
  intro x1 x2 x3 x4 x5 H locs ls Z hl hm
  unfold sL_areAll_70 at hm
  refine lv_iload_n hx hb dL_areAll_70 rfl (lv_at hl 3 rfl) ?_
  refine lv_iload hx hb dL_areAll_71 (lv_at hl 5 rfl) ?_
  refine lv_iconst (v := 2) hx hb dL_areAll_73 (by decide) ?_
  refine lv_icmp_ne (tgt := 81) hx hb dL_areAll_74 (by decide) (fun c1 => ?_) (fun c1 => ?_)
  · replace hm := (if_neg c1).symm.trans hm
    refine lv_iconst (v := 0) hx hb dL_areAll_81 (by decide) ?_
    refine lv_iadd hx hb dL_areAll_82 ?_
    refine lv_istore_n (lv' := [(3, .int (x3 + (0 : Int32))), (0, .ref (G.1 160)), (1, .int x1), (2, .int x2), (4, .int x4), (5, .int x5)]) hx hb dL_areAll_83 rfl hl (by decide) rfl (fun ls hl => ?_)
    refine lv_iinc (v := (x4 + (1 : Int32))) (lv' := [(4, .int (x4 + (1 : Int32))), (3, .int (x3 + (0 : Int32))), (0, .ref (G.1 160)), (1, .int x1), (2, .int x2), (5, .int x5)]) hx hb dL_areAll_84 hl (k := 4) rfl rfl (by decide) rfl (fun ls hl => ?_)
    refine lv_goto (tgt := 12) hx hb dL_areAll_87 (by decide) ?_
    exact h12 x1 x2 (x3 + (0 : Int32)) (x4 + (1 : Int32)) _ _ _ Z (lv_sub hl [2, 3, 4, 1, 0] rfl) hm
  · replace hm := (if_pos c1).symm.trans hm
    refine lv_iconst (v := 1) hx hb dL_areAll_77 (by decide) ?_
    refine lv_goto (tgt := 82) hx hb dL_areAll_78 (by decide) ?_
    refine lv_iadd hx hb dL_areAll_82 ?_
    refine lv_istore_n (lv' := [(3, .int (x3 + (1 : Int32))), (0, .ref (G.1 160)), (1, .int x1), (2, .int x2), (4, .int x4), (5, .int x5)]) hx hb dL_areAll_83 rfl hl (by decide) rfl (fun ls hl => ?_)
    refine lv_iinc (v := (x4 + (1 : Int32))) (lv' := [(4, .int (x4 + (1 : Int32))), (3, .int (x3 + (1 : Int32))), (0, .ref (G.1 160)), (1, .int x1), (2, .int x2), (5, .int x5)]) hx hb dL_areAll_84 hl (k := 4) rfl rfl (by decide) rfl (fun ls hl => ?_)
    refine lv_goto (tgt := 12) hx hb dL_areAll_87 (by decide) ?_
    exact h12 x1 x2 (x3 + (1 : Int32)) (x4 + (1 : Int32)) _ _ _ Z (lv_sub hl [2, 3, 4, 1, 0] rfl) hm
set_option maxHeartbeats 4000000 in
set_option maxRecDepth 100000 in
theorem pL_areAll_104 (X : gC p s m args meth c cL_areAll 6 wmL_areAll yL_areAll.cls (some .boolean) G A) {n : Nat} {g : Mem} {r : Int32} (kI : ∀ (pc : Nat) (ls : Array Slot) (H : Heap) (locs : List Loc), decode cL_areAll pc = .ok (.ireturn, 1) → WS wC G g A s.heap H locs → narrow .boolean (.int r) = .int r → W p l e { frames := 10, cells := 0, slots := 0, locals := 186 } s m args below meth c H locs 0 0 Q (F0 m pc ls [.int r])) : ∀ (x2 : Int32) (x3 : Int32) (x4 : Int32) (H : Heap) (locs : List Loc) (ls : Array Slot), WS wC G g A s.heap H locs → lv_has ls 6 [(0, .ref (G.1 160)), (2, .int x2), (3, .int x3), (4, .int x4)] → sL_areAll_104 n g x2 x3 x4 = some r → W p l e { frames := 10, cells := 0, slots := 0, locals := 186 } s m args below meth c H locs 0 0 Q (F0 m 104 ls []) := by
  have hx := X.1
  have hb := X.2.1
  intro x2 x3 x4 H locs ls Z hl hm
  unfold sL_areAll_104 at hm
  refine lv_aload_n hx hb dL_areAll_104 rfl (lv_at hl 0 rfl) ?_
  obtain ⟨r3, e1, hm⟩ := sBi_some hm
  refine g_callSI (n := 1) (As := [.ref (G.1 160)]) (rest := []) sameC X Z (cL_areVersions_c l e1) (gooS mB521 mB522 mB499 mB478) rfl (by decide +kernel) rfl ⟨Nat.le_of_ble_eq_true rfl, Nat.le_of_ble_eq_true rfl⟩ ⟨Nat.le_of_ble_eq_true rfl, Nat.le_of_ble_eq_true rfl⟩ hl.1 rfl (Nat.le_of_ble_eq_true rfl) dL_areAll_105 (fun w2 H locs Z => ?_)
  refine lv_if_eq (tgt := 155) hx hb dL_areAll_108 (by decide) (fun c4 => ?_) (fun c4 => ?_)
  · replace hm := (if_pos c4).symm.trans hm
    refine lv_iconst (v := 0) hx hb dL_areAll_155 (by decide) ?_
    obtain rfl := Option.some.inj hm
    exact kI _ _ _ _ dL_areAll_156 Z nb0
  · replace hm := (if_neg c4).symm.trans hm
    refine lv_aload_n hx hb dL_areAll_111 rfl (lv_at hl 0 rfl) ?_
    obtain ⟨r7, e5, hm⟩ := sBi_some hm
    refine g_callVI (n := 0) (As := []) (rest := []) sameC X Z (cX6_totalWait_c l e5) (oX6 k160) rfl (gooV mB523 mB524 mB525 mB285 mB422) rfl (by decide +kernel) rfl ⟨Nat.le_of_ble_eq_true rfl, Nat.le_of_ble_eq_true rfl⟩ ⟨Nat.le_of_ble_eq_true rfl, Nat.le_of_ble_eq_true rfl⟩ hl.1 rfl (Nat.le_of_ble_eq_true rfl) dL_areAll_112 (fun w6 H locs Z => ?_)
    refine lv_iload_n hx hb dL_areAll_115 rfl (lv_at hl 1 rfl) ?_
    refine lv_icmp_ne (tgt := 155) hx hb dL_areAll_116 (by decide) (fun c8 => ?_) (fun c8 => ?_)
    · replace hm := (if_neg c8).symm.trans hm
      refine lv_iconst (v := 0) hx hb dL_areAll_155 (by decide) ?_
      obtain rfl := Option.some.inj hm
      exact kI _ _ _ _ dL_areAll_156 Z nb0
    · replace hm := (if_pos c8).symm.trans hm
      refine lv_aload_n hx hb dL_areAll_119 rfl (lv_at hl 0 rfl) ?_
      refine lv_iconst (v := 2) hx hb dL_areAll_120 (by decide) ?_
      obtain ⟨r11, e9, hm⟩ := sOk1_some hm
      refine g_callVI (n := 1) (As := [.int 2]) (rest := []) (r0 := r11) (g0 := g) sameC X Z (nX6_countInState_c l e9 rfl) (oX6 k160) rfl (gooV mB526 mB527 mB528 mB285 mB418) rfl (by decide +kernel) rfl ⟨Nat.le_of_ble_eq_true rfl, Nat.le_of_ble_eq_true rfl⟩ ⟨Nat.le_of_ble_eq_true rfl, Nat.le_of_ble_eq_true rfl⟩ hl.1 rfl (Nat.le_of_ble_eq_true rfl) dL_areAll_121 (fun w10 H locs Z => ?_)
      refine lv_iload_n hx hb dL_areAll_124 rfl (lv_at hl 2 rfl) ?_
      refine lv_icmp_ne (tgt := 155) hx hb dL_areAll_125 (by decide) (fun c12 => ?_) (fun c12 => ?_)
      · replace hm := (if_neg c12).symm.trans hm
        refine lv_iconst (v := 0) hx hb dL_areAll_155 (by decide) ?_
        obtain rfl := Option.some.inj hm
        exact kI _ _ _ _ dL_areAll_156 Z nb0
      · replace hm := (if_pos c12).symm.trans hm
        refine lv_iload hx hb dL_areAll_128 (lv_at hl 3 rfl) ?_
        refine lv_if_eq (tgt := 140) hx hb dL_areAll_130 (by decide) (fun c13 => ?_) (fun c13 => ?_)
        · replace hm := (if_pos c13).symm.trans hm
          refine lv_aload_n hx hb dL_areAll_140 rfl (lv_at hl 0 rfl) ?_
          obtain ⟨r16, e14, hm⟩ := sBi_some hm
          refine g_callVI (n := 0) (As := []) (rest := []) sameC X Z (cX6_readFloor_c l e14) (oX6 k160) rfl (gooV mB532 mB533 mB534 mB285 mB413) rfl (by decide +kernel) rfl ⟨Nat.le_of_ble_eq_true rfl, Nat.le_of_ble_eq_true rfl⟩ ⟨Nat.le_of_ble_eq_true rfl, Nat.le_of_ble_eq_true rfl⟩ hl.1 rfl (Nat.le_of_ble_eq_true rfl) dL_areAll_141 (fun w15 H locs Z => ?_)
          refine lv_aload_n hx hb dL_areAll_144 rfl (lv_at hl 0 rfl) ?_
          obtain ⟨r19, e17, hm⟩ := sBi_some hm
          refine g_callVI (n := 0) (As := []) (rest := [.int r16]) sameC X Z (cX6_safeTime_c l e17) (oX6 k160) rfl (gooV mB506 mB507 mB508 mB285 mB412) rfl (by decide +kernel) rfl ⟨Nat.le_of_ble_eq_true rfl, Nat.le_of_ble_eq_true rfl⟩ ⟨Nat.le_of_ble_eq_true rfl, Nat.le_of_ble_eq_true rfl⟩ hl.1 rfl (Nat.le_of_ble_eq_true rfl) dL_areAll_145 (fun w18 H locs Z => ?_)
          refine lv_icmp_gt (tgt := 155) hx hb dL_areAll_148 (by decide) (fun c20 => ?_) (fun c20 => ?_)
          · replace hm := (if_pos c20).symm.trans hm
            refine lv_iconst (v := 0) hx hb dL_areAll_155 (by decide) ?_
            obtain rfl := Option.some.inj hm
            exact kI _ _ _ _ dL_areAll_156 Z nb0
          · replace hm := (if_neg c20).symm.trans hm
            refine lv_iconst (v := 1) hx hb dL_areAll_151 (by decide) ?_
            refine lv_goto (tgt := 156) hx hb dL_areAll_152 (by decide) ?_
            obtain rfl := Option.some.inj hm
            exact kI _ _ _ _ dL_areAll_156 Z nb1
        · replace hm := (if_neg c13).symm.trans hm
          refine lv_aload_n hx hb dL_areAll_133 rfl (lv_at hl 0 rfl) ?_
          obtain ⟨r23, e21, hm⟩ := sBi_some hm
          refine g_callVI (n := 0) (As := []) (rest := []) sameC X Z (cX6_inversions_c l e21) (oX6 k160) rfl (gooV mB529 mB530 mB531 mB285 mB428) rfl (by decide +kernel) rfl ⟨Nat.le_of_ble_eq_true rfl, Nat.le_of_ble_eq_true rfl⟩ ⟨Nat.le_of_ble_eq_true rfl, Nat.le_of_ble_eq_true rfl⟩ hl.1 rfl (Nat.le_of_ble_eq_true rfl) dL_areAll_134 (fun w22 H locs Z => ?_)
          refine lv_if_ne (tgt := 155) hx hb dL_areAll_137 (by decide) (fun c24 => ?_) (fun c24 => ?_)
          · replace hm := (if_neg c24).symm.trans hm
            refine lv_iconst (v := 0) hx hb dL_areAll_155 (by decide) ?_
            obtain rfl := Option.some.inj hm
            exact kI _ _ _ _ dL_areAll_156 Z nb0
          · replace hm := (if_pos c24).symm.trans hm
            refine lv_aload_n hx hb dL_areAll_140 rfl (lv_at hl 0 rfl) ?_
            obtain ⟨r27, e25, hm⟩ := sBi_some hm
            refine g_callVI (n := 0) (As := []) (rest := []) sameC X Z (cX6_readFloor_c l e25) (oX6 k160) rfl (gooV mB532 mB533 mB534 mB285 mB413) rfl (by decide +kernel) rfl ⟨Nat.le_of_ble_eq_true rfl, Nat.le_of_ble_eq_true rfl⟩ ⟨Nat.le_of_ble_eq_true rfl, Nat.le_of_ble_eq_true rfl⟩ hl.1 rfl (Nat.le_of_ble_eq_true rfl) dL_areAll_141 (fun w26 H locs Z => ?_)
            refine lv_aload_n hx hb dL_areAll_144 rfl (lv_at hl 0 rfl) ?_
            obtain ⟨r30, e28, hm⟩ := sBi_some hm
            refine g_callVI (n := 0) (As := []) (rest := [.int r27]) sameC X Z (cX6_safeTime_c l e28) (oX6 k160) rfl (gooV mB506 mB507 mB508 mB285 mB412) rfl (by decide +kernel) rfl ⟨Nat.le_of_ble_eq_true rfl, Nat.le_of_ble_eq_true rfl⟩ ⟨Nat.le_of_ble_eq_true rfl, Nat.le_of_ble_eq_true rfl⟩ hl.1 rfl (Nat.le_of_ble_eq_true rfl) dL_areAll_145 (fun w29 H locs Z => ?_)
            refine lv_icmp_gt (tgt := 155) hx hb dL_areAll_148 (by decide) (fun c31 => ?_) (fun c31 => ?_)
            · replace hm := (if_pos c31).symm.trans hm
              refine lv_iconst (v := 0) hx hb dL_areAll_155 (by decide) ?_
              obtain rfl := Option.some.inj hm
              exact kI _ _ _ _ dL_areAll_156 Z nb0
            · replace hm := (if_neg c31).symm.trans hm
              refine lv_iconst (v := 1) hx hb dL_areAll_151 (by decide) ?_
              refine lv_goto (tgt := 156) hx hb dL_areAll_152 (by decide) ?_
              obtain rfl := Option.some.inj hm
              exact kI _ _ _ _ dL_areAll_156 Z nb1
set_option maxHeartbeats 4000000 in
set_option maxRecDepth 100000 in
theorem pL_areAll_90 (X : gC p s m args meth c cL_areAll 6 wmL_areAll yL_areAll.cls (some .boolean) G A) {n : Nat} {g : Mem} {r : Int32} (kI : ∀ (pc : Nat) (ls : Array Slot) (H : Heap) (locs : List Loc), decode cL_areAll pc = .ok (.ireturn, 1) → WS wC G g A s.heap H locs → narrow .boolean (.int r) = .int r → W p l e { frames := 10, cells := 0, slots := 0, locals := 186 } s m args below meth c H locs 0 0 Q (F0 m pc ls [.int r])) : ∀ (x2 : Int32) (x3 : Int32) (H : Heap) (locs : List Loc) (ls : Array Slot), WS wC G g A s.heap H locs → lv_has ls 6 [(0, .ref (G.1 160)), (2, .int x2), (3, .int x3)] → sL_areAll_90 n g x2 x3 = some r → W p l e { frames := 10, cells := 0, slots := 0, locals := 186 } s m args below meth c H locs 0 0 Q (F0 m 90 ls []) := by
  have hx := X.1
  have hb := X.2.1
  intro x2 x3 H locs ls Z hl hm
  unfold sL_areAll_90 at hm
  refine lv_aload_n hx hb dL_areAll_90 rfl (lv_at hl 0 rfl) ?_
  obtain ⟨r3, e1, hm⟩ := sBi_some hm
  refine g_callVI (n := 0) (As := []) (rest := []) sameC X Z (cX6_unsoundUses_c l e1) (oX6 k160) rfl (gooV mB518 mB519 mB520 mB285 mB426) rfl (by decide +kernel) rfl ⟨Nat.le_of_ble_eq_true rfl, Nat.le_of_ble_eq_true rfl⟩ ⟨Nat.le_of_ble_eq_true rfl, Nat.le_of_ble_eq_true rfl⟩ hl.1 rfl (Nat.le_of_ble_eq_true rfl) dL_areAll_91 (fun w2 H locs Z => ?_)
  refine lv_if_ne (tgt := 101) hx hb dL_areAll_94 (by decide) (fun c4 => ?_) (fun c4 => ?_)
  · replace hm := (if_neg c4).symm.trans hm
    refine lv_iconst (v := 0) hx hb dL_areAll_101 (by decide) ?_
    refine lv_istore (lv' := [(4, .int 0), (0, .ref (G.1 160)), (2, .int x2), (3, .int x3)]) hx hb dL_areAll_102 hl (by decide) rfl (fun ls hl => ?_)
    exact pL_areAll_104 X kI x2 x3 (0 : Int32) _ _ _ Z (lv_sub hl [1, 2, 3, 0] rfl) hm
  · replace hm := (if_pos c4).symm.trans hm
    refine lv_iconst (v := 1) hx hb dL_areAll_97 (by decide) ?_
    refine lv_goto (tgt := 102) hx hb dL_areAll_98 (by decide) ?_
    refine lv_istore (lv' := [(4, .int 1), (0, .ref (G.1 160)), (2, .int x2), (3, .int x3)]) hx hb dL_areAll_102 hl (by decide) rfl (fun ls hl => ?_)
    exact pL_areAll_104 X kI x2 x3 (1 : Int32) _ _ _ Z (lv_sub hl [1, 2, 3, 0] rfl) hm
set_option maxHeartbeats 4000000 in
set_option maxRecDepth 100000 in
theorem pL_areAll_12 (X : gC p s m args meth c cL_areAll 6 wmL_areAll yL_areAll.cls (some .boolean) G A) {n : Nat} {g : Mem} {r : Int32} (kI : ∀ (pc : Nat) (ls : Array Slot) (H : Heap) (locs : List Loc), decode cL_areAll pc = .ok (.ireturn, 1) → WS wC G g A s.heap H locs → narrow .boolean (.int r) = .int r → W p l e { frames := 10, cells := 0, slots := 0, locals := 186 } s m args below meth c H locs 0 0 Q (F0 m pc ls [.int r])) : ∀ (f : Nat), ∀ (x1 : Int32) (x2 : Int32) (x3 : Int32) (x4 : Int32) (H : Heap) (locs : List Loc) (ls : Array Slot), WS wC G g A s.heap H locs → lv_has ls 6 [(0, .ref (G.1 160)), (1, .int x1), (2, .int x2), (3, .int x3), (4, .int x4)] → sL_areAll_12 n g f x1 x2 x3 x4 = some r → W p l e { frames := 10, cells := 0, slots := 0, locals := 186 } s m args below meth c H locs 0 0 Q (F0 m 12 ls []) := by
  have hx := X.1
  have hb := X.2.1
  intro f
  induction f with
  | zero =>
    intro x1 x2 x3 x4 H locs ls Z hl hm
    cases hm
  | succ f ih =>
    intro x1 x2 x3 x4 H locs ls Z hl hm
    unfold sL_areAll_12 at hm
    refine lv_iload hx hb dL_areAll_12 (lv_at hl 4 rfl) ?_
    refine lv_iload_n hx hb dL_areAll_14 rfl (lv_at hl 1 rfl) ?_
    refine lv_icmp_ge (tgt := 90) hx hb dL_areAll_15 (by decide) (fun c1 => ?_) (fun c1 => ?_)
    · replace hm := (if_pos c1).symm.trans hm
      exact pL_areAll_90 X kI x2 x3 _ _ _ Z (lv_sub hl [0, 2, 3] rfl) hm
    · replace hm := (if_neg c1).symm.trans hm
      refine lv_iload hx hb dL_areAll_18 (lv_at hl 4 rfl) ?_
      refine lv_bipush (v := 40) hx hb dL_areAll_20 (by decide) ?_
      refine lv_icmp_ge (tgt := 90) hx hb dL_areAll_22 (by decide) (fun c2 => ?_) (fun c2 => ?_)
      · replace hm := (if_pos c2).symm.trans hm
        exact pL_areAll_90 X kI x2 x3 _ _ _ Z (lv_sub hl [0, 2, 3] rfl) hm
      · replace hm := (if_neg c2).symm.trans hm
        refine lv_aload_n hx hb dL_areAll_25 rfl (lv_at hl 0 rfl) ?_
        refine lv_iload hx hb dL_areAll_26 (lv_at hl 4 rfl) ?_
        obtain ⟨r5, e3, hm⟩ := sBi_some hm
        refine g_callSI (n := 2) (As := [.ref (G.1 160), .int x4]) (rest := []) sameC X Z (cL_isOne_c l e3) (gooS mB516 mB517 mB499 mB512) rfl (by decide +kernel) rfl ⟨Nat.le_of_ble_eq_true rfl, Nat.le_of_ble_eq_true rfl⟩ ⟨Nat.le_of_ble_eq_true rfl, Nat.le_of_ble_eq_true rfl⟩ hl.1 rfl (Nat.le_of_ble_eq_true rfl) dL_areAll_28 (fun w4 H locs Z => ?_)
        refine lv_if_ne (tgt := 36) hx hb dL_areAll_31 (by decide) (fun c6 => ?_) (fun c6 => ?_)
        · replace hm := (if_neg c6).symm.trans hm
          refine lv_aload_n hx hb dL_areAll_36 rfl (lv_at hl 0 rfl) ?_
          refine lv_iload hx hb dL_areAll_37 (lv_at hl 4 rfl) ?_
          obtain ⟨r9, e7, hm⟩ := sOk1_some hm
          refine g_callVI (n := 1) (As := [.int x4]) (rest := []) (r0 := r9) (g0 := g) sameC X Z (nX6_state_c l e7 rfl) (oX6 k160) rfl (gooV mB479 mB480 mB481 mB285 mB382) rfl (by decide +kernel) rfl ⟨Nat.le_of_ble_eq_true rfl, Nat.le_of_ble_eq_true rfl⟩ ⟨Nat.le_of_ble_eq_true rfl, Nat.le_of_ble_eq_true rfl⟩ hl.1 rfl (Nat.le_of_ble_eq_true rfl) dL_areAll_39 (fun w8 H locs Z => ?_)
          refine lv_istore (lv' := [(5, .int r9), (0, .ref (G.1 160)), (1, .int x1), (2, .int x2), (3, .int x3), (4, .int x4)]) hx hb dL_areAll_42 hl (by decide) rfl (fun ls hl => ?_)
          refine lv_iload_n hx hb dL_areAll_44 rfl (lv_at hl 3 rfl) ?_
          refine lv_iload hx hb dL_areAll_45 (lv_at hl 0 rfl) ?_
          refine lv_iconst (v := 2) hx hb dL_areAll_47 (by decide) ?_
          refine lv_icmp_ne (tgt := 67) hx hb dL_areAll_48 (by decide) (fun c10 => ?_) (fun c10 => ?_)
          · replace hm := (if_neg c10).symm.trans hm
            refine lv_iconst (v := 0) hx hb dL_areAll_67 (by decide) ?_
            refine lv_iadd hx hb dL_areAll_68 ?_
            refine lv_istore_n (lv' := [(2, .int (x2 + (0 : Int32))), (5, .int r9), (0, .ref (G.1 160)), (1, .int x1), (3, .int x3), (4, .int x4)]) hx hb dL_areAll_69 rfl hl (by decide) rfl (fun ls hl => ?_)
            exact pL_areAll_70 X kI ih x1 (x2 + (0 : Int32)) x3 x4 r9 _ _ _ Z (lv_sub hl [2, 3, 0, 4, 5, 1] rfl) hm
          · replace hm := (if_pos c10).symm.trans hm
            refine lv_aload_n hx hb dL_areAll_51 rfl (lv_at hl 1 rfl) ?_
            refine lv_iload hx hb dL_areAll_52 (lv_at hl 5 rfl) ?_
            obtain ⟨r13, e11, hm⟩ := sOk1_some hm
            refine g_callVI (n := 1) (As := [.int x4]) (rest := [.int x2]) (r0 := r13) (g0 := g) sameC X Z (nX6_commitTime_c l e11 rfl) (oX6 k160) rfl (gooV mB488 mB489 mB490 mB285 mB388) rfl (by decide +kernel) rfl ⟨Nat.le_of_ble_eq_true rfl, Nat.le_of_ble_eq_true rfl⟩ ⟨Nat.le_of_ble_eq_true rfl, Nat.le_of_ble_eq_true rfl⟩ hl.1 rfl (Nat.le_of_ble_eq_true rfl) dL_areAll_54 (fun w12 H locs Z => ?_)
            refine lv_aload_n hx hb dL_areAll_57 rfl (lv_at hl 1 rfl) ?_
            refine lv_iload hx hb dL_areAll_58 (lv_at hl 5 rfl) ?_
            obtain ⟨r16, e14, hm⟩ := sOk1_some hm
            refine g_callVI (n := 1) (As := [.int x4]) (rest := [.int r13, .int x2]) (r0 := r16) (g0 := g) sameC X Z (nX6_requestTime_c l e14 rfl) (oX6 k160) rfl (gooV mB485 mB486 mB487 mB285 mB386) rfl (by decide +kernel) rfl ⟨Nat.le_of_ble_eq_true rfl, Nat.le_of_ble_eq_true rfl⟩ ⟨Nat.le_of_ble_eq_true rfl, Nat.le_of_ble_eq_true rfl⟩ hl.1 rfl (Nat.le_of_ble_eq_true rfl) dL_areAll_60 (fun w15 H locs Z => ?_)
            refine lv_isub hx hb dL_areAll_63 ?_
            refine lv_goto (tgt := 68) hx hb dL_areAll_64 (by decide) ?_
            refine lv_iadd hx hb dL_areAll_68 ?_
            refine lv_istore_n (lv' := [(2, .int (x2 + (r13 - r16))), (5, .int r9), (0, .ref (G.1 160)), (1, .int x1), (3, .int x3), (4, .int x4)]) hx hb dL_areAll_69 rfl hl (by decide) rfl (fun ls hl => ?_)
            exact pL_areAll_70 X kI ih x1 (x2 + (r13 - r16)) x3 x4 r9 _ _ _ Z (lv_sub hl [2, 3, 0, 4, 5, 1] rfl) hm
        · replace hm := (if_pos c6).symm.trans hm
          refine lv_iconst (v := 0) hx hb dL_areAll_34 (by decide) ?_
          obtain rfl := Option.some.inj hm
          exact kI _ _ _ _ dL_areAll_35 Z nb0
set_option maxHeartbeats 4000000 in
set_option maxRecDepth 100000 in
theorem pL_areAll_0 (X : gC p s m args meth c cL_areAll 6 wmL_areAll yL_areAll.cls (some .boolean) G A) {n : Nat} {g : Mem} {r : Int32} (kI : ∀ (pc : Nat) (ls : Array Slot) (H : Heap) (locs : List Loc), decode cL_areAll pc = .ok (.ireturn, 1) → WS wC G g A s.heap H locs → narrow .boolean (.int r) = .int r → W p l e { frames := 10, cells := 0, slots := 0, locals := 186 } s m args below meth c H locs 0 0 Q (F0 m pc ls [.int r])) : ∀ (H : Heap) (locs : List Loc) (ls : Array Slot), WS wC G g A s.heap H locs → lv_has ls 6 [(0, .ref (G.1 160))] → sL_areAll n g = some r → W p l e { frames := 10, cells := 0, slots := 0, locals := 186 } s m args below meth c H locs 0 0 Q (F0 m 0 ls []) := by
  have hx := X.1
  have hb := X.2.1
  intro H locs ls Z hl hm
  unfold sL_areAll at hm
  refine lv_aload_n hx hb dL_areAll_0 rfl (lv_at hl 0 rfl) ?_
  obtain ⟨r3, e1, hm⟩ := sBi_some hm
  refine g_callVI (n := 0) (As := []) (rest := []) sameC X Z (cX6_transactions_c l e1) (oX6 k160) rfl (gooV mB513 mB514 mB515 mB285 mB381) rfl (by decide +kernel) rfl ⟨Nat.le_of_ble_eq_true rfl, Nat.le_of_ble_eq_true rfl⟩ ⟨Nat.le_of_ble_eq_true rfl, Nat.le_of_ble_eq_true rfl⟩ hl.1 rfl (Nat.le_of_ble_eq_true rfl) dL_areAll_1 (fun w2 H locs Z => ?_)
  refine lv_istore_n (lv' := [(1, .int r3), (0, .ref (G.1 160))]) hx hb dL_areAll_4 rfl hl (by decide) rfl (fun ls hl => ?_)
  refine lv_iconst (v := 0) hx hb dL_areAll_5 (by decide) ?_
  refine lv_istore_n (lv' := [(2, .int 0), (1, .int r3), (0, .ref (G.1 160))]) hx hb dL_areAll_6 rfl hl (by decide) rfl (fun ls hl => ?_)
  refine lv_iconst (v := 0) hx hb dL_areAll_7 (by decide) ?_
  refine lv_istore_n (lv' := [(3, .int 0), (2, .int 0), (1, .int r3), (0, .ref (G.1 160))]) hx hb dL_areAll_8 rfl hl (by decide) rfl (fun ls hl => ?_)
  refine lv_iconst (v := 0) hx hb dL_areAll_9 (by decide) ?_
  refine lv_istore (lv' := [(4, .int 0), (3, .int 0), (2, .int 0), (1, .int r3), (0, .ref (G.1 160))]) hx hb dL_areAll_10 hl (by decide) rfl (fun ls hl => ?_)
  exact pL_areAll_12 X kI n r3 (0 : Int32) (0 : Int32) (0 : Int32) _ _ _ Z (lv_sub hl [4, 3, 2, 1, 0] rfl) hm
theorem cL_areAll_c (l : Launch) {G : LY} {g : Mem} {n : Nat} {r : Int32} (hm : sL_areAll n g = some r) : cI l yL_areAll wmL_areAll 10 186 .boolean wC G [.ref (G.1 160)] g r g :=
  mk_cI sameC (by decide +kernel) rfl (Nat.le_of_ble_eq_true rfl) (fun p e s m args below meth c A Q ls X kI hl Z => pL_areAll_0 X kI  _ _ ls Z hl hm)
abbrev wmL_does : List Cond := Cond.code yL_does cL_does 11 (some .boolean) :: wA0
set_option maxHeartbeats 4000000 in
set_option maxRecDepth 100000 in
theorem pL_does_101 (X : gC p s m args meth c cL_does 11 wmL_does yL_does.cls (some .boolean) G A) (hst : l.stackTraces = false) {n : Nat} {r : Int32 × Mem} (kI : ∀ (pc : Nat) (ls : Array Slot) (H : Heap) (locs : List Loc) (cells slots : Nat), cells ≤ 4 ∧ slots ≤ 24 → decode cL_does pc = .ok (.ireturn, 1) → WS wC G r.2 A s.heap H locs → narrow .boolean (.int r.1) = .int r.1 → W p l e { frames := 9, cells := 4, slots := 24, locals := 160 } s m args below meth c H locs cells slots Q (F0 m pc ls [.int r.1])) : ∀ (cells slots : Nat), cells + 2 ≤ 4 ∧ slots + 12 ≤ 24 → ∀ (g : Mem) (x1 : Int32) (x2 : Int32) (H : Heap) (locs : List Loc) (ls : Array Slot), WS wC G g A s.heap H locs → lv_has ls 11 [(0, .ref (G.1 160)), (1, .int x1), (2, .int x2)] → sL_does_101 n g x1 x2 = some r → W p l e { frames := 9, cells := 4, slots := 24, locals := 160 } s m args below meth c H locs cells slots Q (F0 m 101 ls []) := by
  have hx := X.1
  have hb := X.2.1
  intro cells slots hcs g x1 x2 H locs ls Z hl hm
  unfold sL_does_101 at hm
  refine lv_aload_n hx hb dL_does_101 rfl (lv_at hl 0 rfl) ?_
  refine lv_iload_n hx hb dL_does_102 rfl (lv_at hl 1 rfl) ?_
  refine lv_iconst (v := 5) hx hb dL_does_103 (by decide) ?_
  refine lv_ishr hx hb dL_does_104 ?_
  refine lv_iconst (v := 3) hx hb dL_does_105 (by decide) ?_
  obtain ⟨r3, e1, hm⟩ := sBi_some hm
  refine g_callSI (n := 2) (As := [.int (x1 >>> ((5 : Int32) &&& 31)), .int 3]) (rest := [.ref (G.1 160)]) sameC X Z (cL_low_c l e1) (gooS mB537 mB538 mB499 mB437) rfl (by decide +kernel) rfl ⟨Nat.le_of_ble_eq_true rfl, Nat.le_of_ble_eq_true rfl⟩ (hcL hcs) hl.1 rfl (Nat.le_of_ble_eq_true rfl) dL_does_106 (fun w2 H locs Z => ?_)
  obtain ⟨r6, g7, e4, hm⟩ := sBi2_some hm
  refine g_callW (n := 2) (As := [.ref (G.1 160), .int r3]) (rest := []) (mcc := 2) (msc := 12) X Z (cL_begins_c l hst e4) (gooS mB539 mB540 mB499 mB444) rfl (by decide +kernel) rfl ⟨Nat.le_of_ble_eq_true rfl, Nat.le_of_ble_eq_true rfl⟩ rfl rfl (hcM hcs rfl rfl) hl.1 rfl (Nat.le_of_ble_eq_true rfl) dL_does_109 (fun H locs Z => ?_)
  have hcs : (cells + 2) + 0 ≤ 4 ∧ (slots + 12) + 0 ≤ 24 := ⟨by have := hcs.1; omega, by have := hcs.2; omega⟩
  refine lv_iload_n hx hb dL_does_112 rfl (lv_at hl 2 rfl) ?_
  refine lv_bipush (v := 40) hx hb dL_does_113 (by decide) ?_
  refine lv_icmp_ne (tgt := 123) hx hb dL_does_115 (by decide) (fun c8 => ?_) (fun c8 => ?_)
  · replace hm := (if_neg c8).symm.trans hm
    refine lv_iload_n hx hb dL_does_123 rfl (lv_at hl 2 rfl) ?_
    refine lv_icmp_ne (tgt := 131) hx hb dL_does_124 (by decide) (fun c9 => ?_) (fun c9 => ?_)
    · replace hm := (if_neg c9).symm.trans hm
      refine lv_iconst (v := 0) hx hb dL_does_131 (by decide) ?_
      obtain rfl := Option.some.inj hm
      exact kI _ _ _ _ _ _ ⟨by have := hcs.1; omega, by have := hcs.2; omega⟩ dL_does_132 Z nb0
    · replace hm := (if_pos c9).symm.trans hm
      refine lv_iconst (v := 1) hx hb dL_does_127 (by decide) ?_
      refine lv_goto (tgt := 132) hx hb dL_does_128 (by decide) ?_
      obtain rfl := Option.some.inj hm
      exact kI _ _ _ _ _ _ ⟨by have := hcs.1; omega, by have := hcs.2; omega⟩ dL_does_132 Z nb1
  · replace hm := (if_pos c8).symm.trans hm
    refine lv_ldc (v := (-1000000)) hx hb X.2.2.2.1 (X.2.2.2.2.1 _ (List.mem_cons_of_mem _ mB440)) dL_does_118 ?_
    refine lv_goto (tgt := 124) hx hb dL_does_120 (by decide) ?_
    refine lv_icmp_ne (tgt := 131) hx hb dL_does_124 (by decide) (fun c10 => ?_) (fun c10 => ?_)
    · replace hm := (if_neg c10).symm.trans hm
      refine lv_iconst (v := 0) hx hb dL_does_131 (by decide) ?_
      obtain rfl := Option.some.inj hm
      exact kI _ _ _ _ _ _ ⟨by have := hcs.1; omega, by have := hcs.2; omega⟩ dL_does_132 Z nb0
    · replace hm := (if_pos c10).symm.trans hm
      refine lv_iconst (v := 1) hx hb dL_does_127 (by decide) ?_
      refine lv_goto (tgt := 132) hx hb dL_does_128 (by decide) ?_
      obtain rfl := Option.some.inj hm
      exact kI _ _ _ _ _ _ ⟨by have := hcs.1; omega, by have := hcs.2; omega⟩ dL_does_132 Z nb1
set_option maxHeartbeats 4000000 in
set_option maxRecDepth 100000 in
theorem pL_does_216 (X : gC p s m args meth c cL_does 11 wmL_does yL_does.cls (some .boolean) G A) (hst : l.stackTraces = false) {n : Nat} {r : Int32 × Mem} (kI : ∀ (pc : Nat) (ls : Array Slot) (H : Heap) (locs : List Loc) (cells slots : Nat), cells ≤ 4 ∧ slots ≤ 24 → decode cL_does pc = .ok (.ireturn, 1) → WS wC G r.2 A s.heap H locs → narrow .boolean (.int r.1) = .int r.1 → W p l e { frames := 9, cells := 4, slots := 24, locals := 160 } s m args below meth c H locs cells slots Q (F0 m pc ls [.int r.1])) : ∀ (cells slots : Nat), cells + 3 ≤ 4 ∧ slots + 18 ≤ 24 → ∀ (g : Mem) (x3 : Int32) (x4 : Int32) (x9 : Int32) (H : Heap) (locs : List Loc) (ls : Array Slot), WS wC G g A s.heap H locs → lv_has ls 11 [(0, .ref (G.1 160)), (3, .int x3), (4, .int x4), (9, .int x9)] → sL_does_216 n g x3 x4 x9 = some r → W p l e { frames := 9, cells := 4, slots := 24, locals := 160 } s m args below meth c H locs cells slots Q (F0 m 216 ls []) := by
  have hx := X.1
  have hb := X.2.1
  intro cells slots hcs g x3 x4 x9 H locs ls Z hl hm
  unfold sL_does_216 at hm
  refine lv_aload_n hx hb dL_does_216 rfl (lv_at hl 0 rfl) ?_
  refine lv_iload_n hx hb dL_does_217 rfl (lv_at hl 1 rfl) ?_
  refine lv_iload hx hb dL_does_218 (lv_at hl 2 rfl) ?_
  obtain ⟨r3, g4, e1, hm⟩ := sBi2_some hm
  refine g_callW (n := 3) (As := [.ref (G.1 160), .int x3, .int x4]) (rest := []) (mcc := 3) (msc := 18) X Z (cL_reads_c l hst e1) (gooS mB541 mB542 mB499 mB448) rfl (by decide +kernel) rfl ⟨Nat.le_of_ble_eq_true rfl, Nat.le_of_ble_eq_true rfl⟩ rfl rfl (hcM hcs rfl rfl) hl.1 rfl (Nat.le_of_ble_eq_true rfl) dL_does_220 (fun H locs Z => ?_)
  have hcs : (cells + 3) + 0 ≤ 4 ∧ (slots + 18) + 0 ≤ 24 := ⟨by have := hcs.1; omega, by have := hcs.2; omega⟩
  refine lv_iload hx hb dL_does_223 (lv_at hl 3 rfl) ?_
  refine lv_icmp_ne (tgt := 232) hx hb dL_does_225 (by decide) (fun c5 => ?_) (fun c5 => ?_)
  · replace hm := (if_neg c5).symm.trans hm
    refine lv_iconst (v := 0) hx hb dL_does_232 (by decide) ?_
    obtain rfl := Option.some.inj hm
    exact kI _ _ _ _ _ _ ⟨by have := hcs.1; omega, by have := hcs.2; omega⟩ dL_does_233 Z nb0
  · replace hm := (if_pos c5).symm.trans hm
    refine lv_iconst (v := 1) hx hb dL_does_228 (by decide) ?_
    refine lv_goto (tgt := 233) hx hb dL_does_229 (by decide) ?_
    obtain rfl := Option.some.inj hm
    exact kI _ _ _ _ _ _ ⟨by have := hcs.1; omega, by have := hcs.2; omega⟩ dL_does_233 Z nb1
set_option maxHeartbeats 4000000 in
set_option maxRecDepth 100000 in
theorem pL_does_176 (X : gC p s m args meth c cL_does 11 wmL_does yL_does.cls (some .boolean) G A) (hst : l.stackTraces = false) {n : Nat} {r : Int32 × Mem} (kI : ∀ (pc : Nat) (ls : Array Slot) (H : Heap) (locs : List Loc) (cells slots : Nat), cells ≤ 4 ∧ slots ≤ 24 → decode cL_does pc = .ok (.ireturn, 1) → WS wC G r.2 A s.heap H locs → narrow .boolean (.int r.1) = .int r.1 → W p l e { frames := 9, cells := 4, slots := 24, locals := 160 } s m args below meth c H locs cells slots Q (F0 m pc ls [.int r.1])) : ∀ (cells slots : Nat), cells + 3 ≤ 4 ∧ slots + 18 ≤ 24 → ∀ (g : Mem) (x3 : Int32) (x4 : Int32) (x5 : Int32) (x7 : Int32) (x8 : Int32) (H : Heap) (locs : List Loc) (ls : Array Slot), WS wC G g A s.heap H locs → lv_has ls 11 [(0, .ref (G.1 160)), (3, .int x3), (4, .int x4), (5, .int x5), (7, .int x7), (8, .int x8)] → sL_does_176 n g x3 x4 x5 x7 x8 = some r → W p l e { frames := 9, cells := 4, slots := 24, locals := 160 } s m args below meth c H locs cells slots Q (F0 m 176 ls []) := by
  have hx := X.1
  have hb := X.2.1
  intro cells slots hcs g x3 x4 x5 x7 x8 H locs ls Z hl hm
  unfold sL_does_176 at hm
  refine lv_iload hx hb dL_does_176 (lv_at hl 3 rfl) ?_
  refine lv_if_ne (tgt := 186) hx hb dL_does_178 (by decide) (fun c1 => ?_) (fun c1 => ?_)
  · replace hm := (if_neg c1).symm.trans hm
    refine lv_iload hx hb dL_does_186 (lv_at hl 4 rfl) ?_
    refine lv_if_lt (tgt := 196) hx hb dL_does_188 (by decide) (fun c2 => ?_) (fun c2 => ?_)
    · replace hm := (if_pos c2).symm.trans hm
      refine lv_aload_n hx hb dL_does_196 rfl (lv_at hl 0 rfl) ?_
      refine lv_iload hx hb dL_does_197 (lv_at hl 2 rfl) ?_
      refine lv_iload hx hb dL_does_199 (lv_at hl 5 rfl) ?_
      refine lv_if_lt (tgt := 209) hx hb dL_does_201 (by decide) (fun c3 => ?_) (fun c3 => ?_)
      · replace hm := (if_pos c3).symm.trans hm
        refine lv_ldc (v := 2000000000) hx hb X.2.2.2.1 (X.2.2.2.2.1 _ (List.mem_cons_of_mem _ mB536)) dL_does_209 ?_
        obtain ⟨r6, e4, hm⟩ := sOk1_some hm
        refine g_callVI (n := 2) (As := [.int x4, .int 2000000000]) (rest := []) (r0 := r6) (g0 := g) sameC X Z (nX6_valueAt_c l e4 rfl) (oX6 k160) rfl (gooV mB472 mB473 mB474 mB285 mB401) rfl (by decide +kernel) rfl ⟨Nat.le_of_ble_eq_true rfl, Nat.le_of_ble_eq_true rfl⟩ (hcL hcs) hl.1 rfl (Nat.le_of_ble_eq_true rfl) dL_does_211 (fun w5 H locs Z => ?_)
        refine lv_istore (lv' := [(9, .int r6), (0, .ref (G.1 160)), (3, .int x3), (4, .int x4), (5, .int x5), (7, .int x7), (8, .int x8)]) hx hb dL_does_214 hl (by decide) rfl (fun ls hl => ?_)
        exact pL_does_216 X hst kI _ _ ⟨by have := hcs.1; omega, by have := hcs.2; omega⟩ g x3 x4 r6 _ _ _ Z (lv_sub hl [1, 2, 3, 0] rfl) hm
      · replace hm := (if_neg c3).symm.trans hm
        refine lv_iload hx hb dL_does_204 (lv_at hl 5 rfl) ?_
        refine lv_goto (tgt := 211) hx hb dL_does_206 (by decide) ?_
        obtain ⟨r9, e7, hm⟩ := sOk1_some hm
        refine g_callVI (n := 2) (As := [.int x4, .int x8]) (rest := []) (r0 := r9) (g0 := g) sameC X Z (nX6_valueAt_c l e7 rfl) (oX6 k160) rfl (gooV mB472 mB473 mB474 mB285 mB401) rfl (by decide +kernel) rfl ⟨Nat.le_of_ble_eq_true rfl, Nat.le_of_ble_eq_true rfl⟩ (hcL hcs) hl.1 rfl (Nat.le_of_ble_eq_true rfl) dL_does_211 (fun w8 H locs Z => ?_)
        refine lv_istore (lv' := [(9, .int r9), (0, .ref (G.1 160)), (3, .int x3), (4, .int x4), (5, .int x5), (7, .int x7), (8, .int x8)]) hx hb dL_does_214 hl (by decide) rfl (fun ls hl => ?_)
        exact pL_does_216 X hst kI _ _ ⟨by have := hcs.1; omega, by have := hcs.2; omega⟩ g x3 x4 r9 _ _ _ Z (lv_sub hl [1, 2, 3, 0] rfl) hm
    · replace hm := (if_neg c2).symm.trans hm
      refine lv_iload hx hb dL_does_191 (lv_at hl 4 rfl) ?_
      refine lv_goto (tgt := 214) hx hb dL_does_193 (by decide) ?_
      refine lv_istore (lv' := [(9, .int x7), (0, .ref (G.1 160)), (3, .int x3), (4, .int x4), (5, .int x5), (7, .int x7), (8, .int x8)]) hx hb dL_does_214 hl (by decide) rfl (fun ls hl => ?_)
      exact pL_does_216 X hst kI _ _ ⟨by have := hcs.1; omega, by have := hcs.2; omega⟩ g x3 x4 x7 _ _ _ Z (lv_sub hl [1, 2, 3, 0] rfl) hm
  · replace hm := (if_pos c1).symm.trans hm
    refine lv_ldc (v := (-1000000)) hx hb X.2.2.2.1 (X.2.2.2.2.1 _ (List.mem_cons_of_mem _ mB440)) dL_does_181 ?_
    refine lv_goto (tgt := 214) hx hb dL_does_183 (by decide) ?_
    refine lv_istore (lv' := [(9, .int (-1000000)), (0, .ref (G.1 160)), (3, .int x3), (4, .int x4), (5, .int x5), (7, .int x7), (8, .int x8)]) hx hb dL_does_214 hl (by decide) rfl (fun ls hl => ?_)
    exact pL_does_216 X hst kI _ _ ⟨by have := hcs.1; omega, by have := hcs.2; omega⟩ g x3 x4 (-1000000 : Int32) _ _ _ Z (lv_sub hl [1, 2, 3, 0] rfl) hm
set_option maxHeartbeats 4000000 in
set_option maxRecDepth 100000 in
theorem pL_does_158 (X : gC p s m args meth c cL_does 11 wmL_does yL_does.cls (some .boolean) G A) (hst : l.stackTraces = false) {n : Nat} {r : Int32 × Mem} (kI : ∀ (pc : Nat) (ls : Array Slot) (H : Heap) (locs : List Loc) (cells slots : Nat), cells ≤ 4 ∧ slots ≤ 24 → decode cL_does pc = .ok (.ireturn, 1) → WS wC G r.2 A s.heap H locs → narrow .boolean (.int r.1) = .int r.1 → W p l e { frames := 9, cells := 4, slots := 24, locals := 160 } s m args below meth c H locs cells slots Q (F0 m pc ls [.int r.1])) : ∀ (cells slots : Nat), cells + 3 ≤ 4 ∧ slots + 18 ≤ 24 → ∀ (g : Mem) (x3 : Int32) (x4 : Int32) (x5 : Int32) (x7 : Int32) (H : Heap) (locs : List Loc) (ls : Array Slot), WS wC G g A s.heap H locs → lv_has ls 11 [(0, .ref (G.1 160)), (3, .int x3), (4, .int x4), (5, .int x5), (7, .int x7)] → sL_does_158 n g x3 x4 x5 x7 = some r → W p l e { frames := 9, cells := 4, slots := 24, locals := 160 } s m args below meth c H locs cells slots Q (F0 m 158 ls []) := by
  have hx := X.1
  have hb := X.2.1
  intro cells slots hcs g x3 x4 x5 x7 H locs ls Z hl hm
  unfold sL_does_158 at hm
  refine lv_iload hx hb dL_does_158 (lv_at hl 3 rfl) ?_
  refine lv_if_eq (tgt := 173) hx hb dL_does_160 (by decide) (fun c1 => ?_) (fun c1 => ?_)
  · replace hm := (if_pos c1).symm.trans hm
    refine lv_iconst (v := 0) hx hb dL_does_173 (by decide) ?_
    refine lv_istore (lv' := [(8, .int 0), (0, .ref (G.1 160)), (3, .int x3), (4, .int x4), (5, .int x5), (7, .int x7)]) hx hb dL_does_174 hl (by decide) rfl (fun ls hl => ?_)
    exact pL_does_176 X hst kI _ _ ⟨by have := hcs.1; omega, by have := hcs.2; omega⟩ g x3 x4 x5 x7 (0 : Int32) _ _ _ Z (lv_sub hl [1, 2, 3, 4, 5, 0] rfl) hm
  · replace hm := (if_neg c1).symm.trans hm
    refine lv_aload_n hx hb dL_does_163 rfl (lv_at hl 0 rfl) ?_
    refine lv_iload_n hx hb dL_does_164 rfl (lv_at hl 1 rfl) ?_
    refine lv_iload hx hb dL_does_165 (lv_at hl 2 rfl) ?_
    obtain ⟨r4, e2, hm⟩ := sOk1_some hm
    refine g_callVI (n := 2) (As := [.int x3, .int x4]) (rest := []) (r0 := r4) (g0 := g) sameC X Z (nX6_recordedTimestamp_c l e2 rfl) (oX6 k160) rfl (gooV mB491 mB492 mB493 mB285 mB394) rfl (by decide +kernel) rfl ⟨Nat.le_of_ble_eq_true rfl, Nat.le_of_ble_eq_true rfl⟩ (hcL hcs) hl.1 rfl (Nat.le_of_ble_eq_true rfl) dL_does_167 (fun w3 H locs Z => ?_)
    refine lv_goto (tgt := 174) hx hb dL_does_170 (by decide) ?_
    refine lv_istore (lv' := [(8, .int r4), (0, .ref (G.1 160)), (3, .int x3), (4, .int x4), (5, .int x5), (7, .int x7)]) hx hb dL_does_174 hl (by decide) rfl (fun ls hl => ?_)
    exact pL_does_176 X hst kI _ _ ⟨by have := hcs.1; omega, by have := hcs.2; omega⟩ g x3 x4 x5 x7 r4 _ _ _ Z (lv_sub hl [1, 2, 3, 4, 5, 0] rfl) hm
set_option maxHeartbeats 4000000 in
set_option maxRecDepth 100000 in
theorem pL_does_499 (X : gC p s m args meth c cL_does 11 wmL_does yL_does.cls (some .boolean) G A) (hst : l.stackTraces = false) {n : Nat} {r : Int32 × Mem} (kI : ∀ (pc : Nat) (ls : Array Slot) (H : Heap) (locs : List Loc) (cells slots : Nat), cells ≤ 4 ∧ slots ≤ 24 → decode cL_does pc = .ok (.ireturn, 1) → WS wC G r.2 A s.heap H locs → narrow .boolean (.int r.1) = .int r.1 → W p l e { frames := 9, cells := 4, slots := 24, locals := 160 } s m args below meth c H locs cells slots Q (F0 m pc ls [.int r.1])) : ∀ (cells slots : Nat), cells + 0 ≤ 4 ∧ slots + 0 ≤ 24 → ∀ (g : Mem) (x7 : Int32) (x8 : Int32) (H : Heap) (locs : List Loc) (ls : Array Slot), WS wC G g A s.heap H locs → lv_has ls 11 [(0, .ref (G.1 160)), (7, .int x7), (8, .int x8)] → sL_does_499 n g x7 x8 = some r → W p l e { frames := 9, cells := 4, slots := 24, locals := 160 } s m args below meth c H locs cells slots Q (F0 m 499 ls []) := by
  have hx := X.1
  have hb := X.2.1
  intro cells slots hcs g x7 x8 H locs ls Z hl hm
  unfold sL_does_499 at hm
  refine lv_aload_n hx hb dL_does_499 rfl (lv_at hl 0 rfl) ?_
  refine lv_iconst (v := 2) hx hb dL_does_500 (by decide) ?_
  obtain ⟨r3, e1, hm⟩ := sOk1_some hm
  refine g_callVI (n := 1) (As := [.int 2]) (rest := []) (r0 := r3) (g0 := g) sameC X Z (nX6_countInState_c l e1 rfl) (oX6 k160) rfl (gooV mB526 mB527 mB528 mB285 mB418) rfl (by decide +kernel) rfl ⟨Nat.le_of_ble_eq_true rfl, Nat.le_of_ble_eq_true rfl⟩ (hcL hcs) hl.1 rfl (Nat.le_of_ble_eq_true rfl) dL_does_501 (fun w2 H locs Z => ?_)
  refine lv_istore (lv' := [(9, .int r3), (0, .ref (G.1 160)), (7, .int x7), (8, .int x8)]) hx hb dL_does_504 hl (by decide) rfl (fun ls hl => ?_)
  refine lv_aload_n hx hb dL_does_506 rfl (lv_at hl 1 rfl) ?_
  refine lv_iload hx hb dL_does_507 (lv_at hl 3 rfl) ?_
  obtain ⟨r6, g7, e4, hm⟩ := sOk2_some hm
  refine g_callVI (n := 1) (As := [.int x8]) (rest := []) (r0 := r6) (g0 := g7) sameC X Z (nX6_advance_c l e4 rfl) (oX6 k160) rfl (gooV mB555 mB556 mB557 mB285 mB342) rfl (by decide +kernel) rfl ⟨Nat.le_of_ble_eq_true rfl, Nat.le_of_ble_eq_true rfl⟩ (hcL hcs) hl.1 rfl (Nat.le_of_ble_eq_true rfl) dL_does_509 (fun w5 H locs Z => ?_)
  refine lv_istore (lv' := [(10, .int r6), (9, .int r3), (0, .ref (G.1 160)), (7, .int x7), (8, .int x8)]) hx hb dL_does_512 hl (by decide) rfl (fun ls hl => ?_)
  refine lv_aload_n hx hb dL_does_514 rfl (lv_at hl 2 rfl) ?_
  obtain ⟨r10, e8, hm⟩ := sBi_some hm
  refine g_callVI (n := 0) (As := []) (rest := []) sameC X Z (cX6_trueTime_c l e8) (oX6 k160) rfl (gooV mB552 mB553 mB554 mB285 mB372) rfl (by decide +kernel) rfl ⟨Nat.le_of_ble_eq_true rfl, Nat.le_of_ble_eq_true rfl⟩ (hcL hcs) hl.1 rfl (Nat.le_of_ble_eq_true rfl) dL_does_515 (fun w9 H locs Z => ?_)
  refine lv_iload hx hb dL_does_518 (lv_at hl 3 rfl) ?_
  refine lv_iload hx hb dL_does_520 (lv_at hl 4 rfl) ?_
  refine lv_iadd hx hb dL_does_522 ?_
  refine lv_icmp_ne (tgt := 543) hx hb dL_does_523 (by decide) (fun c11 => ?_) (fun c11 => ?_)
  · replace hm := (if_neg c11).symm.trans hm
    refine lv_iconst (v := 0) hx hb dL_does_543 (by decide) ?_
    obtain rfl := Option.some.inj hm
    exact kI _ _ _ _ _ _ ⟨by have := hcs.1; omega, by have := hcs.2; omega⟩ dL_does_544 Z nb0
  · replace hm := (if_pos c11).symm.trans hm
    refine lv_iload hx hb dL_does_526 (lv_at hl 0 rfl) ?_
    refine lv_aload_n hx hb dL_does_528 rfl (lv_at hl 2 rfl) ?_
    refine lv_iconst (v := 2) hx hb dL_does_529 (by decide) ?_
    obtain ⟨r14, e12, hm⟩ := sOk1_some hm
    refine g_callVI (n := 1) (As := [.int 2]) (rest := [.int r6]) (r0 := r14) (g0 := g7) sameC X Z (nX6_countInState_c l e12 rfl) (oX6 k160) rfl (gooV mB526 mB527 mB528 mB285 mB418) rfl (by decide +kernel) rfl ⟨Nat.le_of_ble_eq_true rfl, Nat.le_of_ble_eq_true rfl⟩ (hcL hcs) hl.1 rfl (Nat.le_of_ble_eq_true rfl) dL_does_530 (fun w13 H locs Z => ?_)
    refine lv_iload hx hb dL_does_533 (lv_at hl 1 rfl) ?_
    refine lv_isub hx hb dL_does_535 ?_
    refine lv_icmp_ne (tgt := 543) hx hb dL_does_536 (by decide) (fun c15 => ?_) (fun c15 => ?_)
    · replace hm := (if_neg c15).symm.trans hm
      refine lv_iconst (v := 0) hx hb dL_does_543 (by decide) ?_
      obtain rfl := Option.some.inj hm
      exact kI _ _ _ _ _ _ ⟨by have := hcs.1; omega, by have := hcs.2; omega⟩ dL_does_544 Z nb0
    · replace hm := (if_pos c15).symm.trans hm
      refine lv_iconst (v := 1) hx hb dL_does_539 (by decide) ?_
      refine lv_goto (tgt := 544) hx hb dL_does_540 (by decide) ?_
      obtain rfl := Option.some.inj hm
      exact kI _ _ _ _ _ _ ⟨by have := hcs.1; omega, by have := hcs.2; omega⟩ dL_does_544 Z nb1
set_option maxHeartbeats 4000000 in
set_option maxRecDepth 100000 in
theorem pL_does_467 (X : gC p s m args meth c cL_does 11 wmL_does yL_does.cls (some .boolean) G A) (hst : l.stackTraces = false) {n : Nat} {r : Int32 × Mem} (kI : ∀ (pc : Nat) (ls : Array Slot) (H : Heap) (locs : List Loc) (cells slots : Nat), cells ≤ 4 ∧ slots ≤ 24 → decode cL_does pc = .ok (.ireturn, 1) → WS wC G r.2 A s.heap H locs → narrow .boolean (.int r.1) = .int r.1 → W p l e { frames := 9, cells := 4, slots := 24, locals := 160 } s m args below meth c H locs cells slots Q (F0 m pc ls [.int r.1])) : ∀ (cells slots : Nat), cells + 0 ≤ 4 ∧ slots + 0 ≤ 24 → ∀ (g : Mem) (x1 : Int32) (H : Heap) (locs : List Loc) (ls : Array Slot), WS wC G g A s.heap H locs → lv_has ls 11 [(0, .ref (G.1 160)), (1, .int x1)] → sL_does_467 n g x1 = some r → W p l e { frames := 9, cells := 4, slots := 24, locals := 160 } s m args below meth c H locs cells slots Q (F0 m 467 ls []) := by
  have hx := X.1
  have hb := X.2.1
  intro cells slots hcs g x1 H locs ls Z hl hm
  unfold sL_does_467 at hm
  refine lv_aload_n hx hb dL_does_467 rfl (lv_at hl 0 rfl) ?_
  obtain ⟨r3, e1, hm⟩ := sBi_some hm
  refine g_callVI (n := 0) (As := []) (rest := []) sameC X Z (cX6_trueTime_c l e1) (oX6 k160) rfl (gooV mB552 mB553 mB554 mB285 mB372) rfl (by decide +kernel) rfl ⟨Nat.le_of_ble_eq_true rfl, Nat.le_of_ble_eq_true rfl⟩ (hcL hcs) hl.1 rfl (Nat.le_of_ble_eq_true rfl) dL_does_468 (fun w2 H locs Z => ?_)
  refine lv_istore (lv' := [(7, .int r3), (0, .ref (G.1 160)), (1, .int x1)]) hx hb dL_does_471 hl (by decide) rfl (fun ls hl => ?_)
  refine lv_iconst (v := 1) hx hb dL_does_473 (by decide) ?_
  refine lv_iload_n hx hb dL_does_474 rfl (lv_at hl 2 rfl) ?_
  refine lv_iconst (v := 5) hx hb dL_does_475 (by decide) ?_
  refine lv_ishr hx hb dL_does_476 ?_
  refine lv_iload_n hx hb dL_does_477 rfl (lv_at hl 2 rfl) ?_
  refine lv_bipush (v := 9) hx hb dL_does_478 (by decide) ?_
  refine lv_ishr hx hb dL_does_480 ?_
  refine lv_iconst (v := 1) hx hb dL_does_481 (by decide) ?_
  refine lv_iand hx hb dL_does_482 ?_
  refine lv_if_ne (tgt := 491) hx hb dL_does_483 (by decide) (fun c4 => ?_) (fun c4 => ?_)
  · replace hm := (if_neg c4).symm.trans hm
    refine lv_bipush (v := 30) hx hb dL_does_491 (by decide) ?_
    obtain ⟨r7, e5, hm⟩ := sBi_some hm
    refine g_callSI (n := 2) (As := [.int (x1 >>> ((5 : Int32) &&& 31)), .int 30]) (rest := [.int 1]) sameC X Z (cL_low_c l e5) (gooS mB537 mB538 mB499 mB437) rfl (by decide +kernel) rfl ⟨Nat.le_of_ble_eq_true rfl, Nat.le_of_ble_eq_true rfl⟩ (hcL hcs) hl.1 rfl (Nat.le_of_ble_eq_true rfl) dL_does_493 (fun w6 H locs Z => ?_)
    refine lv_iadd hx hb dL_does_496 ?_
    refine lv_istore (lv' := [(8, .int ((1 : Int32) + r7)), (7, .int r3), (0, .ref (G.1 160)), (1, .int x1)]) hx hb dL_does_497 hl (by decide) rfl (fun ls hl => ?_)
    exact pL_does_499 X hst kI _ _ ⟨by have := hcs.1; omega, by have := hcs.2; omega⟩ g r3 ((1 : Int32) + r7) _ _ _ Z (lv_sub hl [2, 1, 0] rfl) hm
  · replace hm := (if_pos c4).symm.trans hm
    refine lv_bipush (v := 6) hx hb dL_does_486 (by decide) ?_
    refine lv_goto (tgt := 493) hx hb dL_does_488 (by decide) ?_
    obtain ⟨r10, e8, hm⟩ := sBi_some hm
    refine g_callSI (n := 2) (As := [.int (x1 >>> ((5 : Int32) &&& 31)), .int 6]) (rest := [.int 1]) sameC X Z (cL_low_c l e8) (gooS mB537 mB538 mB499 mB437) rfl (by decide +kernel) rfl ⟨Nat.le_of_ble_eq_true rfl, Nat.le_of_ble_eq_true rfl⟩ (hcL hcs) hl.1 rfl (Nat.le_of_ble_eq_true rfl) dL_does_493 (fun w9 H locs Z => ?_)
    refine lv_iadd hx hb dL_does_496 ?_
    refine lv_istore (lv' := [(8, .int ((1 : Int32) + r10)), (7, .int r3), (0, .ref (G.1 160)), (1, .int x1)]) hx hb dL_does_497 hl (by decide) rfl (fun ls hl => ?_)
    exact pL_does_499 X hst kI _ _ ⟨by have := hcs.1; omega, by have := hcs.2; omega⟩ g r3 ((1 : Int32) + r10) _ _ _ Z (lv_sub hl [2, 1, 0] rfl) hm
set_option maxHeartbeats 4000000 in
set_option maxRecDepth 100000 in
theorem pL_does_413 (X : gC p s m args meth c cL_does 11 wmL_does yL_does.cls (some .boolean) G A) (hst : l.stackTraces = false) {n : Nat} {r : Int32 × Mem} (kI : ∀ (pc : Nat) (ls : Array Slot) (H : Heap) (locs : List Loc) (cells slots : Nat), cells ≤ 4 ∧ slots ≤ 24 → decode cL_does pc = .ok (.ireturn, 1) → WS wC G r.2 A s.heap H locs → narrow .boolean (.int r.1) = .int r.1 → W p l e { frames := 9, cells := 4, slots := 24, locals := 160 } s m args below meth c H locs cells slots Q (F0 m pc ls [.int r.1])) : ∀ (cells slots : Nat), cells + 2 ≤ 4 ∧ slots + 12 ≤ 24 → ∀ (g : Mem) (x1 : Int32) (x3 : Int32) (x5 : Int32) (x6 : Int32) (H : Heap) (locs : List Loc) (ls : Array Slot), WS wC G g A s.heap H locs → lv_has ls 11 [(0, .ref (G.1 160)), (1, .int x1), (3, .int x3), (5, .int x5), (6, .int x6)] → sL_does_413 n g x1 x3 x5 x6 = some r → W p l e { frames := 9, cells := 4, slots := 24, locals := 160 } s m args below meth c H locs cells slots Q (F0 m 413 ls []) := by
  have hx := X.1
  have hb := X.2.1
  intro cells slots hcs g x1 x3 x5 x6 H locs ls Z hl hm
  unfold sL_does_413 at hm
  refine lv_iload hx hb dL_does_413 (lv_at hl 4 rfl) ?_
  refine lv_bipush (v := 16) hx hb dL_does_415 (by decide) ?_
  refine lv_icmp_ne (tgt := 467) hx hb dL_does_417 (by decide) (fun c1 => ?_) (fun c1 => ?_)
  · replace hm := (if_neg c1).symm.trans hm
    exact pL_does_467 X hst kI _ _ ⟨by have := hcs.1; omega, by have := hcs.2; omega⟩ g x1 _ _ _ Z (lv_sub hl [0, 1] rfl) hm
  · replace hm := (if_pos c1).symm.trans hm
    refine lv_aload_n hx hb dL_does_420 rfl (lv_at hl 0 rfl) ?_
    refine lv_iload_n hx hb dL_does_421 rfl (lv_at hl 2 rfl) ?_
    obtain ⟨r4, g5, e2, hm⟩ := sBi2_some hm
    refine g_callW (n := 2) (As := [.ref (G.1 160), .int x3]) (rest := []) (mcc := 2) (msc := 12) X Z (cL_aborts_c l hst e2) (gooS mB550 mB551 mB499 mB460) rfl (by decide +kernel) rfl ⟨Nat.le_of_ble_eq_true rfl, Nat.le_of_ble_eq_true rfl⟩ rfl rfl (hcM hcs rfl rfl) hl.1 rfl (Nat.le_of_ble_eq_true rfl) dL_does_422 (fun H locs Z => ?_)
    have hcs : (cells + 2) + 0 ≤ 4 ∧ (slots + 12) + 0 ≤ 24 := ⟨by have := hcs.1; omega, by have := hcs.2; omega⟩
    refine lv_istore (lv' := [(7, .int r4), (0, .ref (G.1 160)), (1, .int x1), (3, .int x3), (5, .int x5), (6, .int x6)]) hx hb dL_does_425 hl (by decide) rfl (fun ls hl => ?_)
    refine lv_iload hx hb dL_does_427 (lv_at hl 4 rfl) ?_
    refine lv_if_eq (tgt := 454) hx hb dL_does_429 (by decide) (fun c6 => ?_) (fun c6 => ?_)
    · replace hm := (if_pos c6).symm.trans hm
      refine lv_iload hx hb dL_does_454 (lv_at hl 0 rfl) ?_
      refine lv_ldc (v := (-1000000)) hx hb X.2.2.2.1 (X.2.2.2.2.1 _ (List.mem_cons_of_mem _ mB440)) dL_does_456 ?_
      refine lv_icmp_ne (tgt := 465) hx hb dL_does_458 (by decide) (fun c7 => ?_) (fun c7 => ?_)
      · replace hm := (if_neg c7).symm.trans hm
        refine lv_iconst (v := 0) hx hb dL_does_465 (by decide) ?_
        obtain rfl := Option.some.inj hm
        exact kI _ _ _ _ _ _ ⟨by have := hcs.1; omega, by have := hcs.2; omega⟩ dL_does_466 Z nb0
      · replace hm := (if_pos c7).symm.trans hm
        refine lv_iconst (v := 1) hx hb dL_does_461 (by decide) ?_
        refine lv_goto (tgt := 466) hx hb dL_does_462 (by decide) ?_
        obtain rfl := Option.some.inj hm
        exact kI _ _ _ _ _ _ ⟨by have := hcs.1; omega, by have := hcs.2; omega⟩ dL_does_466 Z nb1
    · replace hm := (if_neg c6).symm.trans hm
      refine lv_iload hx hb dL_does_432 (lv_at hl 0 rfl) ?_
      refine lv_if_lt (tgt := 450) hx hb dL_does_434 (by decide) (fun c8 => ?_) (fun c8 => ?_)
      · replace hm := (if_pos c8).symm.trans hm
        refine lv_iconst (v := 0) hx hb dL_does_450 (by decide) ?_
        refine lv_goto (tgt := 466) hx hb dL_does_451 (by decide) ?_
        obtain rfl := Option.some.inj hm
        exact kI _ _ _ _ _ _ ⟨by have := hcs.1; omega, by have := hcs.2; omega⟩ dL_does_466 Z nb0
      · replace hm := (if_neg c8).symm.trans hm
        refine lv_aload_n hx hb dL_does_437 rfl (lv_at hl 1 rfl) ?_
        refine lv_iload_n hx hb dL_does_438 rfl (lv_at hl 3 rfl) ?_
        obtain ⟨r11, e9, hm⟩ := sOk1_some hm
        refine g_callVI (n := 1) (As := [.int x3]) (rest := []) (r0 := r11) (g0 := g5) sameC X Z (nX6_state_c l e9 rfl) (oX6 k160) rfl (gooV mB479 mB480 mB481 mB285 mB382) rfl (by decide +kernel) rfl ⟨Nat.le_of_ble_eq_true rfl, Nat.le_of_ble_eq_true rfl⟩ (hcL hcs) hl.1 rfl (Nat.le_of_ble_eq_true rfl) dL_does_439 (fun w10 H locs Z => ?_)
        refine lv_iconst (v := 3) hx hb dL_does_442 (by decide) ?_
        refine lv_icmp_ne (tgt := 450) hx hb dL_does_443 (by decide) (fun c12 => ?_) (fun c12 => ?_)
        · replace hm := (if_neg c12).symm.trans hm
          refine lv_iconst (v := 0) hx hb dL_does_450 (by decide) ?_
          refine lv_goto (tgt := 466) hx hb dL_does_451 (by decide) ?_
          obtain rfl := Option.some.inj hm
          exact kI _ _ _ _ _ _ ⟨by have := hcs.1; omega, by have := hcs.2; omega⟩ dL_does_466 Z nb0
        · replace hm := (if_pos c12).symm.trans hm
          refine lv_iconst (v := 1) hx hb dL_does_446 (by decide) ?_
          refine lv_goto (tgt := 466) hx hb dL_does_447 (by decide) ?_
          obtain rfl := Option.some.inj hm
          exact kI _ _ _ _ _ _ ⟨by have := hcs.1; omega, by have := hcs.2; omega⟩ dL_does_466 Z nb1
set_option maxHeartbeats 4000000 in
set_option maxRecDepth 100000 in
theorem pL_does_311 (X : gC p s m args meth c cL_does 11 wmL_does yL_does.cls (some .boolean) G A) (hst : l.stackTraces = false) {n : Nat} {r : Int32 × Mem} (kI : ∀ (pc : Nat) (ls : Array Slot) (H : Heap) (locs : List Loc) (cells slots : Nat), cells ≤ 4 ∧ slots ≤ 24 → decode cL_does pc = .ok (.ireturn, 1) → WS wC G r.2 A s.heap H locs → narrow .boolean (.int r.1) = .int r.1 → W p l e { frames := 9, cells := 4, slots := 24, locals := 160 } s m args below meth c H locs cells slots Q (F0 m pc ls [.int r.1])) : ∀ (cells slots : Nat), cells + 2 ≤ 4 ∧ slots + 12 ≤ 24 → ∀ (g : Mem) (x1 : Int32) (x3 : Int32) (x5 : Int32) (x6 : Int32) (H : Heap) (locs : List Loc) (ls : Array Slot), WS wC G g A s.heap H locs → lv_has ls 11 [(0, .ref (G.1 160)), (1, .int x1), (3, .int x3), (5, .int x5), (6, .int x6)] → sL_does_311 n g x1 x3 x5 x6 = some r → W p l e { frames := 9, cells := 4, slots := 24, locals := 160 } s m args below meth c H locs cells slots Q (F0 m 311 ls []) := by
  have hx := X.1
  have hb := X.2.1
  intro cells slots hcs g x1 x3 x5 x6 H locs ls Z hl hm
  unfold sL_does_311 at hm
  refine lv_iload hx hb dL_does_311 (lv_at hl 4 rfl) ?_
  refine lv_bipush (v := 16) hx hb dL_does_313 (by decide) ?_
  refine lv_icmp_ge (tgt := 413) hx hb dL_does_315 (by decide) (fun c1 => ?_) (fun c1 => ?_)
  · replace hm := (if_pos c1).symm.trans hm
    exact pL_does_413 X hst kI _ _ ⟨by have := hcs.1; omega, by have := hcs.2; omega⟩ g x1 x3 x5 x6 _ _ _ Z (lv_sub hl [0, 1, 2, 3, 4] rfl) hm
  · replace hm := (if_neg c1).symm.trans hm
    refine lv_aload_n hx hb dL_does_318 rfl (lv_at hl 0 rfl) ?_
    refine lv_iload_n hx hb dL_does_319 rfl (lv_at hl 2 rfl) ?_
    obtain ⟨r4, e2, hm⟩ := sOk1_some hm
    refine g_callVI (n := 1) (As := [.int x3]) (rest := []) (r0 := r4) (g0 := g) sameC X Z (nX6_ifCommitted_c l e2 rfl) (oX6 k160) rfl (gooV mB545 mB546 mB547 mB285 mB395) rfl (by decide +kernel) rfl ⟨Nat.le_of_ble_eq_true rfl, Nat.le_of_ble_eq_true rfl⟩ (hcL hcs) hl.1 rfl (Nat.le_of_ble_eq_true rfl) dL_does_320 (fun w3 H locs Z => ?_)
    refine lv_istore (lv' := [(7, .int r4), (0, .ref (G.1 160)), (1, .int x1), (3, .int x3), (5, .int x5), (6, .int x6)]) hx hb dL_does_323 hl (by decide) rfl (fun ls hl => ?_)
    refine lv_aload_n hx hb dL_does_325 rfl (lv_at hl 1 rfl) ?_
    refine lv_iload_n hx hb dL_does_326 rfl (lv_at hl 3 rfl) ?_
    obtain ⟨r7, g8, e5, hm⟩ := sBi2_some hm
    refine g_callW (n := 2) (As := [.ref (G.1 160), .int x3]) (rest := []) (mcc := 2) (msc := 12) X Z (cL_commits_c l hst e5) (gooS mB548 mB549 mB499 mB456) rfl (by decide +kernel) rfl ⟨Nat.le_of_ble_eq_true rfl, Nat.le_of_ble_eq_true rfl⟩ rfl rfl (hcM hcs rfl rfl) hl.1 rfl (Nat.le_of_ble_eq_true rfl) dL_does_327 (fun H locs Z => ?_)
    have hcs : (cells + 2) + 0 ≤ 4 ∧ (slots + 12) + 0 ≤ 24 := ⟨by have := hcs.1; omega, by have := hcs.2; omega⟩
    refine lv_istore (lv' := [(8, .int r7), (7, .int r4), (0, .ref (G.1 160)), (1, .int x1), (3, .int x3), (5, .int x5), (6, .int x6)]) hx hb dL_does_330 hl (by decide) rfl (fun ls hl => ?_)
    refine lv_aload_n hx hb dL_does_332 rfl (lv_at hl 2 rfl) ?_
    refine lv_iload_n hx hb dL_does_333 rfl (lv_at hl 4 rfl) ?_
    obtain ⟨r11, e9, hm⟩ := sOk1_some hm
    refine g_callVI (n := 1) (As := [.int x3]) (rest := []) (r0 := r11) (g0 := g8) sameC X Z (nX6_state_c l e9 rfl) (oX6 k160) rfl (gooV mB479 mB480 mB481 mB285 mB382) rfl (by decide +kernel) rfl ⟨Nat.le_of_ble_eq_true rfl, Nat.le_of_ble_eq_true rfl⟩ (hcL hcs) hl.1 rfl (Nat.le_of_ble_eq_true rfl) dL_does_334 (fun w10 H locs Z => ?_)
    refine lv_istore (lv' := [(9, .int r11), (8, .int r7), (7, .int r4), (0, .ref (G.1 160)), (1, .int x1), (3, .int x3), (5, .int x5), (6, .int x6)]) hx hb dL_does_337 hl (by decide) rfl (fun ls hl => ?_)
    refine lv_iload hx hb dL_does_339 (lv_at hl 6 rfl) ?_
    refine lv_if_eq (tgt := 394) hx hb dL_does_341 (by decide) (fun c12 => ?_) (fun c12 => ?_)
    · replace hm := (if_pos c12).symm.trans hm
      refine lv_iload hx hb dL_does_394 (lv_at hl 1 rfl) ?_
      refine lv_ldc (v := (-1000000)) hx hb X.2.2.2.1 (X.2.2.2.2.1 _ (List.mem_cons_of_mem _ mB440)) dL_does_396 ?_
      refine lv_icmp_ne (tgt := 411) hx hb dL_does_398 (by decide) (fun c13 => ?_) (fun c13 => ?_)
      · replace hm := (if_neg c13).symm.trans hm
        refine lv_iconst (v := 0) hx hb dL_does_411 (by decide) ?_
        obtain rfl := Option.some.inj hm
        exact kI _ _ _ _ _ _ ⟨by have := hcs.1; omega, by have := hcs.2; omega⟩ dL_does_412 Z nb0
      · replace hm := (if_pos c13).symm.trans hm
        refine lv_iload hx hb dL_does_401 (lv_at hl 2 rfl) ?_
        refine lv_iconst (v := (-1)) hx hb dL_does_403 (by decide) ?_
        refine lv_icmp_ne (tgt := 411) hx hb dL_does_404 (by decide) (fun c14 => ?_) (fun c14 => ?_)
        · replace hm := (if_neg c14).symm.trans hm
          refine lv_iconst (v := 0) hx hb dL_does_411 (by decide) ?_
          obtain rfl := Option.some.inj hm
          exact kI _ _ _ _ _ _ ⟨by have := hcs.1; omega, by have := hcs.2; omega⟩ dL_does_412 Z nb0
        · replace hm := (if_pos c14).symm.trans hm
          refine lv_iconst (v := 1) hx hb dL_does_407 (by decide) ?_
          refine lv_goto (tgt := 412) hx hb dL_does_408 (by decide) ?_
          obtain rfl := Option.some.inj hm
          exact kI _ _ _ _ _ _ ⟨by have := hcs.1; omega, by have := hcs.2; omega⟩ dL_does_412 Z nb1
    · replace hm := (if_neg c12).symm.trans hm
      refine lv_iload hx hb dL_does_344 (lv_at hl 1 rfl) ?_
      refine lv_iload hx hb dL_does_346 (lv_at hl 2 rfl) ?_
      refine lv_icmp_ne (tgt := 390) hx hb dL_does_348 (by decide) (fun c15 => ?_) (fun c15 => ?_)
      · replace hm := (if_neg c15).symm.trans hm
        refine lv_iconst (v := 0) hx hb dL_does_390 (by decide) ?_
        refine lv_goto (tgt := 412) hx hb dL_does_391 (by decide) ?_
        obtain rfl := Option.some.inj hm
        exact kI _ _ _ _ _ _ ⟨by have := hcs.1; omega, by have := hcs.2; omega⟩ dL_does_412 Z nb0
      · replace hm := (if_pos c15).symm.trans hm
        refine lv_iload hx hb dL_does_351 (lv_at hl 0 rfl) ?_
        refine lv_iload hx hb dL_does_353 (lv_at hl 1 rfl) ?_
        refine lv_bipush (v := (-2)) hx hb dL_does_355 (by decide) ?_
        refine lv_icmp_ne (tgt := 364) hx hb dL_does_357 (by decide) (fun c16 => ?_) (fun c16 => ?_)
        · replace hm := (if_neg c16).symm.trans hm
          refine lv_iload hx hb dL_does_364 (lv_at hl 1 rfl) ?_
          refine lv_bipush (v := (-3)) hx hb dL_does_366 (by decide) ?_
          refine lv_icmp_ne (tgt := 375) hx hb dL_does_368 (by decide) (fun c17 => ?_) (fun c17 => ?_)
          · replace hm := (if_neg c17).symm.trans hm
            refine lv_iconst (v := 1) hx hb dL_does_375 (by decide) ?_
            refine lv_icmp_ne (tgt := 390) hx hb dL_does_376 (by decide) (fun c18 => ?_) (fun c18 => ?_)
            · replace hm := (if_neg c18).symm.trans hm
              refine lv_iconst (v := 0) hx hb dL_does_390 (by decide) ?_
              refine lv_goto (tgt := 412) hx hb dL_does_391 (by decide) ?_
              obtain rfl := Option.some.inj hm
              exact kI _ _ _ _ _ _ ⟨by have := hcs.1; omega, by have := hcs.2; omega⟩ dL_does_412 Z nb0
            · replace hm := (if_pos c18).symm.trans hm
              refine lv_iload hx hb dL_does_379 (lv_at hl 1 rfl) ?_
              refine lv_bipush (v := (-4)) hx hb dL_does_381 (by decide) ?_
              refine lv_icmp_le (tgt := 390) hx hb dL_does_383 (by decide) (fun c19 => ?_) (fun c19 => ?_)
              · replace hm := (if_pos c19).symm.trans hm
                refine lv_iconst (v := 0) hx hb dL_does_390 (by decide) ?_
                refine lv_goto (tgt := 412) hx hb dL_does_391 (by decide) ?_
                obtain rfl := Option.some.inj hm
                exact kI _ _ _ _ _ _ ⟨by have := hcs.1; omega, by have := hcs.2; omega⟩ dL_does_412 Z nb0
              · replace hm := (if_neg c19).symm.trans hm
                refine lv_iconst (v := 1) hx hb dL_does_386 (by decide) ?_
                refine lv_goto (tgt := 412) hx hb dL_does_387 (by decide) ?_
                obtain rfl := Option.some.inj hm
                exact kI _ _ _ _ _ _ ⟨by have := hcs.1; omega, by have := hcs.2; omega⟩ dL_does_412 Z nb1
          · replace hm := (if_pos c17).symm.trans hm
            refine lv_iconst (v := 0) hx hb dL_does_371 (by decide) ?_
            refine lv_goto (tgt := 376) hx hb dL_does_372 (by decide) ?_
            refine lv_icmp_ne (tgt := 390) hx hb dL_does_376 (by decide) (fun c20 => ?_) (fun c20 => ?_)
            · replace hm := (if_neg c20).symm.trans hm
              refine lv_iconst (v := 0) hx hb dL_does_390 (by decide) ?_
              refine lv_goto (tgt := 412) hx hb dL_does_391 (by decide) ?_
              obtain rfl := Option.some.inj hm
              exact kI _ _ _ _ _ _ ⟨by have := hcs.1; omega, by have := hcs.2; omega⟩ dL_does_412 Z nb0
            · replace hm := (if_pos c20).symm.trans hm
              refine lv_iload hx hb dL_does_379 (lv_at hl 1 rfl) ?_
              refine lv_bipush (v := (-4)) hx hb dL_does_381 (by decide) ?_
              refine lv_icmp_le (tgt := 390) hx hb dL_does_383 (by decide) (fun c21 => ?_) (fun c21 => ?_)
              · replace hm := (if_pos c21).symm.trans hm
                refine lv_iconst (v := 0) hx hb dL_does_390 (by decide) ?_
                refine lv_goto (tgt := 412) hx hb dL_does_391 (by decide) ?_
                obtain rfl := Option.some.inj hm
                exact kI _ _ _ _ _ _ ⟨by have := hcs.1; omega, by have := hcs.2; omega⟩ dL_does_412 Z nb0
              · replace hm := (if_neg c21).symm.trans hm
                refine lv_iconst (v := 1) hx hb dL_does_386 (by decide) ?_
                refine lv_goto (tgt := 412) hx hb dL_does_387 (by decide) ?_
                obtain rfl := Option.some.inj hm
                exact kI _ _ _ _ _ _ ⟨by have := hcs.1; omega, by have := hcs.2; omega⟩ dL_does_412 Z nb1
        · replace hm := (if_pos c16).symm.trans hm
          refine lv_iconst (v := 3) hx hb dL_does_360 (by decide) ?_
          refine lv_goto (tgt := 376) hx hb dL_does_361 (by decide) ?_
          refine lv_icmp_ne (tgt := 390) hx hb dL_does_376 (by decide) (fun c22 => ?_) (fun c22 => ?_)
          · replace hm := (if_neg c22).symm.trans hm
            refine lv_iconst (v := 0) hx hb dL_does_390 (by decide) ?_
            refine lv_goto (tgt := 412) hx hb dL_does_391 (by decide) ?_
            obtain rfl := Option.some.inj hm
            exact kI _ _ _ _ _ _ ⟨by have := hcs.1; omega, by have := hcs.2; omega⟩ dL_does_412 Z nb0
          · replace hm := (if_pos c22).symm.trans hm
            refine lv_iload hx hb dL_does_379 (lv_at hl 1 rfl) ?_
            refine lv_bipush (v := (-4)) hx hb dL_does_381 (by decide) ?_
            refine lv_icmp_le (tgt := 390) hx hb dL_does_383 (by decide) (fun c23 => ?_) (fun c23 => ?_)
            · replace hm := (if_pos c23).symm.trans hm
              refine lv_iconst (v := 0) hx hb dL_does_390 (by decide) ?_
              refine lv_goto (tgt := 412) hx hb dL_does_391 (by decide) ?_
              obtain rfl := Option.some.inj hm
              exact kI _ _ _ _ _ _ ⟨by have := hcs.1; omega, by have := hcs.2; omega⟩ dL_does_412 Z nb0
            · replace hm := (if_neg c23).symm.trans hm
              refine lv_iconst (v := 1) hx hb dL_does_386 (by decide) ?_
              refine lv_goto (tgt := 412) hx hb dL_does_387 (by decide) ?_
              obtain rfl := Option.some.inj hm
              exact kI _ _ _ _ _ _ ⟨by have := hcs.1; omega, by have := hcs.2; omega⟩ dL_does_412 Z nb1
set_option maxHeartbeats 4000000 in
set_option maxRecDepth 100000 in
theorem pL_does_234 (X : gC p s m args meth c cL_does 11 wmL_does yL_does.cls (some .boolean) G A) (hst : l.stackTraces = false) {n : Nat} {r : Int32 × Mem} (kI : ∀ (pc : Nat) (ls : Array Slot) (H : Heap) (locs : List Loc) (cells slots : Nat), cells ≤ 4 ∧ slots ≤ 24 → decode cL_does pc = .ok (.ireturn, 1) → WS wC G r.2 A s.heap H locs → narrow .boolean (.int r.1) = .int r.1 → W p l e { frames := 9, cells := 4, slots := 24, locals := 160 } s m args below meth c H locs cells slots Q (F0 m pc ls [.int r.1])) : ∀ (cells slots : Nat), cells + 4 ≤ 4 ∧ slots + 24 ≤ 24 → ∀ (g : Mem) (x1 : Int32) (x3 : Int32) (x4 : Int32) (x5 : Int32) (x6 : Int32) (H : Heap) (locs : List Loc) (ls : Array Slot), WS wC G g A s.heap H locs → lv_has ls 11 [(0, .ref (G.1 160)), (1, .int x1), (3, .int x3), (4, .int x4), (5, .int x5), (6, .int x6)] → sL_does_234 n g x1 x3 x4 x5 x6 = some r → W p l e { frames := 9, cells := 4, slots := 24, locals := 160 } s m args below meth c H locs cells slots Q (F0 m 234 ls []) := by
  have hx := X.1
  have hb := X.2.1
  intro cells slots hcs g x1 x3 x4 x5 x6 H locs ls Z hl hm
  unfold sL_does_234 at hm
  refine lv_iload hx hb dL_does_234 (lv_at hl 5 rfl) ?_
  refine lv_bipush (v := 12) hx hb dL_does_236 (by decide) ?_
  refine lv_icmp_ge (tgt := 311) hx hb dL_does_238 (by decide) (fun c1 => ?_) (fun c1 => ?_)
  · replace hm := (if_pos c1).symm.trans hm
    exact pL_does_311 X hst kI _ _ ⟨by have := hcs.1; omega, by have := hcs.2; omega⟩ g x1 x3 x5 x6 _ _ _ Z (lv_sub hl [0, 1, 2, 4, 5] rfl) hm
  · replace hm := (if_neg c1).symm.trans hm
    refine lv_aload_n hx hb dL_does_241 rfl (lv_at hl 0 rfl) ?_
    refine lv_iload_n hx hb dL_does_242 rfl (lv_at hl 2 rfl) ?_
    refine lv_iload hx hb dL_does_243 (lv_at hl 3 rfl) ?_
    refine lv_iload_n hx hb dL_does_245 rfl (lv_at hl 1 rfl) ?_
    refine lv_bipush (v := 13) hx hb dL_does_246 (by decide) ?_
    refine lv_ishr hx hb dL_does_248 ?_
    refine lv_sipush (v := 10000) hx hb dL_does_249 (by decide) ?_
    obtain ⟨r4, e2, hm⟩ := sBi_some hm
    refine g_callSI (n := 2) (As := [.int (x1 >>> ((13 : Int32) &&& 31)), .int 10000]) (rest := [.int x4, .int x3, .ref (G.1 160)]) sameC X Z (cL_low_c l e2) (gooS mB537 mB538 mB499 mB437) rfl (by decide +kernel) rfl ⟨Nat.le_of_ble_eq_true rfl, Nat.le_of_ble_eq_true rfl⟩ (hcL hcs) hl.1 rfl (Nat.le_of_ble_eq_true rfl) dL_does_252 (fun w3 H locs Z => ?_)
    obtain ⟨r7, g8, e5, hm⟩ := sBi2_some hm
    refine g_callW (n := 4) (As := [.ref (G.1 160), .int x3, .int x4, .int r4]) (rest := []) (mcc := 4) (msc := 24) X Z (cL_writes_c l hst e5) (gooS mB543 mB544 mB499 mB452) rfl (by decide +kernel) rfl ⟨Nat.le_of_ble_eq_true rfl, Nat.le_of_ble_eq_true rfl⟩ rfl rfl (hcM hcs rfl rfl) hl.1 rfl (Nat.le_of_ble_eq_true rfl) dL_does_255 (fun H locs Z => ?_)
    have hcs : (cells + 4) + 0 ≤ 4 ∧ (slots + 24) + 0 ≤ 24 := ⟨by have := hcs.1; omega, by have := hcs.2; omega⟩
    refine lv_istore (lv' := [(7, .int r7), (0, .ref (G.1 160)), (1, .int x1), (3, .int x3), (4, .int x4), (5, .int x5), (6, .int x6)]) hx hb dL_does_258 hl (by decide) rfl (fun ls hl => ?_)
    refine lv_iload hx hb dL_does_260 (lv_at hl 5 rfl) ?_
    refine lv_if_eq (tgt := 298) hx hb dL_does_262 (by decide) (fun c9 => ?_) (fun c9 => ?_)
    · replace hm := (if_pos c9).symm.trans hm
      refine lv_iload hx hb dL_does_298 (lv_at hl 0 rfl) ?_
      refine lv_ldc (v := (-1000000)) hx hb X.2.2.2.1 (X.2.2.2.2.1 _ (List.mem_cons_of_mem _ mB440)) dL_does_300 ?_
      refine lv_icmp_ne (tgt := 309) hx hb dL_does_302 (by decide) (fun c10 => ?_) (fun c10 => ?_)
      · replace hm := (if_neg c10).symm.trans hm
        refine lv_iconst (v := 0) hx hb dL_does_309 (by decide) ?_
        obtain rfl := Option.some.inj hm
        exact kI _ _ _ _ _ _ ⟨by have := hcs.1; omega, by have := hcs.2; omega⟩ dL_does_310 Z nb0
      · replace hm := (if_pos c10).symm.trans hm
        refine lv_iconst (v := 1) hx hb dL_does_305 (by decide) ?_
        refine lv_goto (tgt := 310) hx hb dL_does_306 (by decide) ?_
        obtain rfl := Option.some.inj hm
        exact kI _ _ _ _ _ _ ⟨by have := hcs.1; omega, by have := hcs.2; omega⟩ dL_does_310 Z nb1
    · replace hm := (if_neg c9).symm.trans hm
      refine lv_iload hx hb dL_does_265 (lv_at hl 0 rfl) ?_
      refine lv_if_le (tgt := 294) hx hb dL_does_267 (by decide) (fun c11 => ?_) (fun c11 => ?_)
      · replace hm := (if_pos c11).symm.trans hm
        refine lv_iconst (v := 0) hx hb dL_does_294 (by decide) ?_
        refine lv_goto (tgt := 310) hx hb dL_does_295 (by decide) ?_
        obtain rfl := Option.some.inj hm
        exact kI _ _ _ _ _ _ ⟨by have := hcs.1; omega, by have := hcs.2; omega⟩ dL_does_310 Z nb0
      · replace hm := (if_neg c11).symm.trans hm
        refine lv_aload_n hx hb dL_does_270 rfl (lv_at hl 1 rfl) ?_
        refine lv_iload_n hx hb dL_does_271 rfl (lv_at hl 3 rfl) ?_
        refine lv_iload hx hb dL_does_272 (lv_at hl 4 rfl) ?_
        obtain ⟨r14, e12, hm⟩ := sOk1_some hm
        refine g_callVI (n := 2) (As := [.int x3, .int x4]) (rest := []) (r0 := r14) (g0 := g8) sameC X Z (nX6_bufferedValue_c l e12 rfl) (oX6 k160) rfl (gooV mB494 mB495 mB496 mB285 mB390) rfl (by decide +kernel) rfl ⟨Nat.le_of_ble_eq_true rfl, Nat.le_of_ble_eq_true rfl⟩ (hcL hcs) hl.1 rfl (Nat.le_of_ble_eq_true rfl) dL_does_274 (fun w13 H locs Z => ?_)
        refine lv_iload_n hx hb dL_does_277 rfl (lv_at hl 2 rfl) ?_
        refine lv_bipush (v := 13) hx hb dL_does_278 (by decide) ?_
        refine lv_ishr hx hb dL_does_280 ?_
        refine lv_sipush (v := 10000) hx hb dL_does_281 (by decide) ?_
        obtain ⟨r17, e15, hm⟩ := sBi_some hm
        refine g_callSI (n := 2) (As := [.int (x1 >>> ((13 : Int32) &&& 31)), .int 10000]) (rest := [.int r14]) sameC X Z (cL_low_c l e15) (gooS mB537 mB538 mB499 mB437) rfl (by decide +kernel) rfl ⟨Nat.le_of_ble_eq_true rfl, Nat.le_of_ble_eq_true rfl⟩ (hcL hcs) hl.1 rfl (Nat.le_of_ble_eq_true rfl) dL_does_284 (fun w16 H locs Z => ?_)
        refine lv_icmp_ne (tgt := 294) hx hb dL_does_287 (by decide) (fun c18 => ?_) (fun c18 => ?_)
        · replace hm := (if_neg c18).symm.trans hm
          refine lv_iconst (v := 0) hx hb dL_does_294 (by decide) ?_
          refine lv_goto (tgt := 310) hx hb dL_does_295 (by decide) ?_
          obtain rfl := Option.some.inj hm
          exact kI _ _ _ _ _ _ ⟨by have := hcs.1; omega, by have := hcs.2; omega⟩ dL_does_310 Z nb0
        · replace hm := (if_pos c18).symm.trans hm
          refine lv_iconst (v := 1) hx hb dL_does_290 (by decide) ?_
          refine lv_goto (tgt := 310) hx hb dL_does_291 (by decide) ?_
          obtain rfl := Option.some.inj hm
          exact kI _ _ _ _ _ _ ⟨by have := hcs.1; omega, by have := hcs.2; omega⟩ dL_does_310 Z nb1
set_option maxHeartbeats 4000000 in
set_option maxRecDepth 100000 in
theorem pL_does_133 (X : gC p s m args meth c cL_does 11 wmL_does yL_does.cls (some .boolean) G A) (hst : l.stackTraces = false) {n : Nat} {r : Int32 × Mem} (kI : ∀ (pc : Nat) (ls : Array Slot) (H : Heap) (locs : List Loc) (cells slots : Nat), cells ≤ 4 ∧ slots ≤ 24 → decode cL_does pc = .ok (.ireturn, 1) → WS wC G r.2 A s.heap H locs → narrow .boolean (.int r.1) = .int r.1 → W p l e { frames := 9, cells := 4, slots := 24, locals := 160 } s m args below meth c H locs cells slots Q (F0 m pc ls [.int r.1])) : ∀ (cells slots : Nat), cells + 4 ≤ 4 ∧ slots + 24 ≤ 24 → ∀ (g : Mem) (x1 : Int32) (x3 : Int32) (x4 : Int32) (x5 : Int32) (x6 : Int32) (H : Heap) (locs : List Loc) (ls : Array Slot), WS wC G g A s.heap H locs → lv_has ls 11 [(0, .ref (G.1 160)), (1, .int x1), (3, .int x3), (4, .int x4), (5, .int x5), (6, .int x6)] → sL_does_133 n g x1 x3 x4 x5 x6 = some r → W p l e { frames := 9, cells := 4, slots := 24, locals := 160 } s m args below meth c H locs cells slots Q (F0 m 133 ls []) := by
  have hx := X.1
  have hb := X.2.1
  intro cells slots hcs g x1 x3 x4 x5 x6 H locs ls Z hl hm
  unfold sL_does_133 at hm
  refine lv_iload hx hb dL_does_133 (lv_at hl 5 rfl) ?_
  refine lv_bipush (v := 8) hx hb dL_does_135 (by decide) ?_
  refine lv_icmp_ge (tgt := 234) hx hb dL_does_137 (by decide) (fun c1 => ?_) (fun c1 => ?_)
  · replace hm := (if_pos c1).symm.trans hm
    exact pL_does_234 X hst kI _ _ ⟨by have := hcs.1; omega, by have := hcs.2; omega⟩ g x1 x3 x4 x5 x6 _ _ _ Z (lv_sub hl [0, 1, 2, 3, 4, 5] rfl) hm
  · replace hm := (if_neg c1).symm.trans hm
    refine lv_iload hx hb dL_does_140 (lv_at hl 4 rfl) ?_
    refine lv_if_eq (tgt := 155) hx hb dL_does_142 (by decide) (fun c2 => ?_) (fun c2 => ?_)
    · replace hm := (if_pos c2).symm.trans hm
      refine lv_iconst (v := 0) hx hb dL_does_155 (by decide) ?_
      refine lv_istore (lv' := [(7, .int 0), (0, .ref (G.1 160)), (1, .int x1), (3, .int x3), (4, .int x4), (5, .int x5), (6, .int x6)]) hx hb dL_does_156 hl (by decide) rfl (fun ls hl => ?_)
      exact pL_does_158 X hst kI _ _ ⟨by have := hcs.1; omega, by have := hcs.2; omega⟩ g x3 x4 x5 (0 : Int32) _ _ _ Z (lv_sub hl [1, 3, 4, 5, 0] rfl) hm
    · replace hm := (if_neg c2).symm.trans hm
      refine lv_aload_n hx hb dL_does_145 rfl (lv_at hl 0 rfl) ?_
      refine lv_iload_n hx hb dL_does_146 rfl (lv_at hl 2 rfl) ?_
      refine lv_iload hx hb dL_does_147 (lv_at hl 3 rfl) ?_
      obtain ⟨r5, e3, hm⟩ := sOk1_some hm
      refine g_callVI (n := 2) (As := [.int x3, .int x4]) (rest := []) (r0 := r5) (g0 := g) sameC X Z (nX6_bufferedValue_c l e3 rfl) (oX6 k160) rfl (gooV mB494 mB495 mB496 mB285 mB390) rfl (by decide +kernel) rfl ⟨Nat.le_of_ble_eq_true rfl, Nat.le_of_ble_eq_true rfl⟩ (hcL hcs) hl.1 rfl (Nat.le_of_ble_eq_true rfl) dL_does_149 (fun w4 H locs Z => ?_)
      refine lv_goto (tgt := 156) hx hb dL_does_152 (by decide) ?_
      refine lv_istore (lv' := [(7, .int r5), (0, .ref (G.1 160)), (1, .int x1), (3, .int x3), (4, .int x4), (5, .int x5), (6, .int x6)]) hx hb dL_does_156 hl (by decide) rfl (fun ls hl => ?_)
      exact pL_does_158 X hst kI _ _ ⟨by have := hcs.1; omega, by have := hcs.2; omega⟩ g x3 x4 x5 r5 _ _ _ Z (lv_sub hl [1, 3, 4, 5, 0] rfl) hm
set_option maxHeartbeats 4000000 in
set_option maxRecDepth 100000 in
theorem pL_does_83 (X : gC p s m args meth c cL_does 11 wmL_does yL_does.cls (some .boolean) G A) (hst : l.stackTraces = false) {n : Nat} {r : Int32 × Mem} (kI : ∀ (pc : Nat) (ls : Array Slot) (H : Heap) (locs : List Loc) (cells slots : Nat), cells ≤ 4 ∧ slots ≤ 24 → decode cL_does pc = .ok (.ireturn, 1) → WS wC G r.2 A s.heap H locs → narrow .boolean (.int r.1) = .int r.1 → W p l e { frames := 9, cells := 4, slots := 24, locals := 160 } s m args below meth c H locs cells slots Q (F0 m pc ls [.int r.1])) : ∀ (cells slots : Nat), cells + 4 ≤ 4 ∧ slots + 24 ≤ 24 → ∀ (g : Mem) (x1 : Int32) (x2 : Int32) (x3 : Int32) (x4 : Int32) (x5 : Int32) (H : Heap) (locs : List Loc) (ls : Array Slot), WS wC G g A s.heap H locs → lv_has ls 11 [(0, .ref (G.1 160)), (1, .int x1), (2, .int x2), (3, .int x3), (4, .int x4), (5, .int x5)] → sL_does_83 n g x1 x2 x3 x4 x5 = some r → W p l e { frames := 9, cells := 4, slots := 24, locals := 160 } s m args below meth c H locs cells slots Q (F0 m 83 ls []) := by
  have hx := X.1
  have hb := X.2.1
  intro cells slots hcs g x1 x2 x3 x4 x5 H locs ls Z hl hm
  unfold sL_does_83 at hm
  refine lv_iload_n hx hb dL_does_83 rfl (lv_at hl 1 rfl) ?_
  refine lv_bipush (v := 20) hx hb dL_does_84 (by decide) ?_
  obtain ⟨r3, e1, hm⟩ := sBi_some hm
  refine g_callSI (n := 2) (As := [.int x1, .int 20]) (rest := []) sameC X Z (cL_low_c l e1) (gooS mB537 mB538 mB499 mB437) rfl (by decide +kernel) rfl ⟨Nat.le_of_ble_eq_true rfl, Nat.le_of_ble_eq_true rfl⟩ (hcL hcs) hl.1 rfl (Nat.le_of_ble_eq_true rfl) dL_does_86 (fun w2 H locs Z => ?_)
  refine lv_istore (lv' := [(6, .int r3), (0, .ref (G.1 160)), (1, .int x1), (2, .int x2), (3, .int x3), (4, .int x4), (5, .int x5)]) hx hb dL_does_89 hl (by decide) rfl (fun ls hl => ?_)
  refine lv_iload hx hb dL_does_91 (lv_at hl 0 rfl) ?_
  refine lv_iconst (v := 4) hx hb dL_does_93 (by decide) ?_
  refine lv_icmp_lt (tgt := 101) hx hb dL_does_94 (by decide) (fun c4 => ?_) (fun c4 => ?_)
  · replace hm := (if_pos c4).symm.trans hm
    exact pL_does_101 X hst kI _ _ ⟨by have := hcs.1; omega, by have := hcs.2; omega⟩ g x1 x2 _ _ _ Z (lv_sub hl [1, 2, 3] rfl) hm
  · replace hm := (if_neg c4).symm.trans hm
    refine lv_iload_n hx hb dL_does_97 rfl (lv_at hl 3 rfl) ?_
    refine lv_if_ne (tgt := 133) hx hb dL_does_98 (by decide) (fun c5 => ?_) (fun c5 => ?_)
    · replace hm := (if_neg c5).symm.trans hm
      exact pL_does_133 X hst kI _ _ ⟨by have := hcs.1; omega, by have := hcs.2; omega⟩ g x1 x3 x4 x5 r3 _ _ _ Z (lv_sub hl [1, 2, 4, 5, 6, 0] rfl) hm
    · replace hm := (if_pos c5).symm.trans hm
      exact pL_does_101 X hst kI _ _ ⟨by have := hcs.1; omega, by have := hcs.2; omega⟩ g x1 x2 _ _ _ Z (lv_sub hl [1, 2, 3] rfl) hm
set_option maxHeartbeats 4000000 in
set_option maxRecDepth 100000 in
theorem pL_does_80 (X : gC p s m args meth c cL_does 11 wmL_does yL_does.cls (some .boolean) G A) (hst : l.stackTraces = false) {n : Nat} {r : Int32 × Mem} (kI : ∀ (pc : Nat) (ls : Array Slot) (H : Heap) (locs : List Loc) (cells slots : Nat), cells ≤ 4 ∧ slots ≤ 24 → decode cL_does pc = .ok (.ireturn, 1) → WS wC G r.2 A s.heap H locs → narrow .boolean (.int r.1) = .int r.1 → W p l e { frames := 9, cells := 4, slots := 24, locals := 160 } s m args below meth c H locs cells slots Q (F0 m pc ls [.int r.1])) : ∀ (cells slots : Nat), cells + 4 ≤ 4 ∧ slots + 24 ≤ 24 → ∀ (g : Mem) (x1 : Int32) (x2 : Int32) (x3 : Int32) (x4 : Int32) (H : Heap) (locs : List Loc) (ls : Array Slot), WS wC G g A s.heap H locs → lv_has ls 11 [(0, .ref (G.1 160)), (1, .int x1), (2, .int x2), (3, .int x3), (4, .int x4)] → sL_does_80 n g x1 x2 x3 x4 = some r → W p l e { frames := 9, cells := 4, slots := 24, locals := 160 } s m args below meth c H locs cells slots Q (F0 m 80 ls []) := by
  have hx := X.1
  have hb := X.2.1
  intro cells slots hcs g x1 x2 x3 x4 H locs ls Z hl hm
  unfold sL_does_80 at hm
  refine lv_iconst (v := 0) hx hb dL_does_80 (by decide) ?_
  refine lv_istore (lv' := [(5, .int 0), (0, .ref (G.1 160)), (1, .int x1), (2, .int x2), (3, .int x3), (4, .int x4)]) hx hb dL_does_81 hl (by decide) rfl (fun ls hl => ?_)
  exact pL_does_83 X hst kI _ _ ⟨by have := hcs.1; omega, by have := hcs.2; omega⟩ g x1 x2 x3 x4 (0 : Int32) _ _ _ Z (lv_sub hl [1, 2, 3, 4, 5, 0] rfl) hm
set_option maxHeartbeats 4000000 in
set_option maxRecDepth 100000 in
theorem pL_does_54 (X : gC p s m args meth c cL_does 11 wmL_does yL_does.cls (some .boolean) G A) (hst : l.stackTraces = false) {n : Nat} {r : Int32 × Mem} (kI : ∀ (pc : Nat) (ls : Array Slot) (H : Heap) (locs : List Loc) (cells slots : Nat), cells ≤ 4 ∧ slots ≤ 24 → decode cL_does pc = .ok (.ireturn, 1) → WS wC G r.2 A s.heap H locs → narrow .boolean (.int r.1) = .int r.1 → W p l e { frames := 9, cells := 4, slots := 24, locals := 160 } s m args below meth c H locs cells slots Q (F0 m pc ls [.int r.1])) : ∀ (cells slots : Nat), cells + 4 ≤ 4 ∧ slots + 24 ≤ 24 → ∀ (g : Mem) (x1 : Int32) (x2 : Int32) (x3 : Int32) (H : Heap) (locs : List Loc) (ls : Array Slot), WS wC G g A s.heap H locs → lv_has ls 11 [(0, .ref (G.1 160)), (1, .int x1), (2, .int x2), (3, .int x3)] → sL_does_54 n g x1 x2 x3 = some r → W p l e { frames := 9, cells := 4, slots := 24, locals := 160 } s m args below meth c H locs cells slots Q (F0 m 54 ls []) := by
  have hx := X.1
  have hb := X.2.1
  intro cells slots hcs g x1 x2 x3 H locs ls Z hl hm
  unfold sL_does_54 at hm
  refine lv_iload_n hx hb dL_does_54 rfl (lv_at hl 1 rfl) ?_
  refine lv_bipush (v := 11) hx hb dL_does_55 (by decide) ?_
  refine lv_ishr hx hb dL_does_57 ?_
  refine lv_iconst (v := 4) hx hb dL_does_58 (by decide) ?_
  obtain ⟨r3, e1, hm⟩ := sBi_some hm
  refine g_callSI (n := 2) (As := [.int (x1 >>> ((11 : Int32) &&& 31)), .int 4]) (rest := []) sameC X Z (cL_low_c l e1) (gooS mB537 mB538 mB499 mB437) rfl (by decide +kernel) rfl ⟨Nat.le_of_ble_eq_true rfl, Nat.le_of_ble_eq_true rfl⟩ (hcL hcs) hl.1 rfl (Nat.le_of_ble_eq_true rfl) dL_does_59 (fun w2 H locs Z => ?_)
  refine lv_istore (lv' := [(4, .int r3), (0, .ref (G.1 160)), (1, .int x1), (2, .int x2), (3, .int x3)]) hx hb dL_does_62 hl (by decide) rfl (fun ls hl => ?_)
  refine lv_iload_n hx hb dL_does_64 rfl (lv_at hl 3 rfl) ?_
  refine lv_if_le (tgt := 80) hx hb dL_does_65 (by decide) (fun c4 => ?_) (fun c4 => ?_)
  · replace hm := (if_pos c4).symm.trans hm
    exact pL_does_80 X hst kI _ _ ⟨by have := hcs.1; omega, by have := hcs.2; omega⟩ g x1 x2 x3 r3 _ _ _ Z (lv_sub hl [1, 2, 3, 4, 0] rfl) hm
  · replace hm := (if_neg c4).symm.trans hm
    refine lv_aload_n hx hb dL_does_68 rfl (lv_at hl 1 rfl) ?_
    refine lv_iload_n hx hb dL_does_69 rfl (lv_at hl 4 rfl) ?_
    obtain ⟨r7, e5, hm⟩ := sOk1_some hm
    refine g_callVI (n := 1) (As := [.int x3]) (rest := []) (r0 := r7) (g0 := g) sameC X Z (nX6_state_c l e5 rfl) (oX6 k160) rfl (gooV mB479 mB480 mB481 mB285 mB382) rfl (by decide +kernel) rfl ⟨Nat.le_of_ble_eq_true rfl, Nat.le_of_ble_eq_true rfl⟩ (hcL hcs) hl.1 rfl (Nat.le_of_ble_eq_true rfl) dL_does_70 (fun w6 H locs Z => ?_)
    refine lv_if_ne (tgt := 80) hx hb dL_does_73 (by decide) (fun c8 => ?_) (fun c8 => ?_)
    · replace hm := (if_neg c8).symm.trans hm
      exact pL_does_80 X hst kI _ _ ⟨by have := hcs.1; omega, by have := hcs.2; omega⟩ g x1 x2 x3 r3 _ _ _ Z (lv_sub hl [1, 2, 3, 4, 0] rfl) hm
    · replace hm := (if_pos c8).symm.trans hm
      refine lv_iconst (v := 1) hx hb dL_does_76 (by decide) ?_
      refine lv_goto (tgt := 81) hx hb dL_does_77 (by decide) ?_
      refine lv_istore (lv' := [(5, .int 1), (4, .int r3), (0, .ref (G.1 160)), (1, .int x1), (2, .int x2), (3, .int x3)]) hx hb dL_does_81 hl (by decide) rfl (fun ls hl => ?_)
      exact pL_does_83 X hst kI _ _ ⟨by have := hcs.1; omega, by have := hcs.2; omega⟩ g x1 x2 x3 r3 (1 : Int32) _ _ _ Z (lv_sub hl [2, 3, 4, 5, 1, 0] rfl) hm
set_option maxHeartbeats 4000000 in
set_option maxRecDepth 100000 in
theorem pL_does_0 (X : gC p s m args meth c cL_does 11 wmL_does yL_does.cls (some .boolean) G A) (hst : l.stackTraces = false) {n : Nat} {r : Int32 × Mem} (kI : ∀ (pc : Nat) (ls : Array Slot) (H : Heap) (locs : List Loc) (cells slots : Nat), cells ≤ 4 ∧ slots ≤ 24 → decode cL_does pc = .ok (.ireturn, 1) → WS wC G r.2 A s.heap H locs → narrow .boolean (.int r.1) = .int r.1 → W p l e { frames := 9, cells := 4, slots := 24, locals := 160 } s m args below meth c H locs cells slots Q (F0 m pc ls [.int r.1])) : ∀ (cells slots : Nat), cells + 4 ≤ 4 ∧ slots + 24 ≤ 24 → ∀ (g : Mem) (x1 : Int32) (H : Heap) (locs : List Loc) (ls : Array Slot), WS wC G g A s.heap H locs → lv_has ls 11 [(0, .ref (G.1 160)), (1, .int x1)] → sL_does n g x1 = some r → W p l e { frames := 9, cells := 4, slots := 24, locals := 160 } s m args below meth c H locs cells slots Q (F0 m 0 ls []) := by
  have hx := X.1
  have hb := X.2.1
  intro cells slots hcs g x1 H locs ls Z hl hm
  unfold sL_does at hm
  refine lv_aload_n hx hb dL_does_0 rfl (lv_at hl 0 rfl) ?_
  obtain ⟨r3, e1, hm⟩ := sBi_some hm
  refine g_callVI (n := 0) (As := []) (rest := []) sameC X Z (cX6_transactions_c l e1) (oX6 k160) rfl (gooV mB513 mB514 mB515 mB285 mB381) rfl (by decide +kernel) rfl ⟨Nat.le_of_ble_eq_true rfl, Nat.le_of_ble_eq_true rfl⟩ (hcL hcs) hl.1 rfl (Nat.le_of_ble_eq_true rfl) dL_does_1 (fun w2 H locs Z => ?_)
  refine lv_istore_n (lv' := [(2, .int r3), (0, .ref (G.1 160)), (1, .int x1)]) hx hb dL_does_4 rfl hl (by decide) rfl (fun ls hl => ?_)
  refine lv_iload_n hx hb dL_does_5 rfl (lv_at hl 0 rfl) ?_
  refine lv_if_ne (tgt := 13) hx hb dL_does_6 (by decide) (fun c4 => ?_) (fun c4 => ?_)
  · replace hm := (if_neg c4).symm.trans hm
    refine lv_iload_n hx hb dL_does_13 rfl (lv_at hl 2 rfl) ?_
    refine lv_iconst (v := 5) hx hb dL_does_14 (by decide) ?_
    refine lv_ishr hx hb dL_does_15 ?_
    refine lv_iconst (v := 3) hx hb dL_does_16 (by decide) ?_
    refine lv_iand hx hb dL_does_17 ?_
    refine lv_if_ne (tgt := 32) hx hb dL_does_18 (by decide) (fun c5 => ?_) (fun c5 => ?_)
    · replace hm := (if_neg c5).symm.trans hm
      refine lv_iload_n hx hb dL_does_32 rfl (lv_at hl 0 rfl) ?_
      refine lv_iconst (v := 1) hx hb dL_does_33 (by decide) ?_
      refine lv_isub hx hb dL_does_34 ?_
      refine lv_iload_n hx hb dL_does_35 rfl (lv_at hl 2 rfl) ?_
      refine lv_bipush (v := 7) hx hb dL_does_36 (by decide) ?_
      refine lv_ishr hx hb dL_does_38 ?_
      refine lv_iload_n hx hb dL_does_39 rfl (lv_at hl 0 rfl) ?_
      refine lv_iconst (v := 4) hx hb dL_does_40 (by decide) ?_
      refine lv_icmp_ge (tgt := 48) hx hb dL_does_41 (by decide) (fun c6 => ?_) (fun c6 => ?_)
      · replace hm := (if_pos c6).symm.trans hm
        refine lv_iconst (v := 4) hx hb dL_does_48 (by decide) ?_
        obtain ⟨r9, e7, hm⟩ := sBi_some hm
        refine g_callSI (n := 2) (As := [.int (x1 >>> ((7 : Int32) &&& 31)), .int 4]) (rest := [.int (r3 - (1 : Int32))]) sameC X Z (cL_low_c l e7) (gooS mB537 mB538 mB499 mB437) rfl (by decide +kernel) rfl ⟨Nat.le_of_ble_eq_true rfl, Nat.le_of_ble_eq_true rfl⟩ (hcL hcs) hl.1 rfl (Nat.le_of_ble_eq_true rfl) dL_does_49 (fun w8 H locs Z => ?_)
        refine lv_isub hx hb dL_does_52 ?_
        refine lv_istore_n (lv' := [(3, .int ((r3 - (1 : Int32)) - r9)), (2, .int r3), (0, .ref (G.1 160)), (1, .int x1)]) hx hb dL_does_53 rfl hl (by decide) rfl (fun ls hl => ?_)
        exact pL_does_54 X hst kI _ _ ⟨by have := hcs.1; omega, by have := hcs.2; omega⟩ g x1 r3 ((r3 - (1 : Int32)) - r9) _ _ _ Z (lv_sub hl [2, 3, 1, 0] rfl) hm
      · replace hm := (if_neg c6).symm.trans hm
        refine lv_iload_n hx hb dL_does_44 rfl (lv_at hl 0 rfl) ?_
        refine lv_goto (tgt := 49) hx hb dL_does_45 (by decide) ?_
        obtain ⟨r12, e10, hm⟩ := sBi_some hm
        refine g_callSI (n := 2) (As := [.int (x1 >>> ((7 : Int32) &&& 31)), .int r3]) (rest := [.int (r3 - (1 : Int32))]) sameC X Z (cL_low_c l e10) (gooS mB537 mB538 mB499 mB437) rfl (by decide +kernel) rfl ⟨Nat.le_of_ble_eq_true rfl, Nat.le_of_ble_eq_true rfl⟩ (hcL hcs) hl.1 rfl (Nat.le_of_ble_eq_true rfl) dL_does_49 (fun w11 H locs Z => ?_)
        refine lv_isub hx hb dL_does_52 ?_
        refine lv_istore_n (lv' := [(3, .int ((r3 - (1 : Int32)) - r12)), (2, .int r3), (0, .ref (G.1 160)), (1, .int x1)]) hx hb dL_does_53 rfl hl (by decide) rfl (fun ls hl => ?_)
        exact pL_does_54 X hst kI _ _ ⟨by have := hcs.1; omega, by have := hcs.2; omega⟩ g x1 r3 ((r3 - (1 : Int32)) - r12) _ _ _ Z (lv_sub hl [2, 3, 1, 0] rfl) hm
    · replace hm := (if_pos c5).symm.trans hm
      refine lv_iload_n hx hb dL_does_21 rfl (lv_at hl 2 rfl) ?_
      refine lv_bipush (v := 7) hx hb dL_does_22 (by decide) ?_
      refine lv_ishr hx hb dL_does_24 ?_
      refine lv_iload_n hx hb dL_does_25 rfl (lv_at hl 0 rfl) ?_
      obtain ⟨r15, e13, hm⟩ := sBi_some hm
      refine g_callSI (n := 2) (As := [.int (x1 >>> ((7 : Int32) &&& 31)), .int r3]) (rest := []) sameC X Z (cL_low_c l e13) (gooS mB537 mB538 mB499 mB437) rfl (by decide +kernel) rfl ⟨Nat.le_of_ble_eq_true rfl, Nat.le_of_ble_eq_true rfl⟩ (hcL hcs) hl.1 rfl (Nat.le_of_ble_eq_true rfl) dL_does_26 (fun w14 H locs Z => ?_)
      refine lv_goto (tgt := 53) hx hb dL_does_29 (by decide) ?_
      refine lv_istore_n (lv' := [(3, .int r15), (2, .int r3), (0, .ref (G.1 160)), (1, .int x1)]) hx hb dL_does_53 rfl hl (by decide) rfl (fun ls hl => ?_)
      exact pL_does_54 X hst kI _ _ ⟨by have := hcs.1; omega, by have := hcs.2; omega⟩ g x1 r3 r15 _ _ _ Z (lv_sub hl [2, 3, 1, 0] rfl) hm
  · replace hm := (if_pos c4).symm.trans hm
    refine lv_iconst (v := 0) hx hb dL_does_9 (by decide) ?_
    refine lv_goto (tgt := 53) hx hb dL_does_10 (by decide) ?_
    refine lv_istore_n (lv' := [(3, .int 0), (2, .int r3), (0, .ref (G.1 160)), (1, .int x1)]) hx hb dL_does_53 rfl hl (by decide) rfl (fun ls hl => ?_)
    exact pL_does_54 X hst kI _ _ ⟨by have := hcs.1; omega, by have := hcs.2; omega⟩ g x1 r3 (0 : Int32) _ _ _ Z (lv_sub hl [2, 3, 1, 0] rfl) hm
theorem cL_does_c (l : Launch) (hst : l.stackTraces = false) {G : LY} {g : Mem} {n : Nat} {x1 : Int32} {r : Int32 × Mem} (hm : sL_does n g x1 = some r) : cJ l yL_does wmL_does 9 160 4 24 .boolean wC G [.ref (G.1 160), .int x1] g r.1 r.2 :=
  mk_cJ sameC (by decide +kernel) rfl (Nat.le_of_ble_eq_true rfl) (fun p e s m args below meth c A Q ls X kI hl Z => pL_does_0 X hst kI 0 0 ⟨Nat.le_of_ble_eq_true rfl, Nat.le_of_ble_eq_true rfl⟩ g x1 _ _ ls Z hl hm)
abbrev wmL_clocks : List Cond := Cond.code yL_clocks cL_clocks 8 (some .boolean) :: wA0
set_option maxHeartbeats 4000000 in
set_option maxRecDepth 100000 in
theorem pL_clocks_0 (X : gC p s m args meth c cL_clocks 8 wmL_clocks yL_clocks.cls (some .boolean) G A) {n : Nat} {r : Int32 × Mem} (kI : ∀ (pc : Nat) (ls : Array Slot) (H : Heap) (locs : List Loc), decode cL_clocks pc = .ok (.ireturn, 1) → WS wC G r.2 A s.heap H locs → narrow .boolean (.int r.1) = .int r.1 → W p l e { frames := 8, cells := 0, slots := 0, locals := 136 } s m args below meth c H locs 0 0 Q (F0 m pc ls [.int r.1])) : ∀ (g : Mem) (x1 : Int32) (H : Heap) (locs : List Loc) (ls : Array Slot), WS wC G g A s.heap H locs → lv_has ls 8 [(0, .ref (G.1 160)), (1, .int x1)] → sL_clocks n g x1 = some r → W p l e { frames := 8, cells := 0, slots := 0, locals := 136 } s m args below meth c H locs 0 0 Q (F0 m 0 ls []) := by
  have hx := X.1
  have hb := X.2.1
  intro g x1 H locs ls Z hl hm
  unfold sL_clocks at hm
  refine lv_iload_n hx hb dL_clocks_0 rfl (lv_at hl 1 rfl) ?_
  refine lv_iconst (v := 4) hx hb dL_clocks_1 (by decide) ?_
  refine lv_ishr hx hb dL_clocks_2 ?_
  refine lv_iconst (v := 3) hx hb dL_clocks_3 (by decide) ?_
  obtain ⟨r3, e1, hm⟩ := sBi_some hm
  refine g_callSI (n := 2) (As := [.int (x1 >>> ((4 : Int32) &&& 31)), .int 3]) (rest := []) sameC X Z (cL_low_c l e1) (gooS mB537 mB538 mB499 mB437) rfl (by decide +kernel) rfl ⟨Nat.le_of_ble_eq_true rfl, Nat.le_of_ble_eq_true rfl⟩ ⟨Nat.le_of_ble_eq_true rfl, Nat.le_of_ble_eq_true rfl⟩ hl.1 rfl (Nat.le_of_ble_eq_true rfl) dL_clocks_4 (fun w2 H locs Z => ?_)
  refine lv_istore_n (lv' := [(2, .int r3), (0, .ref (G.1 160)), (1, .int x1)]) hx hb dL_clocks_7 rfl hl (by decide) rfl (fun ls hl => ?_)
  refine lv_iload_n hx hb dL_clocks_8 rfl (lv_at hl 2 rfl) ?_
  refine lv_bipush (v := 15) hx hb dL_clocks_9 (by decide) ?_
  refine lv_iand hx hb dL_clocks_11 ?_
  by_cases c4 : (x1 &&& (15 : Int32)) = 0
  · replace hm := (if_pos c4).symm.trans hm
    refine lv_tableIn (tgt := 40) hx hb dL_clocks_12 (by rw [c4]; decide) (by rw [c4]; decide) (by rw [c4]; rfl) (by decide) ?_
    refine lv_aload_n hx hb dL_clocks_40 rfl (lv_at hl 1 rfl) ?_
    refine lv_iload_n hx hb dL_clocks_41 rfl (lv_at hl 0 rfl) ?_
    obtain ⟨r7, e5, hm⟩ := sOk1_some hm
    refine g_callVI (n := 1) (As := [.int r3]) (rest := []) (r0 := r7) (g0 := g) sameC X Z (nX6_reading_c l e5 rfl) (oX6 k160) rfl (gooV mB559 mB560 mB561 mB285 mB373) rfl (by decide +kernel) rfl ⟨Nat.le_of_ble_eq_true rfl, Nat.le_of_ble_eq_true rfl⟩ ⟨Nat.le_of_ble_eq_true rfl, Nat.le_of_ble_eq_true rfl⟩ hl.1 rfl (Nat.le_of_ble_eq_true rfl) dL_clocks_42 (fun w6 H locs Z => ?_)
    refine lv_istore_n (lv' := [(3, .int r7), (2, .int r3), (0, .ref (G.1 160)), (1, .int x1)]) hx hb dL_clocks_45 rfl hl (by decide) rfl (fun ls hl => ?_)
    refine lv_iload_n hx hb dL_clocks_46 rfl (lv_at hl 3 rfl) ?_
    refine lv_bipush (v := 6) hx hb dL_clocks_47 (by decide) ?_
    refine lv_ishr hx hb dL_clocks_49 ?_
    refine lv_bipush (v := 13) hx hb dL_clocks_50 (by decide) ?_
    obtain ⟨r10, e8, hm⟩ := sBi_some hm
    refine g_callSI (n := 2) (As := [.int (x1 >>> ((6 : Int32) &&& 31)), .int 13]) (rest := []) sameC X Z (cL_low_c l e8) (gooS mB537 mB538 mB499 mB437) rfl (by decide +kernel) rfl ⟨Nat.le_of_ble_eq_true rfl, Nat.le_of_ble_eq_true rfl⟩ ⟨Nat.le_of_ble_eq_true rfl, Nat.le_of_ble_eq_true rfl⟩ hl.1 rfl (Nat.le_of_ble_eq_true rfl) dL_clocks_52 (fun w9 H locs Z => ?_)
    refine lv_bipush (v := 6) hx hb dL_clocks_55 (by decide) ?_
    refine lv_isub hx hb dL_clocks_57 ?_
    refine lv_istore (lv' := [(4, .int (r10 - (6 : Int32))), (3, .int r7), (2, .int r3), (0, .ref (G.1 160)), (1, .int x1)]) hx hb dL_clocks_58 hl (by decide) rfl (fun ls hl => ?_)
    refine lv_aload_n hx hb dL_clocks_60 rfl (lv_at hl 3 rfl) ?_
    refine lv_iload_n hx hb dL_clocks_61 rfl (lv_at hl 2 rfl) ?_
    refine lv_iload hx hb dL_clocks_62 (lv_at hl 0 rfl) ?_
    obtain ⟨r13, g14, e11, hm⟩ := sOk2_some hm
    refine g_callVI (n := 2) (As := [.int r3, .int (r10 - (6 : Int32))]) (rest := []) (r0 := r13) (g0 := g14) sameC X Z (nX6_synchronize_c l e11 rfl) (oX6 k160) rfl (gooV mB562 mB563 mB564 mB285 mB346) rfl (by decide +kernel) rfl ⟨Nat.le_of_ble_eq_true rfl, Nat.le_of_ble_eq_true rfl⟩ ⟨Nat.le_of_ble_eq_true rfl, Nat.le_of_ble_eq_true rfl⟩ hl.1 rfl (Nat.le_of_ble_eq_true rfl) dL_clocks_64 (fun w12 H locs Z => ?_)
    refine lv_aload_n hx hb dL_clocks_67 rfl (lv_at hl 3 rfl) ?_
    refine lv_iload_n hx hb dL_clocks_68 rfl (lv_at hl 2 rfl) ?_
    obtain ⟨r17, e15, hm⟩ := sOk1_some hm
    refine g_callVI (n := 1) (As := [.int r3]) (rest := [.int r13]) (r0 := r17) (g0 := g14) sameC X Z (nX6_reading_c l e15 rfl) (oX6 k160) rfl (gooV mB559 mB560 mB561 mB285 mB373) rfl (by decide +kernel) rfl ⟨Nat.le_of_ble_eq_true rfl, Nat.le_of_ble_eq_true rfl⟩ ⟨Nat.le_of_ble_eq_true rfl, Nat.le_of_ble_eq_true rfl⟩ hl.1 rfl (Nat.le_of_ble_eq_true rfl) dL_clocks_69 (fun w16 H locs Z => ?_)
    refine lv_iload_n hx hb dL_clocks_72 rfl (lv_at hl 1 rfl) ?_
    refine lv_isub hx hb dL_clocks_73 ?_
    refine lv_icmp_ne (tgt := 96) hx hb dL_clocks_74 (by decide) (fun c18 => ?_) (fun c18 => ?_)
    · replace hm := (if_neg c18).symm.trans hm
      refine lv_iconst (v := 0) hx hb dL_clocks_96 (by decide) ?_
      obtain rfl := Option.some.inj hm
      exact kI _ _ _ _ dL_clocks_97 Z nb0
    · replace hm := (if_pos c18).symm.trans hm
      refine lv_aload_n hx hb dL_clocks_77 rfl (lv_at hl 3 rfl) ?_
      refine lv_iload_n hx hb dL_clocks_78 rfl (lv_at hl 2 rfl) ?_
      obtain ⟨r21, e19, hm⟩ := sOk1_some hm
      refine g_callVI (n := 1) (As := [.int r3]) (rest := []) (r0 := r21) (g0 := g14) sameC X Z (nX6_reading_c l e19 rfl) (oX6 k160) rfl (gooV mB559 mB560 mB561 mB285 mB373) rfl (by decide +kernel) rfl ⟨Nat.le_of_ble_eq_true rfl, Nat.le_of_ble_eq_true rfl⟩ ⟨Nat.le_of_ble_eq_true rfl, Nat.le_of_ble_eq_true rfl⟩ hl.1 rfl (Nat.le_of_ble_eq_true rfl) dL_clocks_79 (fun w20 H locs Z => ?_)
      refine lv_aload_n hx hb dL_clocks_82 rfl (lv_at hl 3 rfl) ?_
      obtain ⟨r24, e22, hm⟩ := sBi_some hm
      refine g_callVI (n := 0) (As := []) (rest := [.int r21]) sameC X Z (cX6_trueTime_c l e22) (oX6 k160) rfl (gooV mB552 mB553 mB554 mB285 mB372) rfl (by decide +kernel) rfl ⟨Nat.le_of_ble_eq_true rfl, Nat.le_of_ble_eq_true rfl⟩ ⟨Nat.le_of_ble_eq_true rfl, Nat.le_of_ble_eq_true rfl⟩ hl.1 rfl (Nat.le_of_ble_eq_true rfl) dL_clocks_83 (fun w23 H locs Z => ?_)
      refine lv_iload hx hb dL_clocks_86 (lv_at hl 0 rfl) ?_
      refine lv_iadd hx hb dL_clocks_88 ?_
      refine lv_icmp_ne (tgt := 96) hx hb dL_clocks_89 (by decide) (fun c25 => ?_) (fun c25 => ?_)
      · replace hm := (if_neg c25).symm.trans hm
        refine lv_iconst (v := 0) hx hb dL_clocks_96 (by decide) ?_
        obtain rfl := Option.some.inj hm
        exact kI _ _ _ _ dL_clocks_97 Z nb0
      · replace hm := (if_pos c25).symm.trans hm
        refine lv_iconst (v := 1) hx hb dL_clocks_92 (by decide) ?_
        refine lv_goto (tgt := 97) hx hb dL_clocks_93 (by decide) ?_
        obtain rfl := Option.some.inj hm
        exact kI _ _ _ _ dL_clocks_97 Z nb1
  replace hm := (if_neg c4).symm.trans hm
  by_cases c26 : (x1 &&& (15 : Int32)) = 1
  · replace hm := (if_pos c26).symm.trans hm
    refine lv_tableIn (tgt := 98) hx hb dL_clocks_12 (by rw [c26]; decide) (by rw [c26]; decide) (by rw [c26]; rfl) (by decide) ?_
    refine lv_aload_n hx hb dL_clocks_98 rfl (lv_at hl 1 rfl) ?_
    refine lv_iload_n hx hb dL_clocks_99 rfl (lv_at hl 0 rfl) ?_
    obtain ⟨r29, e27, hm⟩ := sOk1_some hm
    refine g_callVI (n := 1) (As := [.int r3]) (rest := []) (r0 := r29) (g0 := g) sameC X Z (nX6_reading_c l e27 rfl) (oX6 k160) rfl (gooV mB559 mB560 mB561 mB285 mB373) rfl (by decide +kernel) rfl ⟨Nat.le_of_ble_eq_true rfl, Nat.le_of_ble_eq_true rfl⟩ ⟨Nat.le_of_ble_eq_true rfl, Nat.le_of_ble_eq_true rfl⟩ hl.1 rfl (Nat.le_of_ble_eq_true rfl) dL_clocks_100 (fun w28 H locs Z => ?_)
    refine lv_istore (lv' := [(5, .int r29), (2, .int r3), (0, .ref (G.1 160)), (1, .int x1)]) hx hb dL_clocks_103 hl (by decide) rfl (fun ls hl => ?_)
    refine lv_aload_n hx hb dL_clocks_105 rfl (lv_at hl 2 rfl) ?_
    refine lv_iload_n hx hb dL_clocks_106 rfl (lv_at hl 1 rfl) ?_
    refine lv_iload_n hx hb dL_clocks_107 rfl (lv_at hl 3 rfl) ?_
    refine lv_bipush (v := 6) hx hb dL_clocks_108 (by decide) ?_
    refine lv_ishr hx hb dL_clocks_110 ?_
    refine lv_bipush (v := 101) hx hb dL_clocks_111 (by decide) ?_
    obtain ⟨r32, e30, hm⟩ := sBi_some hm
    refine g_callSI (n := 2) (As := [.int (x1 >>> ((6 : Int32) &&& 31)), .int 101]) (rest := [.int r3, .ref (G.1 160)]) sameC X Z (cL_low_c l e30) (gooS mB537 mB538 mB499 mB437) rfl (by decide +kernel) rfl ⟨Nat.le_of_ble_eq_true rfl, Nat.le_of_ble_eq_true rfl⟩ ⟨Nat.le_of_ble_eq_true rfl, Nat.le_of_ble_eq_true rfl⟩ hl.1 rfl (Nat.le_of_ble_eq_true rfl) dL_clocks_113 (fun w31 H locs Z => ?_)
    refine lv_bipush (v := 50) hx hb dL_clocks_116 (by decide) ?_
    refine lv_isub hx hb dL_clocks_118 ?_
    obtain ⟨r35, g36, e33, hm⟩ := sOk2_some hm
    refine g_callVI (n := 2) (As := [.int r3, .int (r32 - (50 : Int32))]) (rest := []) (r0 := r35) (g0 := g36) sameC X Z (nX6_setDrift_c l e33 rfl) (oX6 k160) rfl (gooV mB565 mB566 mB567 mB285 mB352) rfl (by decide +kernel) rfl ⟨Nat.le_of_ble_eq_true rfl, Nat.le_of_ble_eq_true rfl⟩ ⟨Nat.le_of_ble_eq_true rfl, Nat.le_of_ble_eq_true rfl⟩ hl.1 rfl (Nat.le_of_ble_eq_true rfl) dL_clocks_119 (fun w34 H locs Z => ?_)
    refine lv_istore (lv' := [(6, .int r35), (5, .int r29), (2, .int r3), (0, .ref (G.1 160)), (1, .int x1)]) hx hb dL_clocks_122 hl (by decide) rfl (fun ls hl => ?_)
    refine lv_iload hx hb dL_clocks_124 (lv_at hl 0 rfl) ?_
    refine lv_bipush (v := (-100)) hx hb dL_clocks_126 (by decide) ?_
    refine lv_icmp_lt (tgt := 152) hx hb dL_clocks_128 (by decide) (fun c37 => ?_) (fun c37 => ?_)
    · replace hm := (if_pos c37).symm.trans hm
      refine lv_iconst (v := 0) hx hb dL_clocks_152 (by decide) ?_
      obtain rfl := Option.some.inj hm
      exact kI _ _ _ _ dL_clocks_153 Z nb0
    · replace hm := (if_neg c37).symm.trans hm
      refine lv_iload hx hb dL_clocks_131 (lv_at hl 0 rfl) ?_
      refine lv_bipush (v := 100) hx hb dL_clocks_133 (by decide) ?_
      refine lv_icmp_gt (tgt := 152) hx hb dL_clocks_135 (by decide) (fun c38 => ?_) (fun c38 => ?_)
      · replace hm := (if_pos c38).symm.trans hm
        refine lv_iconst (v := 0) hx hb dL_clocks_152 (by decide) ?_
        obtain rfl := Option.some.inj hm
        exact kI _ _ _ _ dL_clocks_153 Z nb0
      · replace hm := (if_neg c38).symm.trans hm
        refine lv_aload_n hx hb dL_clocks_138 rfl (lv_at hl 3 rfl) ?_
        refine lv_iload_n hx hb dL_clocks_139 rfl (lv_at hl 2 rfl) ?_
        obtain ⟨r41, e39, hm⟩ := sOk1_some hm
        refine g_callVI (n := 1) (As := [.int r3]) (rest := []) (r0 := r41) (g0 := g36) sameC X Z (nX6_reading_c l e39 rfl) (oX6 k160) rfl (gooV mB559 mB560 mB561 mB285 mB373) rfl (by decide +kernel) rfl ⟨Nat.le_of_ble_eq_true rfl, Nat.le_of_ble_eq_true rfl⟩ ⟨Nat.le_of_ble_eq_true rfl, Nat.le_of_ble_eq_true rfl⟩ hl.1 rfl (Nat.le_of_ble_eq_true rfl) dL_clocks_140 (fun w40 H locs Z => ?_)
        refine lv_iload hx hb dL_clocks_143 (lv_at hl 1 rfl) ?_
        refine lv_icmp_ne (tgt := 152) hx hb dL_clocks_145 (by decide) (fun c42 => ?_) (fun c42 => ?_)
        · replace hm := (if_neg c42).symm.trans hm
          refine lv_iconst (v := 0) hx hb dL_clocks_152 (by decide) ?_
          obtain rfl := Option.some.inj hm
          exact kI _ _ _ _ dL_clocks_153 Z nb0
        · replace hm := (if_pos c42).symm.trans hm
          refine lv_iconst (v := 1) hx hb dL_clocks_148 (by decide) ?_
          refine lv_goto (tgt := 153) hx hb dL_clocks_149 (by decide) ?_
          obtain rfl := Option.some.inj hm
          exact kI _ _ _ _ dL_clocks_153 Z nb1
  replace hm := (if_neg c26).symm.trans hm
  by_cases c43 : (x1 &&& (15 : Int32)) = 2
  · replace hm := (if_pos c43).symm.trans hm
    refine lv_tableIn (tgt := 154) hx hb dL_clocks_12 (by rw [c43]; decide) (by rw [c43]; decide) (by rw [c43]; rfl) (by decide) ?_
    refine lv_aload_n hx hb dL_clocks_154 rfl (lv_at hl 1 rfl) ?_
    refine lv_iload_n hx hb dL_clocks_155 rfl (lv_at hl 0 rfl) ?_
    refine lv_iload_n hx hb dL_clocks_156 rfl (lv_at hl 2 rfl) ?_
    refine lv_bipush (v := 6) hx hb dL_clocks_157 (by decide) ?_
    refine lv_ishr hx hb dL_clocks_159 ?_
    refine lv_bipush (v := 20) hx hb dL_clocks_160 (by decide) ?_
    obtain ⟨r46, e44, hm⟩ := sBi_some hm
    refine g_callSI (n := 2) (As := [.int (x1 >>> ((6 : Int32) &&& 31)), .int 20]) (rest := [.int r3, .ref (G.1 160)]) sameC X Z (cL_low_c l e44) (gooS mB537 mB538 mB499 mB437) rfl (by decide +kernel) rfl ⟨Nat.le_of_ble_eq_true rfl, Nat.le_of_ble_eq_true rfl⟩ ⟨Nat.le_of_ble_eq_true rfl, Nat.le_of_ble_eq_true rfl⟩ hl.1 rfl (Nat.le_of_ble_eq_true rfl) dL_clocks_162 (fun w45 H locs Z => ?_)
    refine lv_iload_n hx hb dL_clocks_165 rfl (lv_at hl 2 rfl) ?_
    refine lv_bipush (v := 11) hx hb dL_clocks_166 (by decide) ?_
    refine lv_ishr hx hb dL_clocks_168 ?_
    refine lv_bipush (v := 20) hx hb dL_clocks_169 (by decide) ?_
    obtain ⟨r49, e47, hm⟩ := sBi_some hm
    refine g_callSI (n := 2) (As := [.int (x1 >>> ((11 : Int32) &&& 31)), .int 20]) (rest := [.int r46, .int r3, .ref (G.1 160)]) sameC X Z (cL_low_c l e47) (gooS mB537 mB538 mB499 mB437) rfl (by decide +kernel) rfl ⟨Nat.le_of_ble_eq_true rfl, Nat.le_of_ble_eq_true rfl⟩ ⟨Nat.le_of_ble_eq_true rfl, Nat.le_of_ble_eq_true rfl⟩ hl.1 rfl (Nat.le_of_ble_eq_true rfl) dL_clocks_171 (fun w48 H locs Z => ?_)
    obtain ⟨r52, g53, e50, hm⟩ := sOk2_some hm
    refine g_callVI (n := 3) (As := [.int r3, .int r46, .int r49]) (rest := []) (r0 := r52) (g0 := g53) sameC X Z (nX6_setUncertainty_c l e50 rfl) (oX6 k160) rfl (gooV mB568 mB569 mB570 mB285 mB357) rfl (by decide +kernel) rfl ⟨Nat.le_of_ble_eq_true rfl, Nat.le_of_ble_eq_true rfl⟩ ⟨Nat.le_of_ble_eq_true rfl, Nat.le_of_ble_eq_true rfl⟩ hl.1 rfl (Nat.le_of_ble_eq_true rfl) dL_clocks_174 (fun w51 H locs Z => ?_)
    refine lv_istore (lv' := [(7, .int r52), (2, .int r3), (0, .ref (G.1 160)), (1, .int x1)]) hx hb dL_clocks_177 hl (by decide) rfl (fun ls hl => ?_)
    refine lv_aload_n hx hb dL_clocks_179 rfl (lv_at hl 2 rfl) ?_
    refine lv_iload_n hx hb dL_clocks_180 rfl (lv_at hl 1 rfl) ?_
    obtain ⟨r56, e54, hm⟩ := sOk1_some hm
    refine g_callVI (n := 1) (As := [.int r3]) (rest := []) (r0 := r56) (g0 := g53) sameC X Z (nX6_latest_c l e54 rfl) (oX6 k160) rfl (gooV mB571 mB572 mB573 mB285 mB378) rfl (by decide +kernel) rfl ⟨Nat.le_of_ble_eq_true rfl, Nat.le_of_ble_eq_true rfl⟩ ⟨Nat.le_of_ble_eq_true rfl, Nat.le_of_ble_eq_true rfl⟩ hl.1 rfl (Nat.le_of_ble_eq_true rfl) dL_clocks_181 (fun w55 H locs Z => ?_)
    refine lv_aload_n hx hb dL_clocks_184 rfl (lv_at hl 2 rfl) ?_
    refine lv_iload_n hx hb dL_clocks_185 rfl (lv_at hl 1 rfl) ?_
    obtain ⟨r59, e57, hm⟩ := sOk1_some hm
    refine g_callVI (n := 1) (As := [.int r3]) (rest := [.int r56]) (r0 := r59) (g0 := g53) sameC X Z (nX6_earliest_c l e57 rfl) (oX6 k160) rfl (gooV mB574 mB575 mB576 mB285 mB376) rfl (by decide +kernel) rfl ⟨Nat.le_of_ble_eq_true rfl, Nat.le_of_ble_eq_true rfl⟩ ⟨Nat.le_of_ble_eq_true rfl, Nat.le_of_ble_eq_true rfl⟩ hl.1 rfl (Nat.le_of_ble_eq_true rfl) dL_clocks_186 (fun w58 H locs Z => ?_)
    refine lv_isub hx hb dL_clocks_189 ?_
    refine lv_iconst (v := 2) hx hb dL_clocks_190 (by decide) ?_
    refine lv_iload hx hb dL_clocks_191 (lv_at hl 0 rfl) ?_
    refine lv_imul hx hb dL_clocks_193 ?_
    refine lv_icmp_ne (tgt := 238) hx hb dL_clocks_194 (by decide) (fun c60 => ?_) (fun c60 => ?_)
    · replace hm := (if_neg c60).symm.trans hm
      refine lv_iconst (v := 0) hx hb dL_clocks_238 (by decide) ?_
      obtain rfl := Option.some.inj hm
      exact kI _ _ _ _ dL_clocks_239 Z nb0
    · replace hm := (if_pos c60).symm.trans hm
      refine lv_aload_n hx hb dL_clocks_197 rfl (lv_at hl 2 rfl) ?_
      refine lv_iload_n hx hb dL_clocks_198 rfl (lv_at hl 1 rfl) ?_
      obtain ⟨r63, e61, hm⟩ := sOk1_some hm
      refine g_callVI (n := 1) (As := [.int r3]) (rest := []) (r0 := r63) (g0 := g53) sameC X Z (nX6_isSound_c l e61 rfl) (oX6 k160) rfl (gooV mB577 mB578 mB579 mB285 mB380) rfl (by decide +kernel) rfl ⟨Nat.le_of_ble_eq_true rfl, Nat.le_of_ble_eq_true rfl⟩ ⟨Nat.le_of_ble_eq_true rfl, Nat.le_of_ble_eq_true rfl⟩ hl.1 rfl (Nat.le_of_ble_eq_true rfl) dL_clocks_199 (fun w62 H locs Z => ?_)
      refine lv_aload_n hx hb dL_clocks_202 rfl (lv_at hl 2 rfl) ?_
      refine lv_iload_n hx hb dL_clocks_203 rfl (lv_at hl 1 rfl) ?_
      obtain ⟨r66, e64, hm⟩ := sOk1_some hm
      refine g_callVI (n := 1) (As := [.int r3]) (rest := [.int r63]) (r0 := r66) (g0 := g53) sameC X Z (nX6_earliest_c l e64 rfl) (oX6 k160) rfl (gooV mB574 mB575 mB576 mB285 mB376) rfl (by decide +kernel) rfl ⟨Nat.le_of_ble_eq_true rfl, Nat.le_of_ble_eq_true rfl⟩ ⟨Nat.le_of_ble_eq_true rfl, Nat.le_of_ble_eq_true rfl⟩ hl.1 rfl (Nat.le_of_ble_eq_true rfl) dL_clocks_204 (fun w65 H locs Z => ?_)
      refine lv_aload_n hx hb dL_clocks_207 rfl (lv_at hl 2 rfl) ?_
      obtain ⟨r69, e67, hm⟩ := sBi_some hm
      refine g_callVI (n := 0) (As := []) (rest := [.int r66, .int r63]) sameC X Z (cX6_trueTime_c l e67) (oX6 k160) rfl (gooV mB552 mB553 mB554 mB285 mB372) rfl (by decide +kernel) rfl ⟨Nat.le_of_ble_eq_true rfl, Nat.le_of_ble_eq_true rfl⟩ ⟨Nat.le_of_ble_eq_true rfl, Nat.le_of_ble_eq_true rfl⟩ hl.1 rfl (Nat.le_of_ble_eq_true rfl) dL_clocks_208 (fun w68 H locs Z => ?_)
      refine lv_icmp_gt (tgt := 230) hx hb dL_clocks_211 (by decide) (fun c70 => ?_) (fun c70 => ?_)
      · replace hm := (if_pos c70).symm.trans hm
        refine lv_iconst (v := 0) hx hb dL_clocks_230 (by decide) ?_
        refine lv_icmp_ne (tgt := 238) hx hb dL_clocks_231 (by decide) (fun c71 => ?_) (fun c71 => ?_)
        · replace hm := (if_neg c71).symm.trans hm
          refine lv_iconst (v := 0) hx hb dL_clocks_238 (by decide) ?_
          obtain rfl := Option.some.inj hm
          exact kI _ _ _ _ dL_clocks_239 Z nb0
        · replace hm := (if_pos c71).symm.trans hm
          refine lv_iconst (v := 1) hx hb dL_clocks_234 (by decide) ?_
          refine lv_goto (tgt := 239) hx hb dL_clocks_235 (by decide) ?_
          obtain rfl := Option.some.inj hm
          exact kI _ _ _ _ dL_clocks_239 Z nb1
      · replace hm := (if_neg c70).symm.trans hm
        refine lv_aload_n hx hb dL_clocks_214 rfl (lv_at hl 2 rfl) ?_
        refine lv_iload_n hx hb dL_clocks_215 rfl (lv_at hl 1 rfl) ?_
        obtain ⟨r74, e72, hm⟩ := sOk1_some hm
        refine g_callVI (n := 1) (As := [.int r3]) (rest := [.int r63]) (r0 := r74) (g0 := g53) sameC X Z (nX6_latest_c l e72 rfl) (oX6 k160) rfl (gooV mB571 mB572 mB573 mB285 mB378) rfl (by decide +kernel) rfl ⟨Nat.le_of_ble_eq_true rfl, Nat.le_of_ble_eq_true rfl⟩ ⟨Nat.le_of_ble_eq_true rfl, Nat.le_of_ble_eq_true rfl⟩ hl.1 rfl (Nat.le_of_ble_eq_true rfl) dL_clocks_216 (fun w73 H locs Z => ?_)
        refine lv_aload_n hx hb dL_clocks_219 rfl (lv_at hl 2 rfl) ?_
        obtain ⟨r77, e75, hm⟩ := sBi_some hm
        refine g_callVI (n := 0) (As := []) (rest := [.int r74, .int r63]) sameC X Z (cX6_trueTime_c l e75) (oX6 k160) rfl (gooV mB552 mB553 mB554 mB285 mB372) rfl (by decide +kernel) rfl ⟨Nat.le_of_ble_eq_true rfl, Nat.le_of_ble_eq_true rfl⟩ ⟨Nat.le_of_ble_eq_true rfl, Nat.le_of_ble_eq_true rfl⟩ hl.1 rfl (Nat.le_of_ble_eq_true rfl) dL_clocks_220 (fun w76 H locs Z => ?_)
        refine lv_icmp_lt (tgt := 230) hx hb dL_clocks_223 (by decide) (fun c78 => ?_) (fun c78 => ?_)
        · replace hm := (if_pos c78).symm.trans hm
          refine lv_iconst (v := 0) hx hb dL_clocks_230 (by decide) ?_
          refine lv_icmp_ne (tgt := 238) hx hb dL_clocks_231 (by decide) (fun c79 => ?_) (fun c79 => ?_)
          · replace hm := (if_neg c79).symm.trans hm
            refine lv_iconst (v := 0) hx hb dL_clocks_238 (by decide) ?_
            obtain rfl := Option.some.inj hm
            exact kI _ _ _ _ dL_clocks_239 Z nb0
          · replace hm := (if_pos c79).symm.trans hm
            refine lv_iconst (v := 1) hx hb dL_clocks_234 (by decide) ?_
            refine lv_goto (tgt := 239) hx hb dL_clocks_235 (by decide) ?_
            obtain rfl := Option.some.inj hm
            exact kI _ _ _ _ dL_clocks_239 Z nb1
        · replace hm := (if_neg c78).symm.trans hm
          refine lv_iconst (v := 1) hx hb dL_clocks_226 (by decide) ?_
          refine lv_goto (tgt := 231) hx hb dL_clocks_227 (by decide) ?_
          refine lv_icmp_ne (tgt := 238) hx hb dL_clocks_231 (by decide) (fun c80 => ?_) (fun c80 => ?_)
          · replace hm := (if_neg c80).symm.trans hm
            refine lv_iconst (v := 0) hx hb dL_clocks_238 (by decide) ?_
            obtain rfl := Option.some.inj hm
            exact kI _ _ _ _ dL_clocks_239 Z nb0
          · replace hm := (if_pos c80).symm.trans hm
            refine lv_iconst (v := 1) hx hb dL_clocks_234 (by decide) ?_
            refine lv_goto (tgt := 239) hx hb dL_clocks_235 (by decide) ?_
            obtain rfl := Option.some.inj hm
            exact kI _ _ _ _ dL_clocks_239 Z nb1
  replace hm := (if_neg c43).symm.trans hm
  refine g_tbl (tgt := 240) [0, 1, 2] hx hb dL_clocks_12 (by decide) (by decide +kernel) (List.forall_mem_cons.mpr ⟨c4, (List.forall_mem_cons.mpr ⟨c26, (List.forall_mem_cons.mpr ⟨c43, (fun _ h => absurd h List.not_mem_nil)⟩)⟩)⟩) ?_
  refine lv_iconst (v := 1) hx hb dL_clocks_240 (by decide) ?_
  obtain rfl := Option.some.inj hm
  exact kI _ _ _ _ dL_clocks_241 Z nb1
theorem cL_clocks_c (l : Launch) {G : LY} {g : Mem} {n : Nat} {x1 : Int32} {r : Int32 × Mem} (hm : sL_clocks n g x1 = some r) : cI l yL_clocks wmL_clocks 8 136 .boolean wC G [.ref (G.1 160), .int x1] g r.1 r.2 :=
  mk_cI sameC (by decide +kernel) rfl (Nat.le_of_ble_eq_true rfl) (fun p e s m args below meth c A Q ls X kI hl Z => pL_clocks_0 X kI g x1 _ _ ls Z hl hm)
abbrev wmL_isRead : List Cond := Cond.code yL_isRead cL_isRead 8 (some .boolean) :: wA0
set_option maxHeartbeats 4000000 in
set_option maxRecDepth 100000 in
theorem pL_isRead_101 (X : gC p s m args meth c cL_isRead 8 wmL_isRead yL_isRead.cls (some .boolean) G A) (hst : l.stackTraces = false) {n : Nat} {r : Int32 × Mem} (kI : ∀ (pc : Nat) (ls : Array Slot) (H : Heap) (locs : List Loc) (cells slots : Nat), cells ≤ 6 ∧ slots ≤ 36 → decode cL_isRead pc = .ok (.ireturn, 1) → WS wD G r.2 A s.heap H locs → narrow .boolean (.int r.1) = .int r.1 → W p l e { frames := 9, cells := 6, slots := 36, locals := 158 } s m args below meth c H locs cells slots Q (F0 m pc ls [.int r.1])) : ∀ (cells slots : Nat), cells + 3 ≤ 6 ∧ slots + 18 ≤ 36 → ∀ (g : Mem) (x3 : Int32) (x5 : Int32) (x6 : Int32) (H : Heap) (locs : List Loc) (ls : Array Slot), WS wD G g A s.heap H locs → lv_has ls 8 [(0, .ref (G.1 160)), (1, .ref (G.1 161)), (3, .int x3), (5, .int x5), (6, .int x6)] → sL_isRead_101 n g x3 x5 x6 = some r → W p l e { frames := 9, cells := 6, slots := 36, locals := 158 } s m args below meth c H locs cells slots Q (F0 m 101 ls []) := by
  have hx := X.1
  have hb := X.2.1
  intro cells slots hcs g x3 x5 x6 H locs ls Z hl hm
  unfold sL_isRead_101 at hm
  refine lv_aload_n hx hb dL_isRead_101 rfl (lv_at hl 0 rfl) ?_
  refine lv_iload_n hx hb dL_isRead_102 rfl (lv_at hl 2 rfl) ?_
  refine lv_iload hx hb dL_isRead_103 (lv_at hl 4 rfl) ?_
  obtain ⟨r3, e1, hm⟩ := sOk1_some hm
  refine d_callVI (n := 2) (As := [.int x3, .int x6]) (rest := []) (r0 := r3) sameC X Z (nX6_valueAt_c l e1 rfl) (oX6 k160) rfl (gooV mB472 mB473 mB474 mB285 mB401) rfl (by decide +kernel) rfl ⟨Nat.le_of_ble_eq_true rfl, Nat.le_of_ble_eq_true rfl⟩ (hcL hcs) hl.1 rfl (Nat.le_of_ble_eq_true rfl) dL_isRead_105 (fun w2 H locs Z => ?_)
  refine lv_istore (lv' := [(7, .int r3), (0, .ref (G.1 160)), (1, .ref (G.1 161)), (3, .int x3), (5, .int x5), (6, .int x6)]) hx hb dL_isRead_108 hl (by decide) rfl (fun ls hl => ?_)
  refine lv_aload_n hx hb dL_isRead_110 rfl (lv_at hl 2 rfl) ?_
  refine lv_iconst (v := 0) hx hb dL_isRead_111 (by decide) ?_
  refine lv_iload_n hx hb dL_isRead_112 rfl (lv_at hl 3 rfl) ?_
  obtain ⟨b4, hm⟩ := sIdx_some hm
  obtain ⟨g5, eg5, hm⟩ := sLet_some hm
  refine g_iast eg5 X Z heldD b4 dL_isRead_113 (fun H locs Z => ?_)
  refine lv_aload_n hx hb dL_isRead_114 rfl (lv_at hl 2 rfl) ?_
  refine lv_iconst (v := 1) hx hb dL_isRead_115 (by decide) ?_
  refine lv_iload hx hb dL_isRead_116 (lv_at hl 5 rfl) ?_
  obtain ⟨b6, hm⟩ := sIdx_some hm
  obtain ⟨g7, eg7, hm⟩ := sLet_some hm
  refine g_iast eg7 X Z heldD b6 dL_isRead_118 (fun H locs Z => ?_)
  refine lv_aload_n hx hb dL_isRead_119 rfl (lv_at hl 2 rfl) ?_
  refine lv_iconst (v := 2) hx hb dL_isRead_120 (by decide) ?_
  refine lv_iload hx hb dL_isRead_121 (lv_at hl 0 rfl) ?_
  obtain ⟨b8, hm⟩ := sIdx_some hm
  obtain ⟨g9, eg9, hm⟩ := sLet_some hm
  refine g_iast eg9 X Z heldD b8 dL_isRead_123 (fun H locs Z => ?_)
  refine lv_aload_n hx hb dL_isRead_124 rfl (lv_at hl 1 rfl) ?_
  refine lv_iload_n hx hb dL_isRead_125 rfl (lv_at hl 3 rfl) ?_
  refine lv_iload hx hb dL_isRead_126 (lv_at hl 5 rfl) ?_
  obtain ⟨r12, g13w, e10, hm⟩ := sBi2_some hm
  obtain ⟨g13, eg13, hm⟩ := sLet_some hm
  refine d_callW (n := 3) (As := [.ref (G.1 160), .int x3, .int x6]) (rest := []) (mcc := 3) (msc := 18) eg13 X Z (cL_snapshots_c l hst e10) (gooS mB581 mB582 mB499 mB464) rfl (by decide +kernel) rfl ⟨Nat.le_of_ble_eq_true rfl, Nat.le_of_ble_eq_true rfl⟩ rfl rfl (hcM hcs rfl rfl) hl.1 rfl (Nat.le_of_ble_eq_true rfl) dL_isRead_128 (fun H locs Z => ?_)
  have hcs : (cells + 3) + 0 ≤ 6 ∧ (slots + 18) + 0 ≤ 36 := ⟨by have := hcs.1; omega, by have := hcs.2; omega⟩
  refine lv_iload hx hb dL_isRead_131 (lv_at hl 0 rfl) ?_
  refine lv_icmp_ne (tgt := 161) hx hb dL_isRead_133 (by decide) (fun c14 => ?_) (fun c14 => ?_)
  · replace hm := (if_neg c14).symm.trans hm
    refine lv_iconst (v := 0) hx hb dL_isRead_161 (by decide) ?_
    obtain rfl := Option.some.inj hm
    exact kI _ _ _ _ _ _ ⟨by have := hcs.1; omega, by have := hcs.2; omega⟩ dL_isRead_162 Z nb0
  · replace hm := (if_pos c14).symm.trans hm
    refine lv_aload_n hx hb dL_isRead_136 rfl (lv_at hl 1 rfl) ?_
    obtain ⟨r17, e15, hm⟩ := sBi_some hm
    refine d_callVI (n := 0) (As := []) (rest := []) sameC X Z (cX6_readFloor_c l e15) (oX6 k160) rfl (gooV mB532 mB533 mB534 mB285 mB413) rfl (by decide +kernel) rfl ⟨Nat.le_of_ble_eq_true rfl, Nat.le_of_ble_eq_true rfl⟩ (hcL hcs) hl.1 rfl (Nat.le_of_ble_eq_true rfl) dL_isRead_137 (fun w16 H locs Z => ?_)
    refine lv_iload hx hb dL_isRead_140 (lv_at hl 4 rfl) ?_
    refine lv_iload hx hb dL_isRead_142 (lv_at hl 5 rfl) ?_
    refine lv_icmp_ge (tgt := 152) hx hb dL_isRead_144 (by decide) (fun c18 => ?_) (fun c18 => ?_)
    · replace hm := (if_pos c18).symm.trans hm
      refine lv_iload hx hb dL_isRead_152 (lv_at hl 4 rfl) ?_
      refine lv_icmp_ne (tgt := 161) hx hb dL_isRead_154 (by decide) (fun c19 => ?_) (fun c19 => ?_)
      · replace hm := (if_neg c19).symm.trans hm
        refine lv_iconst (v := 0) hx hb dL_isRead_161 (by decide) ?_
        obtain rfl := Option.some.inj hm
        exact kI _ _ _ _ _ _ ⟨by have := hcs.1; omega, by have := hcs.2; omega⟩ dL_isRead_162 Z nb0
      · replace hm := (if_pos c19).symm.trans hm
        refine lv_iconst (v := 1) hx hb dL_isRead_157 (by decide) ?_
        refine lv_goto (tgt := 162) hx hb dL_isRead_158 (by decide) ?_
        obtain rfl := Option.some.inj hm
        exact kI _ _ _ _ _ _ ⟨by have := hcs.1; omega, by have := hcs.2; omega⟩ dL_isRead_162 Z nb1
    · replace hm := (if_neg c18).symm.trans hm
      refine lv_iload hx hb dL_isRead_147 (lv_at hl 5 rfl) ?_
      refine lv_goto (tgt := 154) hx hb dL_isRead_149 (by decide) ?_
      refine lv_icmp_ne (tgt := 161) hx hb dL_isRead_154 (by decide) (fun c20 => ?_) (fun c20 => ?_)
      · replace hm := (if_neg c20).symm.trans hm
        refine lv_iconst (v := 0) hx hb dL_isRead_161 (by decide) ?_
        obtain rfl := Option.some.inj hm
        exact kI _ _ _ _ _ _ ⟨by have := hcs.1; omega, by have := hcs.2; omega⟩ dL_isRead_162 Z nb0
      · replace hm := (if_pos c20).symm.trans hm
        refine lv_iconst (v := 1) hx hb dL_isRead_157 (by decide) ?_
        refine lv_goto (tgt := 162) hx hb dL_isRead_158 (by decide) ?_
        obtain rfl := Option.some.inj hm
        exact kI _ _ _ _ _ _ ⟨by have := hcs.1; omega, by have := hcs.2; omega⟩ dL_isRead_162 Z nb1
set_option maxHeartbeats 4000000 in
set_option maxRecDepth 100000 in
theorem pL_isRead_67 (X : gC p s m args meth c cL_isRead 8 wmL_isRead yL_isRead.cls (some .boolean) G A) (hst : l.stackTraces = false) {n : Nat} {r : Int32 × Mem} (kI : ∀ (pc : Nat) (ls : Array Slot) (H : Heap) (locs : List Loc) (cells slots : Nat), cells ≤ 6 ∧ slots ≤ 36 → decode cL_isRead pc = .ok (.ireturn, 1) → WS wD G r.2 A s.heap H locs → narrow .boolean (.int r.1) = .int r.1 → W p l e { frames := 9, cells := 6, slots := 36, locals := 158 } s m args below meth c H locs cells slots Q (F0 m pc ls [.int r.1])) : ∀ (cells slots : Nat), cells + 3 ≤ 6 ∧ slots + 18 ≤ 36 → ∀ (g : Mem) (x2 : Int32) (x3 : Int32) (x4 : Int32) (x5 : Int32) (H : Heap) (locs : List Loc) (ls : Array Slot), WS wD G g A s.heap H locs → lv_has ls 8 [(0, .ref (G.1 160)), (1, .ref (G.1 161)), (2, .int x2), (3, .int x3), (4, .int x4), (5, .int x5)] → sL_isRead_67 n g x2 x3 x4 x5 = some r → W p l e { frames := 9, cells := 6, slots := 36, locals := 158 } s m args below meth c H locs cells slots Q (F0 m 67 ls []) := by
  have hx := X.1
  have hb := X.2.1
  intro cells slots hcs g x2 x3 x4 x5 H locs ls Z hl hm
  unfold sL_isRead_67 at hm
  refine lv_iload hx hb dL_isRead_67 (lv_at hl 4 rfl) ?_
  refine lv_if_ge (tgt := 74) hx hb dL_isRead_69 (by decide) (fun c1 => ?_) (fun c1 => ?_)
  · replace hm := (if_pos c1).symm.trans hm
    refine lv_iload hx hb dL_isRead_74 (lv_at hl 4 rfl) ?_
    refine lv_iload_n hx hb dL_isRead_76 rfl (lv_at hl 2 rfl) ?_
    refine lv_iconst (v := 3) hx hb dL_isRead_77 (by decide) ?_
    refine lv_ishr hx hb dL_isRead_78 ?_
    refine lv_iload hx hb dL_isRead_79 (lv_at hl 4 rfl) ?_
    refine lv_bipush (v := 9) hx hb dL_isRead_81 (by decide) ?_
    refine lv_icmp_ge (tgt := 93) hx hb dL_isRead_83 (by decide) (fun c2 => ?_) (fun c2 => ?_)
    · replace hm := (if_pos c2).symm.trans hm
      refine lv_bipush (v := 9) hx hb dL_isRead_93 (by decide) ?_
      obtain ⟨r5, e3, hm⟩ := sBi_some hm
      refine d_callSI (n := 2) (As := [.int (x2 >>> ((3 : Int32) &&& 31)), .int 9]) (rest := [.int x4]) sameC X Z (cL_low_c l e3) (gooS mB537 mB538 mB499 mB437) rfl (by decide +kernel) rfl ⟨Nat.le_of_ble_eq_true rfl, Nat.le_of_ble_eq_true rfl⟩ (hcL hcs) hl.1 rfl (Nat.le_of_ble_eq_true rfl) dL_isRead_95 (fun w4 H locs Z => ?_)
      refine lv_isub hx hb dL_isRead_98 ?_
      refine lv_istore (lv' := [(6, .int (x4 - r5)), (0, .ref (G.1 160)), (1, .ref (G.1 161)), (2, .int x2), (3, .int x3), (4, .int x4), (5, .int x5)]) hx hb dL_isRead_99 hl (by decide) rfl (fun ls hl => ?_)
      exact pL_isRead_101 X hst kI _ _ ⟨by have := hcs.1; omega, by have := hcs.2; omega⟩ g x3 x5 (x4 - r5) _ _ _ Z (lv_sub hl [1, 2, 4, 6, 0] rfl) hm
    · replace hm := (if_neg c2).symm.trans hm
      refine lv_iload hx hb dL_isRead_86 (lv_at hl 4 rfl) ?_
      refine lv_iconst (v := 1) hx hb dL_isRead_88 (by decide) ?_
      refine lv_iadd hx hb dL_isRead_89 ?_
      refine lv_goto (tgt := 95) hx hb dL_isRead_90 (by decide) ?_
      obtain ⟨r8, e6, hm⟩ := sBi_some hm
      refine d_callSI (n := 2) (As := [.int (x2 >>> ((3 : Int32) &&& 31)), .int (x4 + (1 : Int32))]) (rest := [.int x4]) sameC X Z (cL_low_c l e6) (gooS mB537 mB538 mB499 mB437) rfl (by decide +kernel) rfl ⟨Nat.le_of_ble_eq_true rfl, Nat.le_of_ble_eq_true rfl⟩ (hcL hcs) hl.1 rfl (Nat.le_of_ble_eq_true rfl) dL_isRead_95 (fun w7 H locs Z => ?_)
      refine lv_isub hx hb dL_isRead_98 ?_
      refine lv_istore (lv' := [(6, .int (x4 - r8)), (0, .ref (G.1 160)), (1, .ref (G.1 161)), (2, .int x2), (3, .int x3), (4, .int x4), (5, .int x5)]) hx hb dL_isRead_99 hl (by decide) rfl (fun ls hl => ?_)
      exact pL_isRead_101 X hst kI _ _ ⟨by have := hcs.1; omega, by have := hcs.2; omega⟩ g x3 x5 (x4 - r8) _ _ _ Z (lv_sub hl [1, 2, 4, 6, 0] rfl) hm
  · replace hm := (if_neg c1).symm.trans hm
    refine lv_iconst (v := 1) hx hb dL_isRead_72 (by decide) ?_
    obtain rfl := Option.some.inj hm
    exact kI _ _ _ _ _ _ ⟨by have := hcs.1; omega, by have := hcs.2; omega⟩ dL_isRead_73 Z nb1
set_option maxHeartbeats 4000000 in
set_option maxRecDepth 100000 in
theorem pL_isRead_0 (X : gC p s m args meth c cL_isRead 8 wmL_isRead yL_isRead.cls (some .boolean) G A) (hst : l.stackTraces = false) {n : Nat} {r : Int32 × Mem} (kI : ∀ (pc : Nat) (ls : Array Slot) (H : Heap) (locs : List Loc) (cells slots : Nat), cells ≤ 6 ∧ slots ≤ 36 → decode cL_isRead pc = .ok (.ireturn, 1) → WS wD G r.2 A s.heap H locs → narrow .boolean (.int r.1) = .int r.1 → W p l e { frames := 9, cells := 6, slots := 36, locals := 158 } s m args below meth c H locs cells slots Q (F0 m pc ls [.int r.1])) : ∀ (cells slots : Nat), cells + 6 ≤ 6 ∧ slots + 36 ≤ 36 → ∀ (g : Mem) (x2 : Int32) (H : Heap) (locs : List Loc) (ls : Array Slot), WS wD G g A s.heap H locs → lv_has ls 8 [(0, .ref (G.1 160)), (1, .ref (G.1 161)), (2, .int x2)] → sL_isRead n g x2 = some r → W p l e { frames := 9, cells := 6, slots := 36, locals := 158 } s m args below meth c H locs cells slots Q (F0 m 0 ls []) := by
  have hx := X.1
  have hb := X.2.1
  intro cells slots hcs g x2 H locs ls Z hl hm
  unfold sL_isRead at hm
  refine lv_iload_n hx hb dL_isRead_0 rfl (lv_at hl 2 rfl) ?_
  refine lv_bipush (v := 8) hx hb dL_isRead_1 (by decide) ?_
  obtain ⟨r3, e1, hm⟩ := sBi_some hm
  refine d_callSI (n := 2) (As := [.int x2, .int 8]) (rest := []) sameC X Z (cL_low_c l e1) (gooS mB537 mB538 mB499 mB437) rfl (by decide +kernel) rfl ⟨Nat.le_of_ble_eq_true rfl, Nat.le_of_ble_eq_true rfl⟩ (hcL hcs) hl.1 rfl (Nat.le_of_ble_eq_true rfl) dL_isRead_3 (fun w2 H locs Z => ?_)
  refine lv_istore_n (lv' := [(3, .int r3), (0, .ref (G.1 160)), (1, .ref (G.1 161)), (2, .int x2)]) hx hb dL_isRead_6 rfl hl (by decide) rfl (fun ls hl => ?_)
  refine lv_aload_n hx hb dL_isRead_7 rfl (lv_at hl 1 rfl) ?_
  obtain ⟨r6, e4, hm⟩ := sBi_some hm
  refine d_callVI (n := 0) (As := []) (rest := []) sameC X Z (cX6_safeTime_c l e4) (oX6 k160) rfl (gooV mB506 mB507 mB508 mB285 mB412) rfl (by decide +kernel) rfl ⟨Nat.le_of_ble_eq_true rfl, Nat.le_of_ble_eq_true rfl⟩ (hcL hcs) hl.1 rfl (Nat.le_of_ble_eq_true rfl) dL_isRead_8 (fun w5 H locs Z => ?_)
  refine lv_istore (lv' := [(4, .int r6), (3, .int r3), (0, .ref (G.1 160)), (1, .ref (G.1 161)), (2, .int x2)]) hx hb dL_isRead_11 hl (by decide) rfl (fun ls hl => ?_)
  refine lv_aload_n hx hb dL_isRead_13 rfl (lv_at hl 2 rfl) ?_
  obtain ⟨r9, e7, hm⟩ := sBi_some hm
  refine d_callVI (n := 0) (As := []) (rest := []) sameC X Z (cX6_readFloor_c l e7) (oX6 k160) rfl (gooV mB532 mB533 mB534 mB285 mB413) rfl (by decide +kernel) rfl ⟨Nat.le_of_ble_eq_true rfl, Nat.le_of_ble_eq_true rfl⟩ (hcL hcs) hl.1 rfl (Nat.le_of_ble_eq_true rfl) dL_isRead_14 (fun w8 H locs Z => ?_)
  refine lv_istore (lv' := [(5, .int r9), (4, .int r6), (3, .int r3), (0, .ref (G.1 160)), (1, .ref (G.1 161)), (2, .int x2)]) hx hb dL_isRead_17 hl (by decide) rfl (fun ls hl => ?_)
  refine lv_aload_n hx hb dL_isRead_19 rfl (lv_at hl 3 rfl) ?_
  refine lv_iload_n hx hb dL_isRead_20 rfl (lv_at hl 2 rfl) ?_
  refine lv_iload hx hb dL_isRead_21 (lv_at hl 1 rfl) ?_
  refine lv_iconst (v := 1) hx hb dL_isRead_23 (by decide) ?_
  refine lv_iadd hx hb dL_isRead_24 ?_
  obtain ⟨r12, g13w, e10, hm⟩ := sBi2_some hm
  obtain ⟨g13, eg13, hm⟩ := sLet_some hm
  refine d_callW (n := 3) (As := [.ref (G.1 160), .int r3, .int (r6 + (1 : Int32))]) (rest := []) (mcc := 3) (msc := 18) eg13 X Z (cL_snapshots_c l hst e10) (gooS mB581 mB582 mB499 mB464) rfl (by decide +kernel) rfl ⟨Nat.le_of_ble_eq_true rfl, Nat.le_of_ble_eq_true rfl⟩ rfl rfl (hcM hcs rfl rfl) hl.1 rfl (Nat.le_of_ble_eq_true rfl) dL_isRead_25 (fun H locs Z => ?_)
  have hcs : (cells + 3) + 3 ≤ 6 ∧ (slots + 18) + 18 ≤ 36 := ⟨by have := hcs.1; omega, by have := hcs.2; omega⟩
  refine lv_ldc (v := (-1000000)) hx hb X.2.2.2.1 (X.2.2.2.2.1 _ (List.mem_cons_of_mem _ mB440)) dL_isRead_28 ?_
  refine lv_icmp_ne (tgt := 65) hx hb dL_isRead_30 (by decide) (fun c14 => ?_) (fun c14 => ?_)
  · replace hm := (if_neg c14).symm.trans hm
    refine lv_iconst (v := 0) hx hb dL_isRead_65 (by decide) ?_
    obtain rfl := Option.some.inj hm
    exact kI _ _ _ _ _ _ ⟨by have := hcs.1; omega, by have := hcs.2; omega⟩ dL_isRead_66 Z nb0
  · replace hm := (if_pos c14).symm.trans hm
    refine lv_aload_n hx hb dL_isRead_33 rfl (lv_at hl 3 rfl) ?_
    refine lv_iload hx hb dL_isRead_34 (lv_at hl 1 rfl) ?_
    refine lv_if_ge (tgt := 43) hx hb dL_isRead_36 (by decide) (fun c15 => ?_) (fun c15 => ?_)
    · replace hm := (if_pos c15).symm.trans hm
      refine lv_iload hx hb dL_isRead_43 (lv_at hl 1 rfl) ?_
      obtain ⟨r18, e16, hm⟩ := sOk1_some hm
      refine d_callVI (n := 1) (As := [.int r6]) (rest := []) (r0 := r18) sameC X Z (nX6_ticksUntilSafe_c l e16 rfl) (oX6 k160) rfl (gooV mB583 mB584 mB585 mB285 mB417) rfl (by decide +kernel) rfl ⟨Nat.le_of_ble_eq_true rfl, Nat.le_of_ble_eq_true rfl⟩ (hcL hcs) hl.1 rfl (Nat.le_of_ble_eq_true rfl) dL_isRead_45 (fun w17 H locs Z => ?_)
      refine lv_iload hx hb dL_isRead_48 (lv_at hl 1 rfl) ?_
      refine lv_if_ge (tgt := 61) hx hb dL_isRead_50 (by decide) (fun c19 => ?_) (fun c19 => ?_)
      · replace hm := (if_pos c19).symm.trans hm
        refine lv_iconst (v := 0) hx hb dL_isRead_61 (by decide) ?_
        refine lv_icmp_eq (tgt := 67) hx hb dL_isRead_62 (by decide) (fun c20 => ?_) (fun c20 => ?_)
        · replace hm := (if_pos c20).symm.trans hm
          exact pL_isRead_67 X hst kI _ _ ⟨by have := hcs.1; omega, by have := hcs.2; omega⟩ g13 x2 r3 r6 r9 _ _ _ Z (lv_sub hl [3, 4, 5, 2, 1, 0] rfl) hm
        · replace hm := (if_neg c20).symm.trans hm
          refine lv_iconst (v := 0) hx hb dL_isRead_65 (by decide) ?_
          obtain rfl := Option.some.inj hm
          exact kI _ _ _ _ _ _ ⟨by have := hcs.1; omega, by have := hcs.2; omega⟩ dL_isRead_66 Z nb0
      · replace hm := (if_neg c19).symm.trans hm
        refine lv_aload_n hx hb dL_isRead_53 rfl (lv_at hl 3 rfl) ?_
        refine lv_iconst (v := 0) hx hb dL_isRead_54 (by decide) ?_
        obtain ⟨r23, e21, hm⟩ := sOk1_some hm
        refine d_callVI (n := 1) (As := [.int 0]) (rest := [.int r18]) (r0 := r23) sameC X Z (nX6_ticksUntilSafe_c l e21 rfl) (oX6 k160) rfl (gooV mB583 mB584 mB585 mB285 mB417) rfl (by decide +kernel) rfl ⟨Nat.le_of_ble_eq_true rfl, Nat.le_of_ble_eq_true rfl⟩ (hcL hcs) hl.1 rfl (Nat.le_of_ble_eq_true rfl) dL_isRead_55 (fun w22 H locs Z => ?_)
        refine lv_goto (tgt := 62) hx hb dL_isRead_58 (by decide) ?_
        refine lv_icmp_eq (tgt := 67) hx hb dL_isRead_62 (by decide) (fun c24 => ?_) (fun c24 => ?_)
        · replace hm := (if_pos c24).symm.trans hm
          exact pL_isRead_67 X hst kI _ _ ⟨by have := hcs.1; omega, by have := hcs.2; omega⟩ g13 x2 r3 r6 r9 _ _ _ Z (lv_sub hl [3, 4, 5, 2, 1, 0] rfl) hm
        · replace hm := (if_neg c24).symm.trans hm
          refine lv_iconst (v := 0) hx hb dL_isRead_65 (by decide) ?_
          obtain rfl := Option.some.inj hm
          exact kI _ _ _ _ _ _ ⟨by have := hcs.1; omega, by have := hcs.2; omega⟩ dL_isRead_66 Z nb0
    · replace hm := (if_neg c15).symm.trans hm
      refine lv_iconst (v := 0) hx hb dL_isRead_39 (by decide) ?_
      refine lv_goto (tgt := 45) hx hb dL_isRead_40 (by decide) ?_
      obtain ⟨r27, e25, hm⟩ := sOk1_some hm
      refine d_callVI (n := 1) (As := [.int 0]) (rest := []) (r0 := r27) sameC X Z (nX6_ticksUntilSafe_c l e25 rfl) (oX6 k160) rfl (gooV mB583 mB584 mB585 mB285 mB417) rfl (by decide +kernel) rfl ⟨Nat.le_of_ble_eq_true rfl, Nat.le_of_ble_eq_true rfl⟩ (hcL hcs) hl.1 rfl (Nat.le_of_ble_eq_true rfl) dL_isRead_45 (fun w26 H locs Z => ?_)
      refine lv_iload hx hb dL_isRead_48 (lv_at hl 1 rfl) ?_
      refine lv_if_ge (tgt := 61) hx hb dL_isRead_50 (by decide) (fun c28 => ?_) (fun c28 => ?_)
      · replace hm := (if_pos c28).symm.trans hm
        refine lv_iconst (v := 0) hx hb dL_isRead_61 (by decide) ?_
        refine lv_icmp_eq (tgt := 67) hx hb dL_isRead_62 (by decide) (fun c29 => ?_) (fun c29 => ?_)
        · replace hm := (if_pos c29).symm.trans hm
          exact pL_isRead_67 X hst kI _ _ ⟨by have := hcs.1; omega, by have := hcs.2; omega⟩ g13 x2 r3 r6 r9 _ _ _ Z (lv_sub hl [3, 4, 5, 2, 1, 0] rfl) hm
        · replace hm := (if_neg c29).symm.trans hm
          refine lv_iconst (v := 0) hx hb dL_isRead_65 (by decide) ?_
          obtain rfl := Option.some.inj hm
          exact kI _ _ _ _ _ _ ⟨by have := hcs.1; omega, by have := hcs.2; omega⟩ dL_isRead_66 Z nb0
      · replace hm := (if_neg c28).symm.trans hm
        refine lv_aload_n hx hb dL_isRead_53 rfl (lv_at hl 3 rfl) ?_
        refine lv_iconst (v := 0) hx hb dL_isRead_54 (by decide) ?_
        obtain ⟨r32, e30, hm⟩ := sOk1_some hm
        refine d_callVI (n := 1) (As := [.int 0]) (rest := [.int r27]) (r0 := r32) sameC X Z (nX6_ticksUntilSafe_c l e30 rfl) (oX6 k160) rfl (gooV mB583 mB584 mB585 mB285 mB417) rfl (by decide +kernel) rfl ⟨Nat.le_of_ble_eq_true rfl, Nat.le_of_ble_eq_true rfl⟩ (hcL hcs) hl.1 rfl (Nat.le_of_ble_eq_true rfl) dL_isRead_55 (fun w31 H locs Z => ?_)
        refine lv_goto (tgt := 62) hx hb dL_isRead_58 (by decide) ?_
        refine lv_icmp_eq (tgt := 67) hx hb dL_isRead_62 (by decide) (fun c33 => ?_) (fun c33 => ?_)
        · replace hm := (if_pos c33).symm.trans hm
          exact pL_isRead_67 X hst kI _ _ ⟨by have := hcs.1; omega, by have := hcs.2; omega⟩ g13 x2 r3 r6 r9 _ _ _ Z (lv_sub hl [3, 4, 5, 2, 1, 0] rfl) hm
        · replace hm := (if_neg c33).symm.trans hm
          refine lv_iconst (v := 0) hx hb dL_isRead_65 (by decide) ?_
          obtain rfl := Option.some.inj hm
          exact kI _ _ _ _ _ _ ⟨by have := hcs.1; omega, by have := hcs.2; omega⟩ dL_isRead_66 Z nb0
theorem cL_isRead_c (l : Launch) (hst : l.stackTraces = false) {G : LY} {g : Mem} {n : Nat} {x2 : Int32} {r : Int32 × Mem} (hm : sL_isRead n g x2 = some r) : cJ l yL_isRead wmL_isRead 9 158 6 36 .boolean wD G [.ref (G.1 160), .ref (G.1 161), .int x2] g r.1 r.2 :=
  mk_cJ sameD (by decide +kernel) rfl (Nat.le_of_ble_eq_true rfl) (fun p e s m args below meth c A Q ls X kI hl Z => pL_isRead_0 X hst kI 0 0 ⟨Nat.le_of_ble_eq_true rfl, Nat.le_of_ble_eq_true rfl⟩ g x2 _ _ ls Z hl hm)
end GW
