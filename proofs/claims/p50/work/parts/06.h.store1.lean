section GW
variable {Qc : Array Value → State → Outcome → State → Prop} {XC : String → State → State → Prop} {p : Program} {l : Launch} {e : Env} {s : State} {m : MethodId} {args : Array Value} {below : List Frame} {meth : Method} {c : Code} {Q : State → Prop} {G : LY} {A : Nat → Prop}
abbrev wmX6_requireServer : List Cond := Cond.code yX6_requireServer cX6_requireServer 2 none :: wA0
set_option maxHeartbeats 4000000 in
set_option maxRecDepth 100000 in
theorem bX6_requireServer_0 (X : gC p s m args meth c cX6_requireServer 2 wmX6_requireServer yX6_requireServer.cls none G A) {g : Mem} {r : Nat} (hNX : ∀ x ∈ c.exceptionTable.toList, False) (hst : l.stackTraces = false) (kI : ∀ (pc : Nat) (ls : Array Slot) (H : Heap) (locs : List Loc) (cells slots : Nat), cells ≤ 1 → slots ≤ 6 → r = 0 → decode cX6_requireServer pc = .ok (.return_, 1) → WS wC G g A s.heap H locs → W p l e { frames := 6, cells := 1, slots := 6, locals := 90 } s m args below meth c H locs cells slots (vx_MQ below Qc XC args s 1 6 A) (F0 m pc ls [])) (kT : r ≠ 0 → gTh XC s wC G A r g) : ∀ (x1 : Int32) (H : Heap) (locs : List Loc) (ls : Array Slot), WS wC G g A s.heap H locs → lv_has ls 2 [(0, .ref (G.1 160)), (1, .int x1)] → sX6_requireServer g x1 = some r → W p l e { frames := 6, cells := 1, slots := 6, locals := 90 } s m args below meth c H locs 0 0 (vx_MQ below Qc XC args s 1 6 A) (F0 m 0 ls []) := by
  have hx := X.1
  have hb := X.2.1
  intro x1 H locs ls Z hl hm
  unfold sX6_requireServer at hm
  refine lv_iload_n hx hb dX6_requireServer_0 rfl (lv_at hl 1 rfl) ?_
  refine lv_if_lt (tgt := 9) hx hb dX6_requireServer_1 (by decide) (fun c1 => ?_) (fun c1 => ?_)
  · replace hm := (if_pos c1).symm.trans hm
    obtain rfl := Option.some.inj hm
    exact g_throwW (ec := 1) (text := "there is no such server") (names := ["java/lang/RuntimeException", "java/lang/Exception"]) X hNX hst Z hl.1 rfl thfI thn (List.mem_cons_of_mem _ mB278) (List.mem_cons_of_mem _ mB279) (by decide) (fun w h => List.mem_cons_of_mem _ (iAtI w h)) (by decide) thbI thgI_254 dX6_requireServer_9 dX6_requireServer_12 dX6_requireServer_13 dX6_requireServer_16 dX6_requireServer_19 ⟨Nat.le_of_ble_eq_true rfl, Nat.le_of_ble_eq_true rfl, Nat.le_of_ble_eq_true rfl, Nat.le_of_ble_eq_true rfl⟩ ⟨Nat.le_of_ble_eq_true rfl, Nat.le_of_ble_eq_true rfl⟩ (kT th1)
  · replace hm := (if_neg c1).symm.trans hm
    refine lv_iload_n hx hb dX6_requireServer_4 rfl (lv_at hl 1 rfl) ?_
    refine lv_iconst (v := 3) hx hb dX6_requireServer_5 (by decide) ?_
    refine lv_icmp_lt (tgt := 20) hx hb dX6_requireServer_6 (by decide) (fun c2 => ?_) (fun c2 => ?_)
    · replace hm := (if_pos c2).symm.trans hm
      obtain rfl := Option.some.inj hm
      exact kI _ _ _ _ _ _ (Nat.le_of_ble_eq_true rfl) (Nat.le_of_ble_eq_true rfl) rfl dX6_requireServer_20 Z
    · replace hm := (if_neg c2).symm.trans hm
      obtain rfl := Option.some.inj hm
      exact g_throwW (ec := 1) (text := "there is no such server") (names := ["java/lang/RuntimeException", "java/lang/Exception"]) X hNX hst Z hl.1 rfl thfI thn (List.mem_cons_of_mem _ mB278) (List.mem_cons_of_mem _ mB279) (by decide) (fun w h => List.mem_cons_of_mem _ (iAtI w h)) (by decide) thbI thgI_254 dX6_requireServer_9 dX6_requireServer_12 dX6_requireServer_13 dX6_requireServer_16 dX6_requireServer_19 ⟨Nat.le_of_ble_eq_true rfl, Nat.le_of_ble_eq_true rfl, Nat.le_of_ble_eq_true rfl, Nat.le_of_ble_eq_true rfl⟩ ⟨Nat.le_of_ble_eq_true rfl, Nat.le_of_ble_eq_true rfl⟩ (kT th1)
theorem cX6_requireServer_c (l : Launch) (hst : l.stackTraces = false) {G : LY} {g : Mem} {x1 : Int32} {r : Nat} (hm : sX6_requireServer g x1 = some r) : cXV l yX6_requireServer wmX6_requireServer 6 90 1 6 wC G [.ref (G.1 160), .int x1] g r g :=
  mk_cXV sameC (by decide +kernel) rfl (Nat.le_of_ble_eq_true rfl) (fun p e s m args below meth c A Qc XC ls X hNX kI kT hl Z => bX6_requireServer_0 X hNX hst kI kT x1 _ _ ls Z hl hm)
abbrev wmX6_requireTransaction : List Cond := Cond.code yX6_requireTransaction cX6_requireTransaction 2 none :: wA0
set_option maxHeartbeats 4000000 in
set_option maxRecDepth 100000 in
theorem bX6_requireTransaction_0 (X : gC p s m args meth c cX6_requireTransaction 2 wmX6_requireTransaction yX6_requireTransaction.cls none G A) {g : Mem} {r : Nat} (hNX : ∀ x ∈ c.exceptionTable.toList, False) (hst : l.stackTraces = false) (kI : ∀ (pc : Nat) (ls : Array Slot) (H : Heap) (locs : List Loc) (cells slots : Nat), cells ≤ 1 → slots ≤ 6 → r = 0 → decode cX6_requireTransaction pc = .ok (.return_, 1) → WS wC G g A s.heap H locs → W p l e { frames := 6, cells := 1, slots := 6, locals := 90 } s m args below meth c H locs cells slots (vx_MQ below Qc XC args s 1 6 A) (F0 m pc ls [])) (kT : r ≠ 0 → gTh XC s wC G A r g) : ∀ (x1 : Int32) (H : Heap) (locs : List Loc) (ls : Array Slot), WS wC G g A s.heap H locs → lv_has ls 2 [(0, .ref (G.1 160)), (1, .int x1)] → sX6_requireTransaction g x1 = some r → W p l e { frames := 6, cells := 1, slots := 6, locals := 90 } s m args below meth c H locs 0 0 (vx_MQ below Qc XC args s 1 6 A) (F0 m 0 ls []) := by
  have hx := X.1
  have hb := X.2.1
  intro x1 H locs ls Z hl hm
  unfold sX6_requireTransaction at hm
  refine lv_iload_n hx hb dX6_requireTransaction_0 rfl (lv_at hl 1 rfl) ?_
  refine lv_if_lt (tgt := 18) hx hb dX6_requireTransaction_1 (by decide) (fun c1 => ?_) (fun c1 => ?_)
  · replace hm := (if_pos c1).symm.trans hm
    obtain rfl := Option.some.inj hm
    exact g_throwW (ec := 1) (text := "there is no such transaction") (names := ["java/lang/RuntimeException", "java/lang/Exception"]) X hNX hst Z hl.1 rfl thfI thn (List.mem_cons_of_mem _ mB278) (List.mem_cons_of_mem _ mB279) (by decide) (fun w h => List.mem_cons_of_mem _ (iAtI w h)) (by decide) thbI thgI_254 dX6_requireTransaction_18 dX6_requireTransaction_21 dX6_requireTransaction_22 dX6_requireTransaction_25 dX6_requireTransaction_28 ⟨Nat.le_of_ble_eq_true rfl, Nat.le_of_ble_eq_true rfl, Nat.le_of_ble_eq_true rfl, Nat.le_of_ble_eq_true rfl⟩ ⟨Nat.le_of_ble_eq_true rfl, Nat.le_of_ble_eq_true rfl⟩ (kT th1)
  · replace hm := (if_neg c1).symm.trans hm
    refine lv_iload_n hx hb dX6_requireTransaction_4 rfl (lv_at hl 1 rfl) ?_
    refine lv_aload_n hx hb dX6_requireTransaction_5 rfl (lv_at hl 0 rfl) ?_
    refine g_get (j := 0) (v := .ref (G.1 0)) X Z (oX6 k160) (iB6 _) rfl (by decide) rfl (List.mem_cons_of_mem _ mB260) rfl dX6_requireTransaction_6 ?_
    refine g_get (j := 5) (v := .ref (G.1 (0 + 9))) X Z (oX2 k0) (iB2 _) rfl (by decide) rfl (List.mem_cons_of_mem _ mB297) rfl dX6_requireTransaction_9 ?_
    refine g_get (j := 0) (v := .int (g (0 + 9) 0)) X Z (oX4 (k25 k0)) (iB4 _) rfl (by decide) rfl (List.mem_cons_of_mem _ mB298) rfl dX6_requireTransaction_12 ?_
    refine lv_icmp_lt (tgt := 29) hx hb dX6_requireTransaction_15 (by decide) (fun c2 => ?_) (fun c2 => ?_)
    · replace hm := (if_pos c2).symm.trans hm
      obtain rfl := Option.some.inj hm
      exact kI _ _ _ _ _ _ (Nat.le_of_ble_eq_true rfl) (Nat.le_of_ble_eq_true rfl) rfl dX6_requireTransaction_29 Z
    · replace hm := (if_neg c2).symm.trans hm
      obtain rfl := Option.some.inj hm
      exact g_throwW (ec := 1) (text := "there is no such transaction") (names := ["java/lang/RuntimeException", "java/lang/Exception"]) X hNX hst Z hl.1 rfl thfI thn (List.mem_cons_of_mem _ mB278) (List.mem_cons_of_mem _ mB279) (by decide) (fun w h => List.mem_cons_of_mem _ (iAtI w h)) (by decide) thbI thgI_254 dX6_requireTransaction_18 dX6_requireTransaction_21 dX6_requireTransaction_22 dX6_requireTransaction_25 dX6_requireTransaction_28 ⟨Nat.le_of_ble_eq_true rfl, Nat.le_of_ble_eq_true rfl, Nat.le_of_ble_eq_true rfl, Nat.le_of_ble_eq_true rfl⟩ ⟨Nat.le_of_ble_eq_true rfl, Nat.le_of_ble_eq_true rfl⟩ (kT th1)
theorem cX6_requireTransaction_c (l : Launch) (hst : l.stackTraces = false) {G : LY} {g : Mem} {x1 : Int32} {r : Nat} (hm : sX6_requireTransaction g x1 = some r) : cXV l yX6_requireTransaction wmX6_requireTransaction 6 90 1 6 wC G [.ref (G.1 160), .int x1] g r g :=
  mk_cXV sameC (by decide +kernel) rfl (Nat.le_of_ble_eq_true rfl) (fun p e s m args below meth c A Qc XC ls X hNX kI kT hl Z => bX6_requireTransaction_0 X hNX hst kI kT x1 _ _ ls Z hl hm)
abbrev wmX6_requireKey : List Cond := Cond.code yX6_requireKey cX6_requireKey 2 none :: wA0
set_option maxHeartbeats 4000000 in
set_option maxRecDepth 100000 in
theorem bX6_requireKey_0 (X : gC p s m args meth c cX6_requireKey 2 wmX6_requireKey yX6_requireKey.cls none G A) {g : Mem} {r : Nat} (hNX : ∀ x ∈ c.exceptionTable.toList, False) (hst : l.stackTraces = false) (kI : ∀ (pc : Nat) (ls : Array Slot) (H : Heap) (locs : List Loc) (cells slots : Nat), cells ≤ 1 → slots ≤ 6 → r = 0 → decode cX6_requireKey pc = .ok (.return_, 1) → WS wC G g A s.heap H locs → W p l e { frames := 6, cells := 1, slots := 6, locals := 90 } s m args below meth c H locs cells slots (vx_MQ below Qc XC args s 1 6 A) (F0 m pc ls [])) (kT : r ≠ 0 → gTh XC s wC G A r g) : ∀ (x1 : Int32) (H : Heap) (locs : List Loc) (ls : Array Slot), WS wC G g A s.heap H locs → lv_has ls 2 [(0, .ref (G.1 160)), (1, .int x1)] → sX6_requireKey g x1 = some r → W p l e { frames := 6, cells := 1, slots := 6, locals := 90 } s m args below meth c H locs 0 0 (vx_MQ below Qc XC args s 1 6 A) (F0 m 0 ls []) := by
  have hx := X.1
  have hb := X.2.1
  intro x1 H locs ls Z hl hm
  unfold sX6_requireKey at hm
  refine lv_iload_n hx hb dX6_requireKey_0 rfl (lv_at hl 1 rfl) ?_
  refine lv_if_lt (tgt := 10) hx hb dX6_requireKey_1 (by decide) (fun c1 => ?_) (fun c1 => ?_)
  · replace hm := (if_pos c1).symm.trans hm
    obtain rfl := Option.some.inj hm
    exact g_throwW (ec := 1) (text := "there is no such key") (names := ["java/lang/RuntimeException", "java/lang/Exception"]) X hNX hst Z hl.1 rfl thfI thn (List.mem_cons_of_mem _ mB278) (List.mem_cons_of_mem _ mB279) (by decide) (fun w h => List.mem_cons_of_mem _ (iAtI w h)) (by decide) thbI thgI_254 dX6_requireKey_10 dX6_requireKey_13 dX6_requireKey_14 dX6_requireKey_17 dX6_requireKey_20 ⟨Nat.le_of_ble_eq_true rfl, Nat.le_of_ble_eq_true rfl, Nat.le_of_ble_eq_true rfl, Nat.le_of_ble_eq_true rfl⟩ ⟨Nat.le_of_ble_eq_true rfl, Nat.le_of_ble_eq_true rfl⟩ (kT th1)
  · replace hm := (if_neg c1).symm.trans hm
    refine lv_iload_n hx hb dX6_requireKey_4 rfl (lv_at hl 1 rfl) ?_
    refine lv_bipush (v := 8) hx hb dX6_requireKey_5 (by decide) ?_
    refine lv_icmp_lt (tgt := 21) hx hb dX6_requireKey_7 (by decide) (fun c2 => ?_) (fun c2 => ?_)
    · replace hm := (if_pos c2).symm.trans hm
      obtain rfl := Option.some.inj hm
      exact kI _ _ _ _ _ _ (Nat.le_of_ble_eq_true rfl) (Nat.le_of_ble_eq_true rfl) rfl dX6_requireKey_21 Z
    · replace hm := (if_neg c2).symm.trans hm
      obtain rfl := Option.some.inj hm
      exact g_throwW (ec := 1) (text := "there is no such key") (names := ["java/lang/RuntimeException", "java/lang/Exception"]) X hNX hst Z hl.1 rfl thfI thn (List.mem_cons_of_mem _ mB278) (List.mem_cons_of_mem _ mB279) (by decide) (fun w h => List.mem_cons_of_mem _ (iAtI w h)) (by decide) thbI thgI_254 dX6_requireKey_10 dX6_requireKey_13 dX6_requireKey_14 dX6_requireKey_17 dX6_requireKey_20 ⟨Nat.le_of_ble_eq_true rfl, Nat.le_of_ble_eq_true rfl, Nat.le_of_ble_eq_true rfl, Nat.le_of_ble_eq_true rfl⟩ ⟨Nat.le_of_ble_eq_true rfl, Nat.le_of_ble_eq_true rfl⟩ (kT th1)
theorem cX6_requireKey_c (l : Launch) (hst : l.stackTraces = false) {G : LY} {g : Mem} {x1 : Int32} {r : Nat} (hm : sX6_requireKey g x1 = some r) : cXV l yX6_requireKey wmX6_requireKey 6 90 1 6 wC G [.ref (G.1 160), .int x1] g r g :=
  mk_cXV sameC (by decide +kernel) rfl (Nat.le_of_ble_eq_true rfl) (fun p e s m args below meth c A Qc XC ls X hNX kI kT hl Z => bX6_requireKey_0 X hNX hst kI kT x1 _ _ ls Z hl hm)
abbrev wmX6_requireRange : List Cond := Cond.code yX6_requireRange cX6_requireRange 4 none :: wA0
set_option maxHeartbeats 4000000 in
set_option maxRecDepth 100000 in
theorem bX6_requireRange_0 (X : gC p s m args meth c cX6_requireRange 4 wmX6_requireRange yX6_requireRange.cls none G A) {g : Mem} {r : Nat} (hNX : ∀ x ∈ c.exceptionTable.toList, False) (hst : l.stackTraces = false) (kI : ∀ (pc : Nat) (ls : Array Slot) (H : Heap) (locs : List Loc) (cells slots : Nat), cells ≤ 1 → slots ≤ 6 → r = 0 → decode cX6_requireRange pc = .ok (.return_, 1) → WS wC G g A s.heap H locs → W p l e { frames := 6, cells := 1, slots := 6, locals := 90 } s m args below meth c H locs cells slots (vx_MQ below Qc XC args s 1 6 A) (F0 m pc ls [])) (kT : r ≠ 0 → gTh XC s wC G A r g) : ∀ (x1 : Int32) (x2 : Int32) (x3 : Int32) (H : Heap) (locs : List Loc) (ls : Array Slot), WS wC G g A s.heap H locs → lv_has ls 4 [(0, .ref (G.1 160)), (1, .int x1), (2, .int x2), (3, .int x3)] → sX6_requireRange g x1 x2 x3 = some r → W p l e { frames := 6, cells := 1, slots := 6, locals := 90 } s m args below meth c H locs 0 0 (vx_MQ below Qc XC args s 1 6 A) (F0 m 0 ls []) := by
  have hx := X.1
  have hb := X.2.1
  intro x1 x2 x3 H locs ls Z hl hm
  unfold sX6_requireRange at hm
  refine lv_iload_n hx hb dX6_requireRange_0 rfl (lv_at hl 1 rfl) ?_
  refine lv_iload_n hx hb dX6_requireRange_1 rfl (lv_at hl 2 rfl) ?_
  refine lv_icmp_lt (tgt := 10) hx hb dX6_requireRange_2 (by decide) (fun c1 => ?_) (fun c1 => ?_)
  · replace hm := (if_pos c1).symm.trans hm
    obtain rfl := Option.some.inj hm
    exact g_throwW (ec := 2) (text := "a number is out of range") (names := ["java/lang/RuntimeException", "java/lang/Exception"]) X hNX hst Z hl.1 rfl thfA thn (List.mem_cons_of_mem _ mB318) (List.mem_cons_of_mem _ mB319) (by decide) (fun w h => List.mem_cons_of_mem _ (iAtA w h)) (by decide) thbA thgA_291 dX6_requireRange_10 dX6_requireRange_13 dX6_requireRange_14 dX6_requireRange_17 dX6_requireRange_20 ⟨Nat.le_of_ble_eq_true rfl, Nat.le_of_ble_eq_true rfl, Nat.le_of_ble_eq_true rfl, Nat.le_of_ble_eq_true rfl⟩ ⟨Nat.le_of_ble_eq_true rfl, Nat.le_of_ble_eq_true rfl⟩ (kT th2)
  · replace hm := (if_neg c1).symm.trans hm
    refine lv_iload_n hx hb dX6_requireRange_5 rfl (lv_at hl 1 rfl) ?_
    refine lv_iload_n hx hb dX6_requireRange_6 rfl (lv_at hl 3 rfl) ?_
    refine lv_icmp_le (tgt := 21) hx hb dX6_requireRange_7 (by decide) (fun c2 => ?_) (fun c2 => ?_)
    · replace hm := (if_pos c2).symm.trans hm
      obtain rfl := Option.some.inj hm
      exact kI _ _ _ _ _ _ (Nat.le_of_ble_eq_true rfl) (Nat.le_of_ble_eq_true rfl) rfl dX6_requireRange_21 Z
    · replace hm := (if_neg c2).symm.trans hm
      obtain rfl := Option.some.inj hm
      exact g_throwW (ec := 2) (text := "a number is out of range") (names := ["java/lang/RuntimeException", "java/lang/Exception"]) X hNX hst Z hl.1 rfl thfA thn (List.mem_cons_of_mem _ mB318) (List.mem_cons_of_mem _ mB319) (by decide) (fun w h => List.mem_cons_of_mem _ (iAtA w h)) (by decide) thbA thgA_291 dX6_requireRange_10 dX6_requireRange_13 dX6_requireRange_14 dX6_requireRange_17 dX6_requireRange_20 ⟨Nat.le_of_ble_eq_true rfl, Nat.le_of_ble_eq_true rfl, Nat.le_of_ble_eq_true rfl, Nat.le_of_ble_eq_true rfl⟩ ⟨Nat.le_of_ble_eq_true rfl, Nat.le_of_ble_eq_true rfl⟩ (kT th2)
theorem cX6_requireRange_c (l : Launch) (hst : l.stackTraces = false) {G : LY} {g : Mem} {x1 : Int32} {x2 : Int32} {x3 : Int32} {r : Nat} (hm : sX6_requireRange g x1 x2 x3 = some r) : cXV l yX6_requireRange wmX6_requireRange 6 90 1 6 wC G [.ref (G.1 160), .int x1, .int x2, .int x3] g r g :=
  mk_cXV sameC (by decide +kernel) rfl (Nat.le_of_ble_eq_true rfl) (fun p e s m args below meth c A Qc XC ls X hNX kI kT hl Z => bX6_requireRange_0 X hNX hst kI kT x1 x2 x3 _ _ ls Z hl hm)
abbrev wmX6_requireNotNegative : List Cond := Cond.code yX6_requireNotNegative cX6_requireNotNegative 2 none :: wA0
set_option maxHeartbeats 4000000 in
set_option maxRecDepth 100000 in
theorem bX6_requireNotNegative_0 (X : gC p s m args meth c cX6_requireNotNegative 2 wmX6_requireNotNegative yX6_requireNotNegative.cls none G A) {g : Mem} {r : Nat} (hNX : ∀ x ∈ c.exceptionTable.toList, False) (hst : l.stackTraces = false) (kI : ∀ (pc : Nat) (ls : Array Slot) (H : Heap) (locs : List Loc) (cells slots : Nat), cells ≤ 1 → slots ≤ 6 → r = 0 → decode cX6_requireNotNegative pc = .ok (.return_, 1) → WS wC G g A s.heap H locs → W p l e { frames := 6, cells := 1, slots := 6, locals := 90 } s m args below meth c H locs cells slots (vx_MQ below Qc XC args s 1 6 A) (F0 m pc ls [])) (kT : r ≠ 0 → gTh XC s wC G A r g) : ∀ (x1 : Int32) (H : Heap) (locs : List Loc) (ls : Array Slot), WS wC G g A s.heap H locs → lv_has ls 2 [(0, .ref (G.1 160)), (1, .int x1)] → sX6_requireNotNegative g x1 = some r → W p l e { frames := 6, cells := 1, slots := 6, locals := 90 } s m args below meth c H locs 0 0 (vx_MQ below Qc XC args s 1 6 A) (F0 m 0 ls []) := by
  have hx := X.1
  have hb := X.2.1
  intro x1 H locs ls Z hl hm
  unfold sX6_requireNotNegative at hm
  refine lv_iload_n hx hb dX6_requireNotNegative_0 rfl (lv_at hl 1 rfl) ?_
  refine lv_if_ge (tgt := 15) hx hb dX6_requireNotNegative_1 (by decide) (fun c1 => ?_) (fun c1 => ?_)
  · replace hm := (if_pos c1).symm.trans hm
    obtain rfl := Option.some.inj hm
    exact kI _ _ _ _ _ _ (Nat.le_of_ble_eq_true rfl) (Nat.le_of_ble_eq_true rfl) rfl dX6_requireNotNegative_15 Z
  · replace hm := (if_neg c1).symm.trans hm
    obtain rfl := Option.some.inj hm
    exact g_throwW (ec := 2) (text := "the timestamp is negative") (names := ["java/lang/RuntimeException", "java/lang/Exception"]) X hNX hst Z hl.1 rfl thfA thn (List.mem_cons_of_mem _ mB318) (List.mem_cons_of_mem _ mB319) (by decide) (fun w h => List.mem_cons_of_mem _ (iAtA w h)) (by decide) thbA thgA_291 dX6_requireNotNegative_4 dX6_requireNotNegative_7 dX6_requireNotNegative_8 dX6_requireNotNegative_11 dX6_requireNotNegative_14 ⟨Nat.le_of_ble_eq_true rfl, Nat.le_of_ble_eq_true rfl, Nat.le_of_ble_eq_true rfl, Nat.le_of_ble_eq_true rfl⟩ ⟨Nat.le_of_ble_eq_true rfl, Nat.le_of_ble_eq_true rfl⟩ (kT th2)
theorem cX6_requireNotNegative_c (l : Launch) (hst : l.stackTraces = false) {G : LY} {g : Mem} {x1 : Int32} {r : Nat} (hm : sX6_requireNotNegative g x1 = some r) : cXV l yX6_requireNotNegative wmX6_requireNotNegative 6 90 1 6 wC G [.ref (G.1 160), .int x1] g r g :=
  mk_cXV sameC (by decide +kernel) rfl (Nat.le_of_ble_eq_true rfl) (fun p e s m args below meth c A Qc XC ls X hNX kI kT hl Z => bX6_requireNotNegative_0 X hNX hst kI kT x1 _ _ ls Z hl hm)
abbrev wmX6_requireOpen : List Cond := Cond.code yX6_requireOpen cX6_requireOpen 2 none :: wA0
set_option maxHeartbeats 4000000 in
set_option maxRecDepth 100000 in
theorem bX6_requireOpen_0 (X : gC p s m args meth c cX6_requireOpen 2 wmX6_requireOpen yX6_requireOpen.cls none G A) {g : Mem} {r : Nat} (hNX : ∀ x ∈ c.exceptionTable.toList, False) (hst : l.stackTraces = false) (kI : ∀ (pc : Nat) (ls : Array Slot) (H : Heap) (locs : List Loc) (cells slots : Nat), cells ≤ 1 → slots ≤ 6 → r = 0 → decode cX6_requireOpen pc = .ok (.return_, 1) → WS wC G g A s.heap H locs → W p l e { frames := 6, cells := 1, slots := 6, locals := 90 } s m args below meth c H locs cells slots (vx_MQ below Qc XC args s 1 6 A) (F0 m pc ls [])) (kT : r ≠ 0 → gTh XC s wC G A r g) : ∀ (x1 : Int32) (H : Heap) (locs : List Loc) (ls : Array Slot), WS wC G g A s.heap H locs → lv_has ls 2 [(0, .ref (G.1 160)), (1, .int x1)] → sX6_requireOpen g x1 = some r → W p l e { frames := 6, cells := 1, slots := 6, locals := 90 } s m args below meth c H locs 0 0 (vx_MQ below Qc XC args s 1 6 A) (F0 m 0 ls []) := by
  have hx := X.1
  have hb := X.2.1
  intro x1 H locs ls Z hl hm
  unfold sX6_requireOpen at hm
  refine lv_aload_n hx hb dX6_requireOpen_0 rfl (lv_at hl 0 rfl) ?_
  refine g_get (j := 0) (v := .ref (G.1 0)) X Z (oX6 k160) (iB6 _) rfl (by decide) rfl (List.mem_cons_of_mem _ mB260) rfl dX6_requireOpen_1 ?_
  refine g_get (j := 5) (v := .ref (G.1 (0 + 9))) X Z (oX2 k0) (iB2 _) rfl (by decide) rfl (List.mem_cons_of_mem _ mB297) rfl dX6_requireOpen_4 ?_
  refine lv_iload_n hx hb dX6_requireOpen_7 rfl (lv_at hl 1 rfl) ?_
  obtain ⟨r3, e1, hm⟩ := sBi_some hm
  refine g_callVI (n := 1) (As := [.int x1]) (rest := []) sameC X Z (cX4_isOpen_c l (k25 k0) e1) (oX4 (k25 k0)) rfl (gooV mB301 mB302 mB303 mB30 mB243) rfl (by decide +kernel) rfl ⟨Nat.le_of_ble_eq_true rfl, Nat.le_of_ble_eq_true rfl⟩ ⟨Nat.le_of_ble_eq_true rfl, Nat.le_of_ble_eq_true rfl⟩ hl.1 rfl (Nat.le_of_ble_eq_true rfl) dX6_requireOpen_8 (fun w2 H locs Z => ?_)
  refine lv_if_ne (tgt := 25) hx hb dX6_requireOpen_11 (by decide) (fun c4 => ?_) (fun c4 => ?_)
  · replace hm := (if_neg c4).symm.trans hm
    obtain rfl := Option.some.inj hm
    exact kI _ _ _ _ _ _ (Nat.le_of_ble_eq_true rfl) (Nat.le_of_ble_eq_true rfl) rfl dX6_requireOpen_25 Z
  · replace hm := (if_pos c4).symm.trans hm
    obtain rfl := Option.some.inj hm
    exact g_throwW (ec := 3) (text := "the transaction is not open") (names := ["java/lang/RuntimeException", "java/lang/Exception"]) X hNX hst Z hl.1 rfl thfS thn (List.mem_cons_of_mem _ mB280) (List.mem_cons_of_mem _ mB281) (by decide) (fun w h => List.mem_cons_of_mem _ (iAtS w h)) (by decide) thbS thgS_46 dX6_requireOpen_14 dX6_requireOpen_17 dX6_requireOpen_18 dX6_requireOpen_21 dX6_requireOpen_24 ⟨Nat.le_of_ble_eq_true rfl, Nat.le_of_ble_eq_true rfl, Nat.le_of_ble_eq_true rfl, Nat.le_of_ble_eq_true rfl⟩ ⟨Nat.le_of_ble_eq_true rfl, Nat.le_of_ble_eq_true rfl⟩ (kT th3)
theorem cX6_requireOpen_c (l : Launch) (hst : l.stackTraces = false) {G : LY} {g : Mem} {x1 : Int32} {r : Nat} (hm : sX6_requireOpen g x1 = some r) : cXV l yX6_requireOpen wmX6_requireOpen 6 90 1 6 wC G [.ref (G.1 160), .int x1] g r g :=
  mk_cXV sameC (by decide +kernel) rfl (Nat.le_of_ble_eq_true rfl) (fun p e s m args below meth c A Qc XC ls X hNX kI kT hl Z => bX6_requireOpen_0 X hNX hst kI kT x1 _ _ ls Z hl hm)
abbrev wmX6_begin : List Cond := Cond.code yX6_begin cX6_begin 2 (some .int) :: wA0
set_option maxHeartbeats 4000000 in
set_option maxRecDepth 100000 in
theorem bX6_begin_0 (X : gC p s m args meth c cX6_begin 2 wmX6_begin yX6_begin.cls (some .int) G A) {n : Nat} {r : Nat × Int32 × Mem} (hNX : ∀ x ∈ c.exceptionTable.toList, False) (hst : l.stackTraces = false) (kI : ∀ (pc : Nat) (ls : Array Slot) (H : Heap) (locs : List Loc) (cells slots : Nat), cells ≤ 2 → slots ≤ 12 → r.1 = 0 → decode cX6_begin pc = .ok (.ireturn, 1) → WS wC G r.2.2 A s.heap H locs → narrow .int (.int r.2.1) = .int r.2.1 → W p l e { frames := 7, cells := 2, slots := 12, locals := 113 } s m args below meth c H locs cells slots (vx_MQ below Qc XC args s 2 12 A) (F0 m pc ls [.int r.2.1])) (kT : r.1 ≠ 0 → gTh XC s wC G A r.1 r.2.2) : ∀ (g : Mem) (x1 : Int32) (H : Heap) (locs : List Loc) (ls : Array Slot), WS wC G g A s.heap H locs → lv_has ls 2 [(0, .ref (G.1 160)), (1, .int x1)] → sX6_begin n g x1 = some r → W p l e { frames := 7, cells := 2, slots := 12, locals := 113 } s m args below meth c H locs 0 0 (vx_MQ below Qc XC args s 2 12 A) (F0 m 0 ls []) := by
  have hx := X.1
  have hb := X.2.1
  intro g x1 H locs ls Z hl hm
  unfold sX6_begin at hm
  refine lv_aload_n hx hb dX6_begin_0 rfl (lv_at hl 0 rfl) ?_
  refine lv_iload_n hx hb dX6_begin_1 rfl (lv_at hl 1 rfl) ?_
  rcases sReq_some hm with ⟨e1, hm⟩ | ⟨ec2, c3, e1, hm⟩
  rotate_left
  · obtain rfl := Option.some.inj hm
    exact g_xcallT (n := 1) (As := [.int x1]) (rest := []) sameC X hNX Z c3 (cX6_requireServer_c l hst e1) (oX6 k160) rfl (gooV mB282 mB283 mB284 mB285 mB277) rfl (by decide +kernel) rfl ⟨Nat.le_of_ble_eq_true rfl, Nat.le_of_ble_eq_true rfl⟩ ⟨Nat.le_of_ble_eq_true rfl, Nat.le_of_ble_eq_true rfl⟩ ⟨Nat.le_of_ble_eq_true rfl, Nat.le_of_ble_eq_true rfl⟩ hl.1 rfl (Nat.le_of_ble_eq_true rfl) dX6_begin_2 (kT c3)
  refine g_xcall0 (n := 1) (As := [.int x1]) (rest := []) (c1 := 1) (s1 := 6) sameC X Z (cX6_requireServer_c l hst e1) (oX6 k160) rfl (gooV mB282 mB283 mB284 mB285 mB277) rfl (by decide +kernel) rfl ⟨Nat.le_of_ble_eq_true rfl, Nat.le_of_ble_eq_true rfl⟩ rfl rfl ⟨Nat.le_of_ble_eq_true rfl, Nat.le_of_ble_eq_true rfl⟩ hl.1 rfl (Nat.le_of_ble_eq_true rfl) dX6_begin_2 (fun H locs Z => ?_)
  refine lv_aload_n hx hb dX6_begin_5 rfl (lv_at hl 0 rfl) ?_
  refine g_get (j := 0) (v := .ref (G.1 0)) X Z (oX6 k160) (iB6 _) rfl (by decide) rfl (List.mem_cons_of_mem _ mB260) rfl dX6_begin_6 ?_
  obtain ⟨r6, e4, hm⟩ := sBi_some hm
  refine g_callVI (n := 0) (As := []) (rest := []) sameC X Z (cX2_canBegin_c l k0 e4) (oX2 k0) rfl (gooV mB286 mB287 mB288 mB43 mB107) rfl (by decide +kernel) rfl ⟨Nat.le_of_ble_eq_true rfl, Nat.le_of_ble_eq_true rfl⟩ ⟨Nat.le_of_ble_eq_true rfl, Nat.le_of_ble_eq_true rfl⟩ hl.1 rfl (Nat.le_of_ble_eq_true rfl) dX6_begin_9 (fun w5 H locs Z => ?_)
  refine lv_if_ne (tgt := 25) hx hb dX6_begin_12 (by decide) (fun c7 => ?_) (fun c7 => ?_)
  · replace hm := (if_neg c7).symm.trans hm
    refine lv_aload_n hx hb dX6_begin_25 rfl (lv_at hl 0 rfl) ?_
    refine g_get (j := 1) (v := .ref (G.1 153)) X Z (oX6 k160) (iB6 _) rfl (by decide) rfl (List.mem_cons_of_mem _ mB264) rfl dX6_begin_26 ?_
    refine lv_aload_n hx hb dX6_begin_29 rfl (lv_at hl 0 rfl) ?_
    refine g_get (j := 0) (v := .ref (G.1 0)) X Z (oX6 k160) (iB6 _) rfl (by decide) rfl (List.mem_cons_of_mem _ mB260) rfl dX6_begin_30 ?_
    obtain ⟨g10, e8, hm⟩ := sBi_some hm
    refine g_callVV (n := 1) (As := [.ref (G.1 0)]) (rest := []) sameC X Z (cX0_push_c l k0 e8) (oX0 k153) rfl (gooV mB289 mB290 mB291 mB263 mB83) rfl (by decide +kernel) rfl ⟨Nat.le_of_ble_eq_true rfl, Nat.le_of_ble_eq_true rfl⟩ ⟨Nat.le_of_ble_eq_true rfl, Nat.le_of_ble_eq_true rfl⟩ hl.1 rfl (Nat.le_of_ble_eq_true rfl) dX6_begin_33 (fun H locs Z => ?_)
    refine lv_aload_n hx hb dX6_begin_36 rfl (lv_at hl 0 rfl) ?_
    refine g_get (j := 0) (v := .ref (G.1 0)) X Z (oX6 k160) (iB6 _) rfl (by decide) rfl (List.mem_cons_of_mem _ mB260) rfl dX6_begin_37 ?_
    refine lv_iload_n hx hb dX6_begin_40 rfl (lv_at hl 1 rfl) ?_
    obtain ⟨r13, g14, e11, hm⟩ := sBi2_some hm
    refine g_callVI (n := 1) (As := [.int x1]) (rest := []) sameC X Z (cX2_beginAt_c l k0 e11) (oX2 k0) rfl (gooV mB292 mB293 mB294 mB43 mB118) rfl (by decide +kernel) rfl ⟨Nat.le_of_ble_eq_true rfl, Nat.le_of_ble_eq_true rfl⟩ ⟨Nat.le_of_ble_eq_true rfl, Nat.le_of_ble_eq_true rfl⟩ hl.1 rfl (Nat.le_of_ble_eq_true rfl) dX6_begin_41 (fun w12 H locs Z => ?_)
    obtain rfl := Option.some.inj hm
    exact kI _ _ _ _ _ _ (Nat.le_of_ble_eq_true rfl) (Nat.le_of_ble_eq_true rfl) rfl dX6_begin_44 Z (vp_nar_int _)
  · replace hm := (if_pos c7).symm.trans hm
    obtain rfl := Option.some.inj hm
    exact g_throw (ec := 3) (text := "40 transactions have begun") (names := ["java/lang/RuntimeException", "java/lang/Exception"]) X hNX hst Z hl.1 rfl thfS thn (List.mem_cons_of_mem _ mB280) (List.mem_cons_of_mem _ mB281) (by decide) (fun w h => List.mem_cons_of_mem _ (iAtS w h)) (by decide) thbS thgS_46 dX6_begin_15 dX6_begin_18 dX6_begin_19 dX6_begin_21 dX6_begin_24 ⟨Nat.le_of_ble_eq_true rfl, Nat.le_of_ble_eq_true rfl, Nat.le_of_ble_eq_true rfl, Nat.le_of_ble_eq_true rfl⟩ ⟨Nat.le_of_ble_eq_true rfl, Nat.le_of_ble_eq_true rfl⟩ (kT th3)
theorem cX6_begin_c (l : Launch) (hst : l.stackTraces = false) {G : LY} {g : Mem} {n : Nat} {x1 : Int32} {r : Nat × Int32 × Mem} (hm : sX6_begin n g x1 = some r) : cXI l yX6_begin wmX6_begin 7 113 2 12 .int wC G [.ref (G.1 160), .int x1] g r.1 r.2.1 r.2.2 :=
  mk_cXI sameC (by decide +kernel) rfl (Nat.le_of_ble_eq_true rfl) (fun p e s m args below meth c A Qc XC ls X hNX kI kT hl Z => bX6_begin_0 X hNX hst kI kT g x1 _ _ ls Z hl hm)
abbrev wmX6_read : List Cond := Cond.code yX6_read cX6_read 3 (some .int) :: wA0
set_option maxHeartbeats 4000000 in
set_option maxRecDepth 100000 in
theorem bX6_read_0 (X : gC p s m args meth c cX6_read 3 wmX6_read yX6_read.cls (some .int) G A) {n : Nat} {r : Nat × Int32 × Mem} (hNX : ∀ x ∈ c.exceptionTable.toList, False) (hst : l.stackTraces = false) (kI : ∀ (pc : Nat) (ls : Array Slot) (H : Heap) (locs : List Loc) (cells slots : Nat), cells ≤ 3 → slots ≤ 18 → r.1 = 0 → decode cX6_read pc = .ok (.ireturn, 1) → WS wC G r.2.2 A s.heap H locs → narrow .int (.int r.2.1) = .int r.2.1 → W p l e { frames := 7, cells := 3, slots := 18, locals := 113 } s m args below meth c H locs cells slots (vx_MQ below Qc XC args s 3 18 A) (F0 m pc ls [.int r.2.1])) (kT : r.1 ≠ 0 → gTh XC s wC G A r.1 r.2.2) : ∀ (g : Mem) (x1 : Int32) (x2 : Int32) (H : Heap) (locs : List Loc) (ls : Array Slot), WS wC G g A s.heap H locs → lv_has ls 3 [(0, .ref (G.1 160)), (1, .int x1), (2, .int x2)] → sX6_read n g x1 x2 = some r → W p l e { frames := 7, cells := 3, slots := 18, locals := 113 } s m args below meth c H locs 0 0 (vx_MQ below Qc XC args s 3 18 A) (F0 m 0 ls []) := by
  have hx := X.1
  have hb := X.2.1
  intro g x1 x2 H locs ls Z hl hm
  unfold sX6_read at hm
  refine lv_aload_n hx hb dX6_read_0 rfl (lv_at hl 0 rfl) ?_
  refine lv_iload_n hx hb dX6_read_1 rfl (lv_at hl 1 rfl) ?_
  rcases sReq_some hm with ⟨e1, hm⟩ | ⟨ec2, c3, e1, hm⟩
  rotate_left
  · obtain rfl := Option.some.inj hm
    exact g_xcallT (n := 1) (As := [.int x1]) (rest := []) sameC X hNX Z c3 (cX6_requireTransaction_c l hst e1) (oX6 k160) rfl (gooV mB304 mB305 mB306 mB285 mB296) rfl (by decide +kernel) rfl ⟨Nat.le_of_ble_eq_true rfl, Nat.le_of_ble_eq_true rfl⟩ ⟨Nat.le_of_ble_eq_true rfl, Nat.le_of_ble_eq_true rfl⟩ ⟨Nat.le_of_ble_eq_true rfl, Nat.le_of_ble_eq_true rfl⟩ hl.1 rfl (Nat.le_of_ble_eq_true rfl) dX6_read_2 (kT c3)
  refine g_xcall0 (n := 1) (As := [.int x1]) (rest := []) (c1 := 1) (s1 := 6) sameC X Z (cX6_requireTransaction_c l hst e1) (oX6 k160) rfl (gooV mB304 mB305 mB306 mB285 mB296) rfl (by decide +kernel) rfl ⟨Nat.le_of_ble_eq_true rfl, Nat.le_of_ble_eq_true rfl⟩ rfl rfl ⟨Nat.le_of_ble_eq_true rfl, Nat.le_of_ble_eq_true rfl⟩ hl.1 rfl (Nat.le_of_ble_eq_true rfl) dX6_read_2 (fun H locs Z => ?_)
  refine lv_aload_n hx hb dX6_read_5 rfl (lv_at hl 0 rfl) ?_
  refine lv_iload_n hx hb dX6_read_6 rfl (lv_at hl 2 rfl) ?_
  rcases sReq_some hm with ⟨e4, hm⟩ | ⟨ec5, c6, e4, hm⟩
  rotate_left
  · obtain rfl := Option.some.inj hm
    exact g_xcallT (n := 1) (As := [.int x2]) (rest := []) sameC X hNX Z c6 (cX6_requireKey_c l hst e4) (oX6 k160) rfl (gooV mB307 mB308 mB309 mB285 mB299) rfl (by decide +kernel) rfl ⟨Nat.le_of_ble_eq_true rfl, Nat.le_of_ble_eq_true rfl⟩ ⟨Nat.le_of_ble_eq_true rfl, Nat.le_of_ble_eq_true rfl⟩ ⟨Nat.le_of_ble_eq_true rfl, Nat.le_of_ble_eq_true rfl⟩ hl.1 rfl (Nat.le_of_ble_eq_true rfl) dX6_read_7 (kT c6)
  refine g_xcall0 (n := 1) (As := [.int x2]) (rest := []) (c1 := 2) (s1 := 12) sameC X Z (cX6_requireKey_c l hst e4) (oX6 k160) rfl (gooV mB307 mB308 mB309 mB285 mB299) rfl (by decide +kernel) rfl ⟨Nat.le_of_ble_eq_true rfl, Nat.le_of_ble_eq_true rfl⟩ rfl rfl ⟨Nat.le_of_ble_eq_true rfl, Nat.le_of_ble_eq_true rfl⟩ hl.1 rfl (Nat.le_of_ble_eq_true rfl) dX6_read_7 (fun H locs Z => ?_)
  refine lv_aload_n hx hb dX6_read_10 rfl (lv_at hl 0 rfl) ?_
  refine lv_iload_n hx hb dX6_read_11 rfl (lv_at hl 1 rfl) ?_
  rcases sReq_some hm with ⟨e7, hm⟩ | ⟨ec8, c9, e7, hm⟩
  rotate_left
  · obtain rfl := Option.some.inj hm
    exact g_xcallT (n := 1) (As := [.int x1]) (rest := []) sameC X hNX Z c9 (cX6_requireOpen_c l hst e7) (oX6 k160) rfl (gooV mB310 mB311 mB312 mB285 mB300) rfl (by decide +kernel) rfl ⟨Nat.le_of_ble_eq_true rfl, Nat.le_of_ble_eq_true rfl⟩ ⟨Nat.le_of_ble_eq_true rfl, Nat.le_of_ble_eq_true rfl⟩ ⟨Nat.le_of_ble_eq_true rfl, Nat.le_of_ble_eq_true rfl⟩ hl.1 rfl (Nat.le_of_ble_eq_true rfl) dX6_read_12 (kT c9)
  refine g_xcall0 (n := 1) (As := [.int x1]) (rest := []) (c1 := 3) (s1 := 18) sameC X Z (cX6_requireOpen_c l hst e7) (oX6 k160) rfl (gooV mB310 mB311 mB312 mB285 mB300) rfl (by decide +kernel) rfl ⟨Nat.le_of_ble_eq_true rfl, Nat.le_of_ble_eq_true rfl⟩ rfl rfl ⟨Nat.le_of_ble_eq_true rfl, Nat.le_of_ble_eq_true rfl⟩ hl.1 rfl (Nat.le_of_ble_eq_true rfl) dX6_read_12 (fun H locs Z => ?_)
  refine lv_aload_n hx hb dX6_read_15 rfl (lv_at hl 0 rfl) ?_
  refine g_get (j := 1) (v := .ref (G.1 153)) X Z (oX6 k160) (iB6 _) rfl (by decide) rfl (List.mem_cons_of_mem _ mB264) rfl dX6_read_16 ?_
  refine lv_aload_n hx hb dX6_read_19 rfl (lv_at hl 0 rfl) ?_
  refine g_get (j := 0) (v := .ref (G.1 0)) X Z (oX6 k160) (iB6 _) rfl (by decide) rfl (List.mem_cons_of_mem _ mB260) rfl dX6_read_20 ?_
  obtain ⟨g12, e10, hm⟩ := sBi_some hm
  refine g_callVV (n := 1) (As := [.ref (G.1 0)]) (rest := []) sameC X Z (cX0_push_c l k0 e10) (oX0 k153) rfl (gooV mB289 mB290 mB291 mB263 mB83) rfl (by decide +kernel) rfl ⟨Nat.le_of_ble_eq_true rfl, Nat.le_of_ble_eq_true rfl⟩ ⟨Nat.le_of_ble_eq_true rfl, Nat.le_of_ble_eq_true rfl⟩ hl.1 rfl (Nat.le_of_ble_eq_true rfl) dX6_read_23 (fun H locs Z => ?_)
  refine lv_aload_n hx hb dX6_read_26 rfl (lv_at hl 0 rfl) ?_
  refine g_get (j := 0) (v := .ref (G.1 0)) X Z (oX6 k160) (iB6 _) rfl (by decide) rfl (List.mem_cons_of_mem _ mB260) rfl dX6_read_27 ?_
  refine lv_iload_n hx hb dX6_read_30 rfl (lv_at hl 1 rfl) ?_
  refine lv_iload_n hx hb dX6_read_31 rfl (lv_at hl 2 rfl) ?_
  obtain ⟨r15, g16, e13, hm⟩ := sBi2_some hm
  refine g_callVI (n := 2) (As := [.int x1, .int x2]) (rest := []) sameC X Z (cX2_readKey_c l k0 e13) (oX2 k0) rfl (gooV mB313 mB314 mB315 mB43 mB147) rfl (by decide +kernel) rfl ⟨Nat.le_of_ble_eq_true rfl, Nat.le_of_ble_eq_true rfl⟩ ⟨Nat.le_of_ble_eq_true rfl, Nat.le_of_ble_eq_true rfl⟩ hl.1 rfl (Nat.le_of_ble_eq_true rfl) dX6_read_32 (fun w14 H locs Z => ?_)
  obtain rfl := Option.some.inj hm
  exact kI _ _ _ _ _ _ (Nat.le_of_ble_eq_true rfl) (Nat.le_of_ble_eq_true rfl) rfl dX6_read_35 Z (vp_nar_int _)
theorem cX6_read_c (l : Launch) (hst : l.stackTraces = false) {G : LY} {g : Mem} {n : Nat} {x1 : Int32} {x2 : Int32} {r : Nat × Int32 × Mem} (hm : sX6_read n g x1 x2 = some r) : cXI l yX6_read wmX6_read 7 113 3 18 .int wC G [.ref (G.1 160), .int x1, .int x2] g r.1 r.2.1 r.2.2 :=
  mk_cXI sameC (by decide +kernel) rfl (Nat.le_of_ble_eq_true rfl) (fun p e s m args below meth c A Qc XC ls X hNX kI kT hl Z => bX6_read_0 X hNX hst kI kT g x1 x2 _ _ ls Z hl hm)
abbrev wmX6_write : List Cond := Cond.code yX6_write cX6_write 4 (some .int) :: wA0
set_option maxHeartbeats 4000000 in
set_option maxRecDepth 100000 in
theorem bX6_write_0 (X : gC p s m args meth c cX6_write 4 wmX6_write yX6_write.cls (some .int) G A) {n : Nat} {r : Nat × Int32 × Mem} (hNX : ∀ x ∈ c.exceptionTable.toList, False) (hst : l.stackTraces = false) (kI : ∀ (pc : Nat) (ls : Array Slot) (H : Heap) (locs : List Loc) (cells slots : Nat), cells ≤ 4 → slots ≤ 24 → r.1 = 0 → decode cX6_write pc = .ok (.ireturn, 1) → WS wC G r.2.2 A s.heap H locs → narrow .int (.int r.2.1) = .int r.2.1 → W p l e { frames := 7, cells := 4, slots := 24, locals := 113 } s m args below meth c H locs cells slots (vx_MQ below Qc XC args s 4 24 A) (F0 m pc ls [.int r.2.1])) (kT : r.1 ≠ 0 → gTh XC s wC G A r.1 r.2.2) : ∀ (g : Mem) (x1 : Int32) (x2 : Int32) (x3 : Int32) (H : Heap) (locs : List Loc) (ls : Array Slot), WS wC G g A s.heap H locs → lv_has ls 4 [(0, .ref (G.1 160)), (1, .int x1), (2, .int x2), (3, .int x3)] → sX6_write n g x1 x2 x3 = some r → W p l e { frames := 7, cells := 4, slots := 24, locals := 113 } s m args below meth c H locs 0 0 (vx_MQ below Qc XC args s 4 24 A) (F0 m 0 ls []) := by
  have hx := X.1
  have hb := X.2.1
  intro g x1 x2 x3 H locs ls Z hl hm
  unfold sX6_write at hm
  refine lv_aload_n hx hb dX6_write_0 rfl (lv_at hl 0 rfl) ?_
  refine lv_iload_n hx hb dX6_write_1 rfl (lv_at hl 1 rfl) ?_
  rcases sReq_some hm with ⟨e1, hm⟩ | ⟨ec2, c3, e1, hm⟩
  rotate_left
  · obtain rfl := Option.some.inj hm
    exact g_xcallT (n := 1) (As := [.int x1]) (rest := []) sameC X hNX Z c3 (cX6_requireTransaction_c l hst e1) (oX6 k160) rfl (gooV mB304 mB305 mB306 mB285 mB296) rfl (by decide +kernel) rfl ⟨Nat.le_of_ble_eq_true rfl, Nat.le_of_ble_eq_true rfl⟩ ⟨Nat.le_of_ble_eq_true rfl, Nat.le_of_ble_eq_true rfl⟩ ⟨Nat.le_of_ble_eq_true rfl, Nat.le_of_ble_eq_true rfl⟩ hl.1 rfl (Nat.le_of_ble_eq_true rfl) dX6_write_2 (kT c3)
  refine g_xcall0 (n := 1) (As := [.int x1]) (rest := []) (c1 := 1) (s1 := 6) sameC X Z (cX6_requireTransaction_c l hst e1) (oX6 k160) rfl (gooV mB304 mB305 mB306 mB285 mB296) rfl (by decide +kernel) rfl ⟨Nat.le_of_ble_eq_true rfl, Nat.le_of_ble_eq_true rfl⟩ rfl rfl ⟨Nat.le_of_ble_eq_true rfl, Nat.le_of_ble_eq_true rfl⟩ hl.1 rfl (Nat.le_of_ble_eq_true rfl) dX6_write_2 (fun H locs Z => ?_)
  refine lv_aload_n hx hb dX6_write_5 rfl (lv_at hl 0 rfl) ?_
  refine lv_iload_n hx hb dX6_write_6 rfl (lv_at hl 2 rfl) ?_
  rcases sReq_some hm with ⟨e4, hm⟩ | ⟨ec5, c6, e4, hm⟩
  rotate_left
  · obtain rfl := Option.some.inj hm
    exact g_xcallT (n := 1) (As := [.int x2]) (rest := []) sameC X hNX Z c6 (cX6_requireKey_c l hst e4) (oX6 k160) rfl (gooV mB307 mB308 mB309 mB285 mB299) rfl (by decide +kernel) rfl ⟨Nat.le_of_ble_eq_true rfl, Nat.le_of_ble_eq_true rfl⟩ ⟨Nat.le_of_ble_eq_true rfl, Nat.le_of_ble_eq_true rfl⟩ ⟨Nat.le_of_ble_eq_true rfl, Nat.le_of_ble_eq_true rfl⟩ hl.1 rfl (Nat.le_of_ble_eq_true rfl) dX6_write_7 (kT c6)
  refine g_xcall0 (n := 1) (As := [.int x2]) (rest := []) (c1 := 2) (s1 := 12) sameC X Z (cX6_requireKey_c l hst e4) (oX6 k160) rfl (gooV mB307 mB308 mB309 mB285 mB299) rfl (by decide +kernel) rfl ⟨Nat.le_of_ble_eq_true rfl, Nat.le_of_ble_eq_true rfl⟩ rfl rfl ⟨Nat.le_of_ble_eq_true rfl, Nat.le_of_ble_eq_true rfl⟩ hl.1 rfl (Nat.le_of_ble_eq_true rfl) dX6_write_7 (fun H locs Z => ?_)
  refine lv_aload_n hx hb dX6_write_10 rfl (lv_at hl 0 rfl) ?_
  refine lv_iload_n hx hb dX6_write_11 rfl (lv_at hl 3 rfl) ?_
  refine lv_iconst (v := 0) hx hb dX6_write_12 (by decide) ?_
  refine lv_sipush (v := 9999) hx hb dX6_write_13 (by decide) ?_
  rcases sReq_some hm with ⟨e7, hm⟩ | ⟨ec8, c9, e7, hm⟩
  rotate_left
  · obtain rfl := Option.some.inj hm
    exact g_xcallT (n := 3) (As := [.int x3, .int 0, .int 9999]) (rest := []) sameC X hNX Z c9 (cX6_requireRange_c l hst e7) (oX6 k160) rfl (gooV mB320 mB321 mB322 mB285 mB317) rfl (by decide +kernel) rfl ⟨Nat.le_of_ble_eq_true rfl, Nat.le_of_ble_eq_true rfl⟩ ⟨Nat.le_of_ble_eq_true rfl, Nat.le_of_ble_eq_true rfl⟩ ⟨Nat.le_of_ble_eq_true rfl, Nat.le_of_ble_eq_true rfl⟩ hl.1 rfl (Nat.le_of_ble_eq_true rfl) dX6_write_16 (kT c9)
  refine g_xcall0 (n := 3) (As := [.int x3, .int 0, .int 9999]) (rest := []) (c1 := 3) (s1 := 18) sameC X Z (cX6_requireRange_c l hst e7) (oX6 k160) rfl (gooV mB320 mB321 mB322 mB285 mB317) rfl (by decide +kernel) rfl ⟨Nat.le_of_ble_eq_true rfl, Nat.le_of_ble_eq_true rfl⟩ rfl rfl ⟨Nat.le_of_ble_eq_true rfl, Nat.le_of_ble_eq_true rfl⟩ hl.1 rfl (Nat.le_of_ble_eq_true rfl) dX6_write_16 (fun H locs Z => ?_)
  refine lv_aload_n hx hb dX6_write_19 rfl (lv_at hl 0 rfl) ?_
  refine lv_iload_n hx hb dX6_write_20 rfl (lv_at hl 1 rfl) ?_
  rcases sReq_some hm with ⟨e10, hm⟩ | ⟨ec11, c12, e10, hm⟩
  rotate_left
  · obtain rfl := Option.some.inj hm
    exact g_xcallT (n := 1) (As := [.int x1]) (rest := []) sameC X hNX Z c12 (cX6_requireOpen_c l hst e10) (oX6 k160) rfl (gooV mB310 mB311 mB312 mB285 mB300) rfl (by decide +kernel) rfl ⟨Nat.le_of_ble_eq_true rfl, Nat.le_of_ble_eq_true rfl⟩ ⟨Nat.le_of_ble_eq_true rfl, Nat.le_of_ble_eq_true rfl⟩ ⟨Nat.le_of_ble_eq_true rfl, Nat.le_of_ble_eq_true rfl⟩ hl.1 rfl (Nat.le_of_ble_eq_true rfl) dX6_write_21 (kT c12)
  refine g_xcall0 (n := 1) (As := [.int x1]) (rest := []) (c1 := 4) (s1 := 24) sameC X Z (cX6_requireOpen_c l hst e10) (oX6 k160) rfl (gooV mB310 mB311 mB312 mB285 mB300) rfl (by decide +kernel) rfl ⟨Nat.le_of_ble_eq_true rfl, Nat.le_of_ble_eq_true rfl⟩ rfl rfl ⟨Nat.le_of_ble_eq_true rfl, Nat.le_of_ble_eq_true rfl⟩ hl.1 rfl (Nat.le_of_ble_eq_true rfl) dX6_write_21 (fun H locs Z => ?_)
  refine lv_aload_n hx hb dX6_write_24 rfl (lv_at hl 0 rfl) ?_
  refine g_get (j := 1) (v := .ref (G.1 153)) X Z (oX6 k160) (iB6 _) rfl (by decide) rfl (List.mem_cons_of_mem _ mB264) rfl dX6_write_25 ?_
  refine lv_aload_n hx hb dX6_write_28 rfl (lv_at hl 0 rfl) ?_
  refine g_get (j := 0) (v := .ref (G.1 0)) X Z (oX6 k160) (iB6 _) rfl (by decide) rfl (List.mem_cons_of_mem _ mB260) rfl dX6_write_29 ?_
  obtain ⟨g15, e13, hm⟩ := sBi_some hm
  refine g_callVV (n := 1) (As := [.ref (G.1 0)]) (rest := []) sameC X Z (cX0_push_c l k0 e13) (oX0 k153) rfl (gooV mB289 mB290 mB291 mB263 mB83) rfl (by decide +kernel) rfl ⟨Nat.le_of_ble_eq_true rfl, Nat.le_of_ble_eq_true rfl⟩ ⟨Nat.le_of_ble_eq_true rfl, Nat.le_of_ble_eq_true rfl⟩ hl.1 rfl (Nat.le_of_ble_eq_true rfl) dX6_write_32 (fun H locs Z => ?_)
  refine lv_aload_n hx hb dX6_write_35 rfl (lv_at hl 0 rfl) ?_
  refine g_get (j := 0) (v := .ref (G.1 0)) X Z (oX6 k160) (iB6 _) rfl (by decide) rfl (List.mem_cons_of_mem _ mB260) rfl dX6_write_36 ?_
  refine lv_iload_n hx hb dX6_write_39 rfl (lv_at hl 1 rfl) ?_
  refine lv_iload_n hx hb dX6_write_40 rfl (lv_at hl 2 rfl) ?_
  refine lv_iload_n hx hb dX6_write_41 rfl (lv_at hl 3 rfl) ?_
  obtain ⟨r18, g19, e16, hm⟩ := sBi2_some hm
  refine g_callVI (n := 3) (As := [.int x1, .int x2, .int x3]) (rest := []) sameC X Z (cX2_writeKey_c l k0 e16) (oX2 k0) rfl (gooV mB323 mB324 mB325 mB43 mB150) rfl (by decide +kernel) rfl ⟨Nat.le_of_ble_eq_true rfl, Nat.le_of_ble_eq_true rfl⟩ ⟨Nat.le_of_ble_eq_true rfl, Nat.le_of_ble_eq_true rfl⟩ hl.1 rfl (Nat.le_of_ble_eq_true rfl) dX6_write_42 (fun w17 H locs Z => ?_)
  obtain rfl := Option.some.inj hm
  exact kI _ _ _ _ _ _ (Nat.le_of_ble_eq_true rfl) (Nat.le_of_ble_eq_true rfl) rfl dX6_write_45 Z (vp_nar_int _)
theorem cX6_write_c (l : Launch) (hst : l.stackTraces = false) {G : LY} {g : Mem} {n : Nat} {x1 : Int32} {x2 : Int32} {x3 : Int32} {r : Nat × Int32 × Mem} (hm : sX6_write n g x1 x2 x3 = some r) : cXI l yX6_write wmX6_write 7 113 4 24 .int wC G [.ref (G.1 160), .int x1, .int x2, .int x3] g r.1 r.2.1 r.2.2 :=
  mk_cXI sameC (by decide +kernel) rfl (Nat.le_of_ble_eq_true rfl) (fun p e s m args below meth c A Qc XC ls X hNX kI kT hl Z => bX6_write_0 X hNX hst kI kT g x1 x2 x3 _ _ ls Z hl hm)
abbrev wmX6_commit : List Cond := Cond.code yX6_commit cX6_commit 3 (some .int) :: wA0
set_option maxHeartbeats 4000000 in
set_option maxRecDepth 100000 in
theorem bX6_commit_0 (X : gC p s m args meth c cX6_commit 3 wmX6_commit yX6_commit.cls (some .int) G A) {n : Nat} {r : Nat × Int32 × Mem} (hNX : ∀ x ∈ c.exceptionTable.toList, False) (hst : l.stackTraces = false) (kI : ∀ (pc : Nat) (ls : Array Slot) (H : Heap) (locs : List Loc) (cells slots : Nat), cells ≤ 2 → slots ≤ 12 → r.1 = 0 → decode cX6_commit pc = .ok (.ireturn, 1) → WS wC G r.2.2 A s.heap H locs → narrow .int (.int r.2.1) = .int r.2.1 → W p l e { frames := 7, cells := 2, slots := 12, locals := 113 } s m args below meth c H locs cells slots (vx_MQ below Qc XC args s 2 12 A) (F0 m pc ls [.int r.2.1])) (kT : r.1 ≠ 0 → gTh XC s wC G A r.1 r.2.2) : ∀ (g : Mem) (x1 : Int32) (H : Heap) (locs : List Loc) (ls : Array Slot), WS wC G g A s.heap H locs → lv_has ls 3 [(0, .ref (G.1 160)), (1, .int x1)] → sX6_commit n g x1 = some r → W p l e { frames := 7, cells := 2, slots := 12, locals := 113 } s m args below meth c H locs 0 0 (vx_MQ below Qc XC args s 2 12 A) (F0 m 0 ls []) := by
  have hx := X.1
  have hb := X.2.1
  intro g x1 H locs ls Z hl hm
  unfold sX6_commit at hm
  refine lv_aload_n hx hb dX6_commit_0 rfl (lv_at hl 0 rfl) ?_
  refine lv_iload_n hx hb dX6_commit_1 rfl (lv_at hl 1 rfl) ?_
  rcases sReq_some hm with ⟨e1, hm⟩ | ⟨ec2, c3, e1, hm⟩
  rotate_left
  · obtain rfl := Option.some.inj hm
    exact g_xcallT (n := 1) (As := [.int x1]) (rest := []) sameC X hNX Z c3 (cX6_requireTransaction_c l hst e1) (oX6 k160) rfl (gooV mB304 mB305 mB306 mB285 mB296) rfl (by decide +kernel) rfl ⟨Nat.le_of_ble_eq_true rfl, Nat.le_of_ble_eq_true rfl⟩ ⟨Nat.le_of_ble_eq_true rfl, Nat.le_of_ble_eq_true rfl⟩ ⟨Nat.le_of_ble_eq_true rfl, Nat.le_of_ble_eq_true rfl⟩ hl.1 rfl (Nat.le_of_ble_eq_true rfl) dX6_commit_2 (kT c3)
  refine g_xcall0 (n := 1) (As := [.int x1]) (rest := []) (c1 := 1) (s1 := 6) sameC X Z (cX6_requireTransaction_c l hst e1) (oX6 k160) rfl (gooV mB304 mB305 mB306 mB285 mB296) rfl (by decide +kernel) rfl ⟨Nat.le_of_ble_eq_true rfl, Nat.le_of_ble_eq_true rfl⟩ rfl rfl ⟨Nat.le_of_ble_eq_true rfl, Nat.le_of_ble_eq_true rfl⟩ hl.1 rfl (Nat.le_of_ble_eq_true rfl) dX6_commit_2 (fun H locs Z => ?_)
  refine lv_aload_n hx hb dX6_commit_5 rfl (lv_at hl 0 rfl) ?_
  refine lv_iload_n hx hb dX6_commit_6 rfl (lv_at hl 1 rfl) ?_
  rcases sReq_some hm with ⟨e4, hm⟩ | ⟨ec5, c6, e4, hm⟩
  rotate_left
  · obtain rfl := Option.some.inj hm
    exact g_xcallT (n := 1) (As := [.int x1]) (rest := []) sameC X hNX Z c6 (cX6_requireOpen_c l hst e4) (oX6 k160) rfl (gooV mB310 mB311 mB312 mB285 mB300) rfl (by decide +kernel) rfl ⟨Nat.le_of_ble_eq_true rfl, Nat.le_of_ble_eq_true rfl⟩ ⟨Nat.le_of_ble_eq_true rfl, Nat.le_of_ble_eq_true rfl⟩ ⟨Nat.le_of_ble_eq_true rfl, Nat.le_of_ble_eq_true rfl⟩ hl.1 rfl (Nat.le_of_ble_eq_true rfl) dX6_commit_7 (kT c6)
  refine g_xcall0 (n := 1) (As := [.int x1]) (rest := []) (c1 := 2) (s1 := 12) sameC X Z (cX6_requireOpen_c l hst e4) (oX6 k160) rfl (gooV mB310 mB311 mB312 mB285 mB300) rfl (by decide +kernel) rfl ⟨Nat.le_of_ble_eq_true rfl, Nat.le_of_ble_eq_true rfl⟩ rfl rfl ⟨Nat.le_of_ble_eq_true rfl, Nat.le_of_ble_eq_true rfl⟩ hl.1 rfl (Nat.le_of_ble_eq_true rfl) dX6_commit_7 (fun H locs Z => ?_)
  refine lv_aload_n hx hb dX6_commit_10 rfl (lv_at hl 0 rfl) ?_
  refine g_get (j := 0) (v := .ref (G.1 0)) X Z (oX6 k160) (iB6 _) rfl (by decide) rfl (List.mem_cons_of_mem _ mB260) rfl dX6_commit_11 ?_
  refine lv_iload_n hx hb dX6_commit_14 rfl (lv_at hl 1 rfl) ?_
  obtain ⟨r9, e7, hm⟩ := sBi_some hm
  refine g_callVI (n := 1) (As := [.int x1]) (rest := []) sameC X Z (cX2_commitOutcome_c l k0 e7) (oX2 k0) rfl (gooV mB327 mB328 mB329 mB43 mB192) rfl (by decide +kernel) rfl ⟨Nat.le_of_ble_eq_true rfl, Nat.le_of_ble_eq_true rfl⟩ ⟨Nat.le_of_ble_eq_true rfl, Nat.le_of_ble_eq_true rfl⟩ hl.1 rfl (Nat.le_of_ble_eq_true rfl) dX6_commit_15 (fun w8 H locs Z => ?_)
  refine lv_istore_n (lv' := [(2, .int r9), (0, .ref (G.1 160)), (1, .int x1)]) hx hb dX6_commit_18 rfl hl (by decide) rfl (fun ls hl => ?_)
  refine lv_iload_n hx hb dX6_commit_19 rfl (lv_at hl 0 rfl) ?_
  refine lv_bipush (v := (-3)) hx hb dX6_commit_20 (by decide) ?_
  refine lv_icmp_eq (tgt := 45) hx hb dX6_commit_22 (by decide) (fun c10 => ?_) (fun c10 => ?_)
  · replace hm := (if_pos c10).symm.trans hm
    refine lv_iload_n hx hb dX6_commit_45 rfl (lv_at hl 0 rfl) ?_
    obtain rfl := Option.some.inj hm
    exact kI _ _ _ _ _ _ (Nat.le_of_ble_eq_true rfl) (Nat.le_of_ble_eq_true rfl) rfl dX6_commit_46 Z (vp_nar_int _)
  · replace hm := (if_neg c10).symm.trans hm
    refine lv_aload_n hx hb dX6_commit_25 rfl (lv_at hl 1 rfl) ?_
    refine g_get (j := 1) (v := .ref (G.1 153)) X Z (oX6 k160) (iB6 _) rfl (by decide) rfl (List.mem_cons_of_mem _ mB264) rfl dX6_commit_26 ?_
    refine lv_aload_n hx hb dX6_commit_29 rfl (lv_at hl 1 rfl) ?_
    refine g_get (j := 0) (v := .ref (G.1 0)) X Z (oX6 k160) (iB6 _) rfl (by decide) rfl (List.mem_cons_of_mem _ mB260) rfl dX6_commit_30 ?_
    obtain ⟨g13, e11, hm⟩ := sBi_some hm
    refine g_callVV (n := 1) (As := [.ref (G.1 0)]) (rest := []) sameC X Z (cX0_push_c l k0 e11) (oX0 k153) rfl (gooV mB289 mB290 mB291 mB263 mB83) rfl (by decide +kernel) rfl ⟨Nat.le_of_ble_eq_true rfl, Nat.le_of_ble_eq_true rfl⟩ ⟨Nat.le_of_ble_eq_true rfl, Nat.le_of_ble_eq_true rfl⟩ hl.1 rfl (Nat.le_of_ble_eq_true rfl) dX6_commit_33 (fun H locs Z => ?_)
    refine lv_aload_n hx hb dX6_commit_36 rfl (lv_at hl 1 rfl) ?_
    refine g_get (j := 0) (v := .ref (G.1 0)) X Z (oX6 k160) (iB6 _) rfl (by decide) rfl (List.mem_cons_of_mem _ mB260) rfl dX6_commit_37 ?_
    refine lv_iload_n hx hb dX6_commit_40 rfl (lv_at hl 0 rfl) ?_
    refine lv_iload_n hx hb dX6_commit_41 rfl (lv_at hl 2 rfl) ?_
    obtain ⟨g16, e14, hm⟩ := sBi_some hm
    refine g_callVV (n := 2) (As := [.int r9, .int x1]) (rest := []) sameC X Z (cX2_carryOut_c l k0 e14) (oX2 k0) rfl (gooV mB330 mB331 mB332 mB43 mB207) rfl (by decide +kernel) rfl ⟨Nat.le_of_ble_eq_true rfl, Nat.le_of_ble_eq_true rfl⟩ ⟨Nat.le_of_ble_eq_true rfl, Nat.le_of_ble_eq_true rfl⟩ hl.1 rfl (Nat.le_of_ble_eq_true rfl) dX6_commit_42 (fun H locs Z => ?_)
    refine lv_iload_n hx hb dX6_commit_45 rfl (lv_at hl 0 rfl) ?_
    obtain rfl := Option.some.inj hm
    exact kI _ _ _ _ _ _ (Nat.le_of_ble_eq_true rfl) (Nat.le_of_ble_eq_true rfl) rfl dX6_commit_46 Z (vp_nar_int _)
theorem cX6_commit_c (l : Launch) (hst : l.stackTraces = false) {G : LY} {g : Mem} {n : Nat} {x1 : Int32} {r : Nat × Int32 × Mem} (hm : sX6_commit n g x1 = some r) : cXI l yX6_commit wmX6_commit 7 113 2 12 .int wC G [.ref (G.1 160), .int x1] g r.1 r.2.1 r.2.2 :=
  mk_cXI sameC (by decide +kernel) rfl (Nat.le_of_ble_eq_true rfl) (fun p e s m args below meth c A Qc XC ls X hNX kI kT hl Z => bX6_commit_0 X hNX hst kI kT g x1 _ _ ls Z hl hm)
abbrev wmX6_abort : List Cond := Cond.code yX6_abort cX6_abort 2 (some .int) :: wA0
set_option maxHeartbeats 4000000 in
set_option maxRecDepth 100000 in
theorem bX6_abort_0 (X : gC p s m args meth c cX6_abort 2 wmX6_abort yX6_abort.cls (some .int) G A) {n : Nat} {r : Nat × Int32 × Mem} (hNX : ∀ x ∈ c.exceptionTable.toList, False) (hst : l.stackTraces = false) (kI : ∀ (pc : Nat) (ls : Array Slot) (H : Heap) (locs : List Loc) (cells slots : Nat), cells ≤ 2 → slots ≤ 12 → r.1 = 0 → decode cX6_abort pc = .ok (.ireturn, 1) → WS wC G r.2.2 A s.heap H locs → narrow .int (.int r.2.1) = .int r.2.1 → W p l e { frames := 7, cells := 2, slots := 12, locals := 113 } s m args below meth c H locs cells slots (vx_MQ below Qc XC args s 2 12 A) (F0 m pc ls [.int r.2.1])) (kT : r.1 ≠ 0 → gTh XC s wC G A r.1 r.2.2) : ∀ (g : Mem) (x1 : Int32) (H : Heap) (locs : List Loc) (ls : Array Slot), WS wC G g A s.heap H locs → lv_has ls 2 [(0, .ref (G.1 160)), (1, .int x1)] → sX6_abort n g x1 = some r → W p l e { frames := 7, cells := 2, slots := 12, locals := 113 } s m args below meth c H locs 0 0 (vx_MQ below Qc XC args s 2 12 A) (F0 m 0 ls []) := by
  have hx := X.1
  have hb := X.2.1
  intro g x1 H locs ls Z hl hm
  unfold sX6_abort at hm
  refine lv_aload_n hx hb dX6_abort_0 rfl (lv_at hl 0 rfl) ?_
  refine lv_iload_n hx hb dX6_abort_1 rfl (lv_at hl 1 rfl) ?_
  rcases sReq_some hm with ⟨e1, hm⟩ | ⟨ec2, c3, e1, hm⟩
  rotate_left
  · obtain rfl := Option.some.inj hm
    exact g_xcallT (n := 1) (As := [.int x1]) (rest := []) sameC X hNX Z c3 (cX6_requireTransaction_c l hst e1) (oX6 k160) rfl (gooV mB304 mB305 mB306 mB285 mB296) rfl (by decide +kernel) rfl ⟨Nat.le_of_ble_eq_true rfl, Nat.le_of_ble_eq_true rfl⟩ ⟨Nat.le_of_ble_eq_true rfl, Nat.le_of_ble_eq_true rfl⟩ ⟨Nat.le_of_ble_eq_true rfl, Nat.le_of_ble_eq_true rfl⟩ hl.1 rfl (Nat.le_of_ble_eq_true rfl) dX6_abort_2 (kT c3)
  refine g_xcall0 (n := 1) (As := [.int x1]) (rest := []) (c1 := 1) (s1 := 6) sameC X Z (cX6_requireTransaction_c l hst e1) (oX6 k160) rfl (gooV mB304 mB305 mB306 mB285 mB296) rfl (by decide +kernel) rfl ⟨Nat.le_of_ble_eq_true rfl, Nat.le_of_ble_eq_true rfl⟩ rfl rfl ⟨Nat.le_of_ble_eq_true rfl, Nat.le_of_ble_eq_true rfl⟩ hl.1 rfl (Nat.le_of_ble_eq_true rfl) dX6_abort_2 (fun H locs Z => ?_)
  refine lv_aload_n hx hb dX6_abort_5 rfl (lv_at hl 0 rfl) ?_
  refine lv_iload_n hx hb dX6_abort_6 rfl (lv_at hl 1 rfl) ?_
  rcases sReq_some hm with ⟨e4, hm⟩ | ⟨ec5, c6, e4, hm⟩
  rotate_left
  · obtain rfl := Option.some.inj hm
    exact g_xcallT (n := 1) (As := [.int x1]) (rest := []) sameC X hNX Z c6 (cX6_requireOpen_c l hst e4) (oX6 k160) rfl (gooV mB310 mB311 mB312 mB285 mB300) rfl (by decide +kernel) rfl ⟨Nat.le_of_ble_eq_true rfl, Nat.le_of_ble_eq_true rfl⟩ ⟨Nat.le_of_ble_eq_true rfl, Nat.le_of_ble_eq_true rfl⟩ ⟨Nat.le_of_ble_eq_true rfl, Nat.le_of_ble_eq_true rfl⟩ hl.1 rfl (Nat.le_of_ble_eq_true rfl) dX6_abort_7 (kT c6)
  refine g_xcall0 (n := 1) (As := [.int x1]) (rest := []) (c1 := 2) (s1 := 12) sameC X Z (cX6_requireOpen_c l hst e4) (oX6 k160) rfl (gooV mB310 mB311 mB312 mB285 mB300) rfl (by decide +kernel) rfl ⟨Nat.le_of_ble_eq_true rfl, Nat.le_of_ble_eq_true rfl⟩ rfl rfl ⟨Nat.le_of_ble_eq_true rfl, Nat.le_of_ble_eq_true rfl⟩ hl.1 rfl (Nat.le_of_ble_eq_true rfl) dX6_abort_7 (fun H locs Z => ?_)
  refine lv_aload_n hx hb dX6_abort_10 rfl (lv_at hl 0 rfl) ?_
  refine g_get (j := 1) (v := .ref (G.1 153)) X Z (oX6 k160) (iB6 _) rfl (by decide) rfl (List.mem_cons_of_mem _ mB264) rfl dX6_abort_11 ?_
  refine lv_aload_n hx hb dX6_abort_14 rfl (lv_at hl 0 rfl) ?_
  refine g_get (j := 0) (v := .ref (G.1 0)) X Z (oX6 k160) (iB6 _) rfl (by decide) rfl (List.mem_cons_of_mem _ mB260) rfl dX6_abort_15 ?_
  obtain ⟨g9, e7, hm⟩ := sBi_some hm
  refine g_callVV (n := 1) (As := [.ref (G.1 0)]) (rest := []) sameC X Z (cX0_push_c l k0 e7) (oX0 k153) rfl (gooV mB289 mB290 mB291 mB263 mB83) rfl (by decide +kernel) rfl ⟨Nat.le_of_ble_eq_true rfl, Nat.le_of_ble_eq_true rfl⟩ ⟨Nat.le_of_ble_eq_true rfl, Nat.le_of_ble_eq_true rfl⟩ hl.1 rfl (Nat.le_of_ble_eq_true rfl) dX6_abort_18 (fun H locs Z => ?_)
  refine lv_aload_n hx hb dX6_abort_21 rfl (lv_at hl 0 rfl) ?_
  refine g_get (j := 0) (v := .ref (G.1 0)) X Z (oX6 k160) (iB6 _) rfl (by decide) rfl (List.mem_cons_of_mem _ mB260) rfl dX6_abort_22 ?_
  refine lv_iload_n hx hb dX6_abort_25 rfl (lv_at hl 1 rfl) ?_
  obtain ⟨r12, g13, e10, hm⟩ := sBi2_some hm
  refine g_callVI (n := 1) (As := [.int x1]) (rest := []) sameC X Z (cX2_makeAborted_c l k0 e10) (oX2 k0) rfl (gooV mB334 mB202 mB203 mB43 mB193) rfl (by decide +kernel) rfl ⟨Nat.le_of_ble_eq_true rfl, Nat.le_of_ble_eq_true rfl⟩ ⟨Nat.le_of_ble_eq_true rfl, Nat.le_of_ble_eq_true rfl⟩ hl.1 rfl (Nat.le_of_ble_eq_true rfl) dX6_abort_26 (fun w11 H locs Z => ?_)
  obtain rfl := Option.some.inj hm
  exact kI _ _ _ _ _ _ (Nat.le_of_ble_eq_true rfl) (Nat.le_of_ble_eq_true rfl) rfl dX6_abort_29 Z (vp_nar_int _)
theorem cX6_abort_c (l : Launch) (hst : l.stackTraces = false) {G : LY} {g : Mem} {n : Nat} {x1 : Int32} {r : Nat × Int32 × Mem} (hm : sX6_abort n g x1 = some r) : cXI l yX6_abort wmX6_abort 7 113 2 12 .int wC G [.ref (G.1 160), .int x1] g r.1 r.2.1 r.2.2 :=
  mk_cXI sameC (by decide +kernel) rfl (Nat.le_of_ble_eq_true rfl) (fun p e s m args below meth c A Qc XC ls X hNX kI kT hl Z => bX6_abort_0 X hNX hst kI kT g x1 _ _ ls Z hl hm)
abbrev wmX6_snapshotRead : List Cond := Cond.code yX6_snapshotRead cX6_snapshotRead 3 (some .int) :: wA0
set_option maxHeartbeats 4000000 in
set_option maxRecDepth 100000 in
theorem bX6_snapshotRead_0 (X : gC p s m args meth c cX6_snapshotRead 3 wmX6_snapshotRead yX6_snapshotRead.cls (some .int) G A) {n : Nat} {r : Nat × Int32 × Mem} (hNX : ∀ x ∈ c.exceptionTable.toList, False) (hst : l.stackTraces = false) (kI : ∀ (pc : Nat) (ls : Array Slot) (H : Heap) (locs : List Loc) (cells slots : Nat), cells ≤ 3 → slots ≤ 18 → r.1 = 0 → decode cX6_snapshotRead pc = .ok (.ireturn, 1) → WS wC G r.2.2 A s.heap H locs → narrow .int (.int r.2.1) = .int r.2.1 → W p l e { frames := 7, cells := 3, slots := 18, locals := 113 } s m args below meth c H locs cells slots (vx_MQ below Qc XC args s 3 18 A) (F0 m pc ls [.int r.2.1])) (kT : r.1 ≠ 0 → gTh XC s wC G A r.1 r.2.2) : ∀ (g : Mem) (x1 : Int32) (x2 : Int32) (H : Heap) (locs : List Loc) (ls : Array Slot), WS wC G g A s.heap H locs → lv_has ls 3 [(0, .ref (G.1 160)), (1, .int x1), (2, .int x2)] → sX6_snapshotRead n g x1 x2 = some r → W p l e { frames := 7, cells := 3, slots := 18, locals := 113 } s m args below meth c H locs 0 0 (vx_MQ below Qc XC args s 3 18 A) (F0 m 0 ls []) := by
  have hx := X.1
  have hb := X.2.1
  intro g x1 x2 H locs ls Z hl hm
  unfold sX6_snapshotRead at hm
  refine lv_aload_n hx hb dX6_snapshotRead_0 rfl (lv_at hl 0 rfl) ?_
  refine lv_iload_n hx hb dX6_snapshotRead_1 rfl (lv_at hl 1 rfl) ?_
  rcases sReq_some hm with ⟨e1, hm⟩ | ⟨ec2, c3, e1, hm⟩
  rotate_left
  · obtain rfl := Option.some.inj hm
    exact g_xcallT (n := 1) (As := [.int x1]) (rest := []) sameC X hNX Z c3 (cX6_requireKey_c l hst e1) (oX6 k160) rfl (gooV mB307 mB308 mB309 mB285 mB299) rfl (by decide +kernel) rfl ⟨Nat.le_of_ble_eq_true rfl, Nat.le_of_ble_eq_true rfl⟩ ⟨Nat.le_of_ble_eq_true rfl, Nat.le_of_ble_eq_true rfl⟩ ⟨Nat.le_of_ble_eq_true rfl, Nat.le_of_ble_eq_true rfl⟩ hl.1 rfl (Nat.le_of_ble_eq_true rfl) dX6_snapshotRead_2 (kT c3)
  refine g_xcall0 (n := 1) (As := [.int x1]) (rest := []) (c1 := 1) (s1 := 6) sameC X Z (cX6_requireKey_c l hst e1) (oX6 k160) rfl (gooV mB307 mB308 mB309 mB285 mB299) rfl (by decide +kernel) rfl ⟨Nat.le_of_ble_eq_true rfl, Nat.le_of_ble_eq_true rfl⟩ rfl rfl ⟨Nat.le_of_ble_eq_true rfl, Nat.le_of_ble_eq_true rfl⟩ hl.1 rfl (Nat.le_of_ble_eq_true rfl) dX6_snapshotRead_2 (fun H locs Z => ?_)
  refine lv_aload_n hx hb dX6_snapshotRead_5 rfl (lv_at hl 0 rfl) ?_
  refine lv_iload_n hx hb dX6_snapshotRead_6 rfl (lv_at hl 2 rfl) ?_
  rcases sReq_some hm with ⟨e4, hm⟩ | ⟨ec5, c6, e4, hm⟩
  rotate_left
  · obtain rfl := Option.some.inj hm
    exact g_xcallT (n := 1) (As := [.int x2]) (rest := []) sameC X hNX Z c6 (cX6_requireNotNegative_c l hst e4) (oX6 k160) rfl (gooV mB362 mB363 mB364 mB285 mB358) rfl (by decide +kernel) rfl ⟨Nat.le_of_ble_eq_true rfl, Nat.le_of_ble_eq_true rfl⟩ ⟨Nat.le_of_ble_eq_true rfl, Nat.le_of_ble_eq_true rfl⟩ ⟨Nat.le_of_ble_eq_true rfl, Nat.le_of_ble_eq_true rfl⟩ hl.1 rfl (Nat.le_of_ble_eq_true rfl) dX6_snapshotRead_7 (kT c6)
  refine g_xcall0 (n := 1) (As := [.int x2]) (rest := []) (c1 := 2) (s1 := 12) sameC X Z (cX6_requireNotNegative_c l hst e4) (oX6 k160) rfl (gooV mB362 mB363 mB364 mB285 mB358) rfl (by decide +kernel) rfl ⟨Nat.le_of_ble_eq_true rfl, Nat.le_of_ble_eq_true rfl⟩ rfl rfl ⟨Nat.le_of_ble_eq_true rfl, Nat.le_of_ble_eq_true rfl⟩ hl.1 rfl (Nat.le_of_ble_eq_true rfl) dX6_snapshotRead_7 (fun H locs Z => ?_)
  refine lv_iload_n hx hb dX6_snapshotRead_10 rfl (lv_at hl 2 rfl) ?_
  refine lv_aload_n hx hb dX6_snapshotRead_11 rfl (lv_at hl 0 rfl) ?_
  refine g_get (j := 0) (v := .ref (G.1 0)) X Z (oX6 k160) (iB6 _) rfl (by decide) rfl (List.mem_cons_of_mem _ mB260) rfl dX6_snapshotRead_12 ?_
  obtain ⟨r9, e7, hm⟩ := sBi_some hm
  refine g_callVI (n := 0) (As := []) (rest := [.int x2]) sameC X Z (cX2_safeTimeNow_c l k0 e7) (oX2 k0) rfl (gooV mB365 mB366 mB367 mB43 mB233) rfl (by decide +kernel) rfl ⟨Nat.le_of_ble_eq_true rfl, Nat.le_of_ble_eq_true rfl⟩ ⟨Nat.le_of_ble_eq_true rfl, Nat.le_of_ble_eq_true rfl⟩ hl.1 rfl (Nat.le_of_ble_eq_true rfl) dX6_snapshotRead_15 (fun w8 H locs Z => ?_)
  refine lv_icmp_le (tgt := 31) hx hb dX6_snapshotRead_18 (by decide) (fun c10 => ?_) (fun c10 => ?_)
  · replace hm := (if_pos c10).symm.trans hm
    refine lv_aload_n hx hb dX6_snapshotRead_31 rfl (lv_at hl 0 rfl) ?_
    refine g_get (j := 1) (v := .ref (G.1 153)) X Z (oX6 k160) (iB6 _) rfl (by decide) rfl (List.mem_cons_of_mem _ mB264) rfl dX6_snapshotRead_32 ?_
    refine lv_aload_n hx hb dX6_snapshotRead_35 rfl (lv_at hl 0 rfl) ?_
    refine g_get (j := 0) (v := .ref (G.1 0)) X Z (oX6 k160) (iB6 _) rfl (by decide) rfl (List.mem_cons_of_mem _ mB260) rfl dX6_snapshotRead_36 ?_
    obtain ⟨g13, e11, hm⟩ := sBi_some hm
    refine g_callVV (n := 1) (As := [.ref (G.1 0)]) (rest := []) sameC X Z (cX0_push_c l k0 e11) (oX0 k153) rfl (gooV mB289 mB290 mB291 mB263 mB83) rfl (by decide +kernel) rfl ⟨Nat.le_of_ble_eq_true rfl, Nat.le_of_ble_eq_true rfl⟩ ⟨Nat.le_of_ble_eq_true rfl, Nat.le_of_ble_eq_true rfl⟩ hl.1 rfl (Nat.le_of_ble_eq_true rfl) dX6_snapshotRead_39 (fun H locs Z => ?_)
    refine lv_aload_n hx hb dX6_snapshotRead_42 rfl (lv_at hl 0 rfl) ?_
    refine g_get (j := 0) (v := .ref (G.1 0)) X Z (oX6 k160) (iB6 _) rfl (by decide) rfl (List.mem_cons_of_mem _ mB260) rfl dX6_snapshotRead_43 ?_
    refine lv_aload_n hx hb dX6_snapshotRead_46 rfl (lv_at hl 0 rfl) ?_
    refine g_get (j := 0) (v := .ref (G.1 0)) X Z (oX6 k160) (iB6 _) rfl (by decide) rfl (List.mem_cons_of_mem _ mB260) rfl dX6_snapshotRead_47 ?_
    refine g_get (j := 1) (v := .int (g13 0 1)) X Z (oX2 k0) (iB2 _) rfl (by decide) rfl (List.mem_cons_of_mem _ mB359) rfl dX6_snapshotRead_50 ?_
    refine lv_iload_n hx hb dX6_snapshotRead_53 rfl (lv_at hl 2 rfl) ?_
    refine g_max X hl.1 (List.mem_cons_of_mem _ mB360) (List.mem_cons_of_mem _ mB168) (List.mem_cons_of_mem _ mB78) (List.mem_cons_of_mem _ mB169) ⟨Nat.le_of_ble_eq_true rfl, Nat.le_of_ble_eq_true rfl, Nat.le_of_ble_eq_true rfl, Nat.le_of_ble_eq_true rfl⟩ dX6_snapshotRead_54 ?_
    obtain ⟨g14, eg14, hm⟩ := sLet_some hm
    refine g_put (j := 1) eg14 X Z (oX2 k0) (iB2 _) rfl tyX2_ok nmX2 (by decide) rfl rfl (Nat.le_of_ble_eq_true rfl) (p2_1 G g13 (sMax (g13 0 1) x2)) rfl (List.mem_cons_of_mem _ mB359) dX6_snapshotRead_57 (fun H locs Z => ?_)
    refine lv_aload_n hx hb dX6_snapshotRead_60 rfl (lv_at hl 0 rfl) ?_
    refine g_get (j := 0) (v := .ref (G.1 0)) X Z (oX6 k160) (iB6 _) rfl (by decide) rfl (List.mem_cons_of_mem _ mB260) rfl dX6_snapshotRead_61 ?_
    refine g_get (j := 4) (v := .ref (G.1 (0 + 5))) X Z (oX2 k0) (iB2 _) rfl (by decide) rfl (List.mem_cons_of_mem _ mB361) rfl dX6_snapshotRead_64 ?_
    refine lv_iload_n hx hb dX6_snapshotRead_67 rfl (lv_at hl 1 rfl) ?_
    refine lv_iload_n hx hb dX6_snapshotRead_68 rfl (lv_at hl 2 rfl) ?_
    obtain ⟨r17, e15, hm⟩ := sBi_some hm
    refine g_callVI (n := 2) (As := [.int x1, .int x2]) (rest := []) sameC X Z (cX5_valueOf_c l (k24 k0) e15) (oX5 (k24 k0)) rfl (gooV mB368 mB369 mB370 mB26 mB254) rfl (by decide +kernel) rfl ⟨Nat.le_of_ble_eq_true rfl, Nat.le_of_ble_eq_true rfl⟩ ⟨Nat.le_of_ble_eq_true rfl, Nat.le_of_ble_eq_true rfl⟩ hl.1 rfl (Nat.le_of_ble_eq_true rfl) dX6_snapshotRead_69 (fun w16 H locs Z => ?_)
    obtain rfl := Option.some.inj hm
    exact kI _ _ _ _ _ _ (Nat.le_of_ble_eq_true rfl) (Nat.le_of_ble_eq_true rfl) rfl dX6_snapshotRead_72 Z (vp_nar_int _)
  · replace hm := (if_neg c10).symm.trans hm
    obtain rfl := Option.some.inj hm
    exact g_throw (ec := 3) (text := "the timestamp is greater than the safe time") (names := ["java/lang/RuntimeException", "java/lang/Exception"]) X hNX hst Z hl.1 rfl thfS thn (List.mem_cons_of_mem _ mB280) (List.mem_cons_of_mem _ mB281) (by decide) (fun w h => List.mem_cons_of_mem _ (iAtS w h)) (by decide) thbS thgS_46 dX6_snapshotRead_21 dX6_snapshotRead_24 dX6_snapshotRead_25 dX6_snapshotRead_27 dX6_snapshotRead_30 ⟨Nat.le_of_ble_eq_true rfl, Nat.le_of_ble_eq_true rfl, Nat.le_of_ble_eq_true rfl, Nat.le_of_ble_eq_true rfl⟩ ⟨Nat.le_of_ble_eq_true rfl, Nat.le_of_ble_eq_true rfl⟩ (kT th3)
theorem cX6_snapshotRead_c (l : Launch) (hst : l.stackTraces = false) {G : LY} {g : Mem} {n : Nat} {x1 : Int32} {x2 : Int32} {r : Nat × Int32 × Mem} (hm : sX6_snapshotRead n g x1 x2 = some r) : cXI l yX6_snapshotRead wmX6_snapshotRead 7 113 3 18 .int wC G [.ref (G.1 160), .int x1, .int x2] g r.1 r.2.1 r.2.2 :=
  mk_cXI sameC (by decide +kernel) rfl (Nat.le_of_ble_eq_true rfl) (fun p e s m args below meth c A Qc XC ls X hNX kI kT hl Z => bX6_snapshotRead_0 X hNX hst kI kT g x1 x2 _ _ ls Z hl hm)
end GW
