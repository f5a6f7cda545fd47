section GW
variable {Qc : Array Value → State → Outcome → State → Prop} {XC : String → State → State → Prop} {p : Program} {l : Launch} {e : Env} {s : State} {m : MethodId} {args : Array Value} {below : List Frame} {meth : Method} {c : Code} {Q : State → Prop} {G : LY} {A : Nat → Prop}
set_option maxHeartbeats 4000000 in
set_option maxRecDepth 100000 in
theorem pX6_requireServer_0 (X : gC p s m args meth c cX6_requireServer 2 wmX6_requireServer yX6_requireServer.cls none G A) {g : Mem} {r : Nat} (h0 : r = 0) (kI : ∀ (pc : Nat) (ls : Array Slot) (H : Heap) (locs : List Loc), decode cX6_requireServer pc = .ok (.return_, 1) → WS wC G g A s.heap H locs → W p l e { frames := 6, cells := 0, slots := 0, locals := 90 } s m args below meth c H locs 0 0 Q (F0 m pc ls [])) : ∀ (x1 : Int32) (H : Heap) (locs : List Loc) (ls : Array Slot), WS wC G g A s.heap H locs → lv_has ls 2 [(0, .ref (G.1 160)), (1, .int x1)] → sX6_requireServer g x1 = some r → W p l e { frames := 6, cells := 0, slots := 0, locals := 90 } s m args below meth c H locs 0 0 Q (F0 m 0 ls []) := by
  have hx := X.1
  have hb := X.2.1
  intro x1 H locs ls Z hl hm
  unfold sX6_requireServer at hm
  refine lv_iload_n hx hb dX6_requireServer_0 rfl (lv_at hl 1 rfl) ?_
  refine lv_if_lt (tgt := 9) hx hb dX6_requireServer_1 (by decide) (fun c1 => ?_) (fun c1 => ?_)
  · replace hm := (if_pos c1).symm.trans hm
    obtain rfl := Option.some.inj hm
    exact absurd (show (1 : Nat) = 0 from h0) (by decide)
  · replace hm := (if_neg c1).symm.trans hm
    refine lv_iload_n hx hb dX6_requireServer_4 rfl (lv_at hl 1 rfl) ?_
    refine lv_iconst (v := 3) hx hb dX6_requireServer_5 (by decide) ?_
    refine lv_icmp_lt (tgt := 20) hx hb dX6_requireServer_6 (by decide) (fun c2 => ?_) (fun c2 => ?_)
    · replace hm := (if_pos c2).symm.trans hm
      obtain rfl := Option.some.inj hm
      exact kI _ _ _ _ dX6_requireServer_20 Z
    · replace hm := (if_neg c2).symm.trans hm
      obtain rfl := Option.some.inj hm
      exact absurd (show (1 : Nat) = 0 from h0) (by decide)
theorem nX6_requireServer_c (l : Launch) {G : LY} {g : Mem} {x1 : Int32} {r : Nat} (hm : sX6_requireServer g x1 = some r) (h0 : r = 0) : cV l yX6_requireServer wmX6_requireServer 6 90 wC G [.ref (G.1 160), .int x1] g g :=
  mk_cV sameC (by decide +kernel) rfl (Nat.le_of_ble_eq_true rfl) (fun p e s m args below meth c A Q ls X kI hl Z => pX6_requireServer_0 X h0 kI x1 _ _ ls Z hl hm)
set_option maxHeartbeats 4000000 in
set_option maxRecDepth 100000 in
theorem pX6_requireTransaction_0 (X : gC p s m args meth c cX6_requireTransaction 2 wmX6_requireTransaction yX6_requireTransaction.cls none G A) {g : Mem} {r : Nat} (h0 : r = 0) (kI : ∀ (pc : Nat) (ls : Array Slot) (H : Heap) (locs : List Loc), decode cX6_requireTransaction pc = .ok (.return_, 1) → WS wC G g A s.heap H locs → W p l e { frames := 6, cells := 0, slots := 0, locals := 90 } s m args below meth c H locs 0 0 Q (F0 m pc ls [])) : ∀ (x1 : Int32) (H : Heap) (locs : List Loc) (ls : Array Slot), WS wC G g A s.heap H locs → lv_has ls 2 [(0, .ref (G.1 160)), (1, .int x1)] → sX6_requireTransaction g x1 = some r → W p l e { frames := 6, cells := 0, slots := 0, locals := 90 } s m args below meth c H locs 0 0 Q (F0 m 0 ls []) := by
  have hx := X.1
  have hb := X.2.1
  intro x1 H locs ls Z hl hm
  unfold sX6_requireTransaction at hm
  refine lv_iload_n hx hb dX6_requireTransaction_0 rfl (lv_at hl 1 rfl) ?_
  refine lv_if_lt (tgt := 18) hx hb dX6_requireTransaction_1 (by decide) (fun c1 => ?_) (fun c1 => ?_)
  · replace hm := (if_pos c1).symm.trans hm
    obtain rfl := Option.some.inj hm
    exact absurd (show (1 : Nat) = 0 from h0) (by decide)
  · replace hm := (if_neg c1).symm.trans hm
    refine lv_iload_n hx hb dX6_requireTransaction_4 rfl (lv_at hl 1 rfl) ?_
    refine lv_aload_n hx hb dX6_requireTransaction_5 rfl (lv_at hl 0 rfl) ?_
    refine g_get (j := 0) (v := .ref (G.1 0)) X Z (oX6 k160) (iB6 _) rfl (by decide) rfl (List.mem_cons_of_mem _ mB260) rfl dX6_requireTransaction_6 ?_
    refine g_get (j := 5) (v := .ref (G.1 (0 + 9))) X Z (oX2 k0) (iB2 _) rfl (by decide) rfl (List.mem_cons_of_mem _ mB297) rfl dX6_requireTransaction_9 ?_
    refine g_get (j := 0) (v := .int (g (0 + 9) 0)) X Z (oX4 (k25 k0)) (iB4 _) rfl (by decide) rfl (List.mem_cons_of_mem _ mB298) rfl dX6_requireTransaction_12 ?_
    refine lv_icmp_lt (tgt := 29) hx hb dX6_requireTransaction_15 (by decide) (fun c2 => ?_) (fun c2 => ?_)
    · replace hm := (if_pos c2).symm.trans hm
      obtain rfl := Option.some.inj hm
      exact kI _ _ _ _ dX6_requireTransaction_29 Z
    · replace hm := (if_neg c2).symm.trans hm
      obtain rfl := Option.some.inj hm
      exact absurd (show (1 : Nat) = 0 from h0) (by decide)
theorem nX6_requireTransaction_c (l : Launch) {G : LY} {g : Mem} {x1 : Int32} {r : Nat} (hm : sX6_requireTransaction g x1 = some r) (h0 : r = 0) : cV l yX6_requireTransaction wmX6_requireTransaction 6 90 wC G [.ref (G.1 160), .int x1] g g :=
  mk_cV sameC (by decide +kernel) rfl (Nat.le_of_ble_eq_true rfl) (fun p e s m args below meth c A Q ls X kI hl Z => pX6_requireTransaction_0 X h0 kI x1 _ _ ls Z hl hm)
set_option maxHeartbeats 4000000 in
set_option maxRecDepth 100000 in
theorem pX6_requireKey_0 (X : gC p s m args meth c cX6_requireKey 2 wmX6_requireKey yX6_requireKey.cls none G A) {g : Mem} {r : Nat} (h0 : r = 0) (kI : ∀ (pc : Nat) (ls : Array Slot) (H : Heap) (locs : List Loc), decode cX6_requireKey pc = .ok (.return_, 1) → WS wC G g A s.heap H locs → W p l e { frames := 6, cells := 0, slots := 0, locals := 90 } s m args below meth c H locs 0 0 Q (F0 m pc ls [])) : ∀ (x1 : Int32) (H : Heap) (locs : List Loc) (ls : Array Slot), WS wC G g A s.heap H locs → lv_has ls 2 [(0, .ref (G.1 160)), (1, .int x1)] → sX6_requireKey g x1 = some r → W p l e { frames := 6, cells := 0, slots := 0, locals := 90 } s m args below meth c H locs 0 0 Q (F0 m 0 ls []) := by
  have hx := X.1
  have hb := X.2.1
  intro x1 H locs ls Z hl hm
  unfold sX6_requireKey at hm
  refine lv_iload_n hx hb dX6_requireKey_0 rfl (lv_at hl 1 rfl) ?_
  refine lv_if_lt (tgt := 10) hx hb dX6_requireKey_1 (by decide) (fun c1 => ?_) (fun c1 => ?_)
  · replace hm := (if_pos c1).symm.trans hm
    obtain rfl := Option.some.inj hm
    exact absurd (show (1 : Nat) = 0 from h0) (by decide)
  · replace hm := (if_neg c1).symm.trans hm
    refine lv_iload_n hx hb dX6_requireKey_4 rfl (lv_at hl 1 rfl) ?_
    refine lv_bipush (v := 8) hx hb dX6_requireKey_5 (by decide) ?_
    refine lv_icmp_lt (tgt := 21) hx hb dX6_requireKey_7 (by decide) (fun c2 => ?_) (fun c2 => ?_)
    · replace hm := (if_pos c2).symm.trans hm
      obtain rfl := Option.some.inj hm
      exact kI _ _ _ _ dX6_requireKey_21 Z
    · replace hm := (if_neg c2).symm.trans hm
      obtain rfl := Option.some.inj hm
      exact absurd (show (1 : Nat) = 0 from h0) (by decide)
theorem nX6_requireKey_c (l : Launch) {G : LY} {g : Mem} {x1 : Int32} {r : Nat} (hm : sX6_requireKey g x1 = some r) (h0 : r = 0) : cV l yX6_requireKey wmX6_requireKey 6 90 wC G [.ref (G.1 160), .int x1] g g :=
  mk_cV sameC (by decide +kernel) rfl (Nat.le_of_ble_eq_true rfl) (fun p e s m args below meth c A Q ls X kI hl Z => pX6_requireKey_0 X h0 kI x1 _ _ ls Z hl hm)
set_option maxHeartbeats 4000000 in
set_option maxRecDepth 100000 in
theorem pX6_requireRange_0 (X : gC p s m args meth c cX6_requireRange 4 wmX6_requireRange yX6_requireRange.cls none G A) {g : Mem} {r : Nat} (h0 : r = 0) (kI : ∀ (pc : Nat) (ls : Array Slot) (H : Heap) (locs : List Loc), decode cX6_requireRange pc = .ok (.return_, 1) → WS wC G g A s.heap H locs → W p l e { frames := 6, cells := 0, slots := 0, locals := 90 } s m args below meth c H locs 0 0 Q (F0 m pc ls [])) : ∀ (x1 : Int32) (x2 : Int32) (x3 : Int32) (H : Heap) (locs : List Loc) (ls : Array Slot), WS wC G g A s.heap H locs → lv_has ls 4 [(0, .ref (G.1 160)), (1, .int x1), (2, .int x2), (3, .int x3)] → sX6_requireRange g x1 x2 x3 = some r → W p l e { frames := 6, cells := 0, slots := 0, locals := 90 } s m args below meth c H locs 0 0 Q (F0 m 0 ls []) := by
  have hx := X.1
  have hb := X.2.1
  intro x1 x2 x3 H locs ls Z hl hm
  unfold sX6_requireRange at hm
  refine lv_iload_n hx hb dX6_requireRange_0 rfl (lv_at hl 1 rfl) ?_
  refine lv_iload_n hx hb dX6_requireRange_1 rfl (lv_at hl 2 rfl) ?_
  refine lv_icmp_lt (tgt := 10) hx hb dX6_requireRange_2 (by decide) (fun c1 => ?_) (fun c1 => ?_)
  · replace hm := (if_pos c1).symm.trans hm
    obtain rfl := Option.some.inj hm
    exact absurd (show (2 : Nat) = 0 from h0) (by decide)
  · replace hm := (if_neg c1).symm.trans hm
    refine lv_iload_n hx hb dX6_requireRange_5 rfl (lv_at hl 1 rfl) ?_
    refine lv_iload_n hx hb dX6_requireRange_6 rfl (lv_at hl 3 rfl) ?_
    refine lv_icmp_le (tgt := 21) hx hb dX6_requireRange_7 (by decide) (fun c2 => ?_) (fun c2 => ?_)
    · replace hm := (if_pos c2).symm.trans hm
      obtain rfl := Option.some.inj hm
      exact kI _ _ _ _ dX6_requireRange_21 Z
    · replace hm := (if_neg c2).symm.trans hm
      obtain rfl := Option.some.inj hm
      exact absurd (show (2 : Nat) = 0 from h0) (by decide)
theorem nX6_requireRange_c (l : Launch) {G : LY} {g : Mem} {x1 : Int32} {x2 : Int32} {x3 : Int32} {r : Nat} (hm : sX6_requireRange g x1 x2 x3 = some r) (h0 : r = 0) : cV l yX6_requireRange wmX6_requireRange 6 90 wC G [.ref (G.1 160), .int x1, .int x2, .int x3] g g :=
  mk_cV sameC (by decide +kernel) rfl (Nat.le_of_ble_eq_true rfl) (fun p e s m args below meth c A Q ls X kI hl Z => pX6_requireRange_0 X h0 kI x1 x2 x3 _ _ ls Z hl hm)
set_option maxHeartbeats 4000000 in
set_option maxRecDepth 100000 in
theorem pX6_requireNotNegative_0 (X : gC p s m args meth c cX6_requireNotNegative 2 wmX6_requireNotNegative yX6_requireNotNegative.cls none G A) {g : Mem} {r : Nat} (h0 : r = 0) (kI : ∀ (pc : Nat) (ls : Array Slot) (H : Heap) (locs : List Loc), decode cX6_requireNotNegative pc = .ok (.return_, 1) → WS wC G g A s.heap H locs → W p l e { frames := 6, cells := 0, slots := 0, locals := 90 } s m args below meth c H locs 0 0 Q (F0 m pc ls [])) : ∀ (x1 : Int32) (H : Heap) (locs : List Loc) (ls : Array Slot), WS wC G g A s.heap H locs → lv_has ls 2 [(0, .ref (G.1 160)), (1, .int x1)] → sX6_requireNotNegative g x1 = some r → W p l e { frames := 6, cells := 0, slots := 0, locals := 90 } s m args below meth c H locs 0 0 Q (F0 m 0 ls []) := by
  have hx := X.1
  have hb := X.2.1
  intro x1 H locs ls Z hl hm
  unfold sX6_requireNotNegative at hm
  refine lv_iload_n hx hb dX6_requireNotNegative_0 rfl (lv_at hl 1 rfl) ?_
  refine lv_if_ge (tgt := 15) hx hb dX6_requireNotNegative_1 (by decide) (fun c1 => ?_) (fun c1 => ?_)
  · replace hm := (if_pos c1).symm.trans hm
    obtain rfl := Option.some.inj hm
    exact kI _ _ _ _ dX6_requireNotNegative_15 Z
  · replace hm := (if_neg c1).symm.trans hm
    obtain rfl := Option.some.inj hm
    exact absurd (show (2 : Nat) = 0 from h0) (by decide)
theorem nX6_requireNotNegative_c (l : Launch) {G : LY} {g : Mem} {x1 : Int32} {r : Nat} (hm : sX6_requireNotNegative g x1 = some r) (h0 : r = 0) : cV l yX6_requireNotNegative wmX6_requireNotNegative 6 90 wC G [.ref (G.1 160), .int x1] g g :=
  mk_cV sameC (by decide +kernel) rfl (Nat.le_of_ble_eq_true rfl) (fun p e s m args below meth c A Q ls X kI hl Z => pX6_requireNotNegative_0 X h0 kI x1 _ _ ls Z hl hm)
set_option maxHeartbeats 4000000 in
set_option maxRecDepth 100000 in
theorem pX6_requireOpen_0 (X : gC p s m args meth c cX6_requireOpen 2 wmX6_requireOpen yX6_requireOpen.cls none G A) {g : Mem} {r : Nat} (h0 : r = 0) (kI : ∀ (pc : Nat) (ls : Array Slot) (H : Heap) (locs : List Loc), decode cX6_requireOpen pc = .ok (.return_, 1) → WS wC G g A s.heap H locs → W p l e { frames := 6, cells := 0, slots := 0, locals := 90 } s m args below meth c H locs 0 0 Q (F0 m pc ls [])) : ∀ (x1 : Int32) (H : Heap) (locs : List Loc) (ls : Array Slot), WS wC G g A s.heap H locs → lv_has ls 2 [(0, .ref (G.1 160)), (1, .int x1)] → sX6_requireOpen g x1 = some r → W p l e { frames := 6, cells := 0, slots := 0, locals := 90 } s m args below meth c H locs 0 0 Q (F0 m 0 ls []) := by
  have hx := X.1
  have hb := X.2.1
  intro x1 H locs ls Z hl hm
  unfold sX6_requireOpen at hm
  refine lv_aload_n hx hb dX6_requireOpen_0 rfl (lv_at hl 0 rfl) ?_
  refine g_get (j := 0) (v := .ref (G.1 0)) X Z (oX6 k160) (iB6 _) rfl (by decide) rfl (List.mem_cons_of_mem _ mB260) rfl dX6_requireOpen_1 ?_
  refine g_get (j := 5) (v := .ref (G.1 (0 + 9))) X Z (oX2 k0) (iB2 _) rfl (by decide) rfl (List.mem_cons_of_mem _ mB297) rfl dX6_requireOpen_4 ?_
  refine lv_iload_n hx hb dX6_requireOpen_7 rfl (lv_at hl 1 rfl) ?_
  obtain ⟨r3, e1, hm⟩ := sBi_some hm
  refine g_callVI (n := 1) (As := [.int x1]) (rest := []) sameC X Z (cX4_isOpen_c l (k25 k0) e1) (oX4 (k25 k0)) rfl (gooV mB301 mB302 mB303 mB30 mB243) rfl (by decide +kernel) rfl ⟨Nat.le_of_ble_eq_true rfl, Nat.le_of_ble_eq_true rfl⟩ ⟨Nat.le_of_ble_eq_true rfl, Nat.le_of_ble_eq_true rfl⟩ hl.1 rfl (Nat.le_of_ble_eq_true rfl) dX6_requireOpen_8 (fun w2 H locs Z => ?_)
  refine lv_if_ne (tgt := 25) hx hb dX6_requireOpen_11 (by decide) (fun c4 => ?_) (fun c4 => ?_)
  · replace hm := (if_neg c4).symm.trans hm
    obtain rfl := Option.some.inj hm
    exact kI _ _ _ _ dX6_requireOpen_25 Z
  · replace hm := (if_pos c4).symm.trans hm
    obtain rfl := Option.some.inj hm
    exact absurd (show (3 : Nat) = 0 from h0) (by decide)
theorem nX6_requireOpen_c (l : Launch) {G : LY} {g : Mem} {x1 : Int32} {r : Nat} (hm : sX6_requireOpen g x1 = some r) (h0 : r = 0) : cV l yX6_requireOpen wmX6_requireOpen 6 90 wC G [.ref (G.1 160), .int x1] g g :=
  mk_cV sameC (by decide +kernel) rfl (Nat.le_of_ble_eq_true rfl) (fun p e s m args below meth c A Q ls X kI hl Z => pX6_requireOpen_0 X h0 kI x1 _ _ ls Z hl hm)
abbrev wmX6_versions : List Cond := Cond.code yX6_versions cX6_versions 2 (some .int) :: wA0
set_option maxHeartbeats 4000000 in
set_option maxRecDepth 100000 in
theorem pX6_versions_0 (X : gC p s m args meth c cX6_versions 2 wmX6_versions yX6_versions.cls (some .int) G A) {g : Mem} {r : Nat × Int32} (h0 : r.1 = 0) (kI : ∀ (pc : Nat) (ls : Array Slot) (H : Heap) (locs : List Loc), decode cX6_versions pc = .ok (.ireturn, 1) → WS wC G g A s.heap H locs → narrow .int (.int r.2) = .int r.2 → W p l e { frames := 7, cells := 0, slots := 0, locals := 111 } s m args below meth c H locs 0 0 Q (F0 m pc ls [.int r.2])) : ∀ (x1 : Int32) (H : Heap) (locs : List Loc) (ls : Array Slot), WS wC G g A s.heap H locs → lv_has ls 2 [(0, .ref (G.1 160)), (1, .int x1)] → sX6_versions g x1 = some r → W p l e { frames := 7, cells := 0, slots := 0, locals := 111 } s m args below meth c H locs 0 0 Q (F0 m 0 ls []) := by
  have hx := X.1
  have hb := X.2.1
  intro x1 H locs ls Z hl hm
  unfold sX6_versions at hm
  refine lv_aload_n hx hb dX6_versions_0 rfl (lv_at hl 0 rfl) ?_
  refine lv_iload_n hx hb dX6_versions_1 rfl (lv_at hl 1 rfl) ?_
  rcases sReq_some hm with ⟨e1, hm⟩ | ⟨ec3, c4, e1, hm⟩
  rotate_left
  · obtain rfl := Option.some.inj hm
    exact absurd h0 c4
  refine g_callVV (n := 1) (As := [.int x1]) (rest := []) sameC X Z (nX6_requireKey_c l e1 rfl) (oX6 k160) rfl (gooV mB307 mB308 mB309 mB285 mB299) rfl (by decide +kernel) rfl ⟨Nat.le_of_ble_eq_true rfl, Nat.le_of_ble_eq_true rfl⟩ ⟨Nat.le_of_ble_eq_true rfl, Nat.le_of_ble_eq_true rfl⟩ hl.1 rfl (Nat.le_of_ble_eq_true rfl) dX6_versions_2 (fun H locs Z => ?_)
  refine lv_aload_n hx hb dX6_versions_5 rfl (lv_at hl 0 rfl) ?_
  refine g_get (j := 0) (v := .ref (G.1 0)) X Z (oX6 k160) (iB6 _) rfl (by decide) rfl (List.mem_cons_of_mem _ mB260) rfl dX6_versions_6 ?_
  refine g_get (j := 4) (v := .ref (G.1 (0 + 5))) X Z (oX2 k0) (iB2 _) rfl (by decide) rfl (List.mem_cons_of_mem _ mB361) rfl dX6_versions_9 ?_
  refine g_get (j := 0) (v := .ref (G.1 ((0 + 5) + 1))) X Z (oX5 (k24 k0)) (iB5 _) rfl (by decide) rfl (List.mem_cons_of_mem _ mB399) rfl dX6_versions_12 ?_
  refine lv_iload_n hx hb dX6_versions_15 rfl (lv_at hl 1 rfl) ?_
  obtain ⟨b5, hm⟩ := sIdx_some hm
  refine g_iald X Z (aI (k50 (k24 k0))) b5 dX6_versions_16 ?_
  obtain rfl := Option.some.inj hm
  exact kI _ _ _ _ dX6_versions_17 Z (vp_nar_int _)
theorem nX6_versions_c (l : Launch) {G : LY} {g : Mem} {x1 : Int32} {r : Nat × Int32} (hm : sX6_versions g x1 = some r) (h0 : r.1 = 0) : cI l yX6_versions wmX6_versions 7 111 .int wC G [.ref (G.1 160), .int x1] g r.2 g :=
  mk_cI sameC (by decide +kernel) rfl (Nat.le_of_ble_eq_true rfl) (fun p e s m args below meth c A Q ls X kI hl Z => pX6_versions_0 X h0 kI x1 _ _ ls Z hl hm)
abbrev wmX6_versionTimestamp : List Cond := Cond.code yX6_versionTimestamp cX6_versionTimestamp 3 (some .int) :: wA0
set_option maxHeartbeats 4000000 in
set_option maxRecDepth 100000 in
theorem pX6_versionTimestamp_0 (X : gC p s m args meth c cX6_versionTimestamp 3 wmX6_versionTimestamp yX6_versionTimestamp.cls (some .int) G A) {g : Mem} {r : Nat × Int32} (h0 : r.1 = 0) (kI : ∀ (pc : Nat) (ls : Array Slot) (H : Heap) (locs : List Loc), decode cX6_versionTimestamp pc = .ok (.ireturn, 1) → WS wC G g A s.heap H locs → narrow .int (.int r.2) = .int r.2 → W p l e { frames := 7, cells := 0, slots := 0, locals := 111 } s m args below meth c H locs 0 0 Q (F0 m pc ls [.int r.2])) : ∀ (x1 : Int32) (x2 : Int32) (H : Heap) (locs : List Loc) (ls : Array Slot), WS wC G g A s.heap H locs → lv_has ls 3 [(0, .ref (G.1 160)), (1, .int x1), (2, .int x2)] → sX6_versionTimestamp g x1 x2 = some r → W p l e { frames := 7, cells := 0, slots := 0, locals := 111 } s m args below meth c H locs 0 0 Q (F0 m 0 ls []) := by
  have hx := X.1
  have hb := X.2.1
  intro x1 x2 H locs ls Z hl hm
  unfold sX6_versionTimestamp at hm
  refine lv_aload_n hx hb dX6_versionTimestamp_0 rfl (lv_at hl 0 rfl) ?_
  refine lv_iload_n hx hb dX6_versionTimestamp_1 rfl (lv_at hl 1 rfl) ?_
  rcases sReq_some hm with ⟨e1, hm⟩ | ⟨ec3, c4, e1, hm⟩
  rotate_left
  · obtain rfl := Option.some.inj hm
    exact absurd h0 c4
  refine g_callVV (n := 1) (As := [.int x1]) (rest := []) sameC X Z (nX6_requireKey_c l e1 rfl) (oX6 k160) rfl (gooV mB307 mB308 mB309 mB285 mB299) rfl (by decide +kernel) rfl ⟨Nat.le_of_ble_eq_true rfl, Nat.le_of_ble_eq_true rfl⟩ ⟨Nat.le_of_ble_eq_true rfl, Nat.le_of_ble_eq_true rfl⟩ hl.1 rfl (Nat.le_of_ble_eq_true rfl) dX6_versionTimestamp_2 (fun H locs Z => ?_)
  refine lv_iload_n hx hb dX6_versionTimestamp_5 rfl (lv_at hl 2 rfl) ?_
  refine lv_if_lt (tgt := 25) hx hb dX6_versionTimestamp_6 (by decide) (fun c5 => ?_) (fun c5 => ?_)
  · replace hm := (if_pos c5).symm.trans hm
    obtain rfl := Option.some.inj hm
    exact absurd (show (1 : Nat) = 0 from h0) (by decide)
  · replace hm := (if_neg c5).symm.trans hm
    refine lv_iload_n hx hb dX6_versionTimestamp_9 rfl (lv_at hl 2 rfl) ?_
    refine lv_aload_n hx hb dX6_versionTimestamp_10 rfl (lv_at hl 0 rfl) ?_
    refine g_get (j := 0) (v := .ref (G.1 0)) X Z (oX6 k160) (iB6 _) rfl (by decide) rfl (List.mem_cons_of_mem _ mB260) rfl dX6_versionTimestamp_11 ?_
    refine g_get (j := 4) (v := .ref (G.1 (0 + 5))) X Z (oX2 k0) (iB2 _) rfl (by decide) rfl (List.mem_cons_of_mem _ mB361) rfl dX6_versionTimestamp_14 ?_
    refine g_get (j := 0) (v := .ref (G.1 ((0 + 5) + 1))) X Z (oX5 (k24 k0)) (iB5 _) rfl (by decide) rfl (List.mem_cons_of_mem _ mB399) rfl dX6_versionTimestamp_17 ?_
    refine lv_iload_n hx hb dX6_versionTimestamp_20 rfl (lv_at hl 1 rfl) ?_
    obtain ⟨b6, hm⟩ := sIdx_some hm
    refine g_iald X Z (aI (k50 (k24 k0))) b6 dX6_versionTimestamp_21 ?_
    refine lv_icmp_lt (tgt := 36) hx hb dX6_versionTimestamp_22 (by decide) (fun c7 => ?_) (fun c7 => ?_)
    · replace hm := (if_pos c7).symm.trans hm
      refine lv_aload_n hx hb dX6_versionTimestamp_36 rfl (lv_at hl 0 rfl) ?_
      refine g_get (j := 0) (v := .ref (G.1 0)) X Z (oX6 k160) (iB6 _) rfl (by decide) rfl (List.mem_cons_of_mem _ mB260) rfl dX6_versionTimestamp_37 ?_
      refine g_get (j := 4) (v := .ref (G.1 (0 + 5))) X Z (oX2 k0) (iB2 _) rfl (by decide) rfl (List.mem_cons_of_mem _ mB361) rfl dX6_versionTimestamp_40 ?_
      refine lv_iload_n hx hb dX6_versionTimestamp_43 rfl (lv_at hl 1 rfl) ?_
      refine lv_iload_n hx hb dX6_versionTimestamp_44 rfl (lv_at hl 2 rfl) ?_
      obtain ⟨r10, e8, hm⟩ := sBi_some hm
      refine g_callVI (n := 2) (As := [.int x1, .int x2]) (rest := []) sameC X Z (cX5_timestampOf_c l (k24 k0) e8) (oX5 (k24 k0)) rfl (gooV mB393 mB187 mB188 mB26 mB172) rfl (by decide +kernel) rfl ⟨Nat.le_of_ble_eq_true rfl, Nat.le_of_ble_eq_true rfl⟩ ⟨Nat.le_of_ble_eq_true rfl, Nat.le_of_ble_eq_true rfl⟩ hl.1 rfl (Nat.le_of_ble_eq_true rfl) dX6_versionTimestamp_45 (fun w9 H locs Z => ?_)
      obtain rfl := Option.some.inj hm
      exact kI _ _ _ _ dX6_versionTimestamp_48 Z (vp_nar_int _)
    · replace hm := (if_neg c7).symm.trans hm
      obtain rfl := Option.some.inj hm
      exact absurd (show (1 : Nat) = 0 from h0) (by decide)
theorem nX6_versionTimestamp_c (l : Launch) {G : LY} {g : Mem} {x1 : Int32} {x2 : Int32} {r : Nat × Int32} (hm : sX6_versionTimestamp g x1 x2 = some r) (h0 : r.1 = 0) : cI l yX6_versionTimestamp wmX6_versionTimestamp 7 111 .int wC G [.ref (G.1 160), .int x1, .int x2] g r.2 g :=
  mk_cI sameC (by decide +kernel) rfl (Nat.le_of_ble_eq_true rfl) (fun p e s m args below meth c A Q ls X kI hl Z => pX6_versionTimestamp_0 X h0 kI x1 x2 _ _ ls Z hl hm)
abbrev wmX6_valueAt : List Cond := Cond.code yX6_valueAt cX6_valueAt 3 (some .int) :: wA0
set_option maxHeartbeats 4000000 in
set_option maxRecDepth 100000 in
theorem pX6_valueAt_0 (X : gC p s m args meth c cX6_valueAt 3 wmX6_valueAt yX6_valueAt.cls (some .int) G A) {n : Nat} {g : Mem} {r : Nat × Int32} (h0 : r.1 = 0) (kI : ∀ (pc : Nat) (ls : Array Slot) (H : Heap) (locs : List Loc), decode cX6_valueAt pc = .ok (.ireturn, 1) → WS wC G g A s.heap H locs → narrow .int (.int r.2) = .int r.2 → W p l e { frames := 7, cells := 0, slots := 0, locals := 111 } s m args below meth c H locs 0 0 Q (F0 m pc ls [.int r.2])) : ∀ (x1 : Int32) (x2 : Int32) (H : Heap) (locs : List Loc) (ls : Array Slot), WS wC G g A s.heap H locs → lv_has ls 3 [(0, .ref (G.1 160)), (1, .int x1), (2, .int x2)] → sX6_valueAt n g x1 x2 = some r → W p l e { frames := 7, cells := 0, slots := 0, locals := 111 } s m args below meth c H locs 0 0 Q (F0 m 0 ls []) := by
  have hx := X.1
  have hb := X.2.1
  intro x1 x2 H locs ls Z hl hm
  unfold sX6_valueAt at hm
  refine lv_aload_n hx hb dX6_valueAt_0 rfl (lv_at hl 0 rfl) ?_
  refine lv_iload_n hx hb dX6_valueAt_1 rfl (lv_at hl 1 rfl) ?_
  rcases sReq_some hm with ⟨e1, hm⟩ | ⟨ec3, c4, e1, hm⟩
  rotate_left
  · obtain rfl := Option.some.inj hm
    exact absurd h0 c4
  refine g_callVV (n := 1) (As := [.int x1]) (rest := []) sameC X Z (nX6_requireKey_c l e1 rfl) (oX6 k160) rfl (gooV mB307 mB308 mB309 mB285 mB299) rfl (by decide +kernel) rfl ⟨Nat.le_of_ble_eq_true rfl, Nat.le_of_ble_eq_true rfl⟩ ⟨Nat.le_of_ble_eq_true rfl, Nat.le_of_ble_eq_true rfl⟩ hl.1 rfl (Nat.le_of_ble_eq_true rfl) dX6_valueAt_2 (fun H locs Z => ?_)
  refine lv_aload_n hx hb dX6_valueAt_5 rfl (lv_at hl 0 rfl) ?_
  refine lv_iload_n hx hb dX6_valueAt_6 rfl (lv_at hl 2 rfl) ?_
  rcases sReq_some hm with ⟨e5, hm⟩ | ⟨ec7, c8, e5, hm⟩
  rotate_left
  · obtain rfl := Option.some.inj hm
    exact absurd h0 c8
  refine g_callVV (n := 1) (As := [.int x2]) (rest := []) sameC X Z (nX6_requireNotNegative_c l e5 rfl) (oX6 k160) rfl (gooV mB362 mB363 mB364 mB285 mB358) rfl (by decide +kernel) rfl ⟨Nat.le_of_ble_eq_true rfl, Nat.le_of_ble_eq_true rfl⟩ ⟨Nat.le_of_ble_eq_true rfl, Nat.le_of_ble_eq_true rfl⟩ hl.1 rfl (Nat.le_of_ble_eq_true rfl) dX6_valueAt_7 (fun H locs Z => ?_)
  refine lv_aload_n hx hb dX6_valueAt_10 rfl (lv_at hl 0 rfl) ?_
  refine g_get (j := 0) (v := .ref (G.1 0)) X Z (oX6 k160) (iB6 _) rfl (by decide) rfl (List.mem_cons_of_mem _ mB260) rfl dX6_valueAt_11 ?_
  refine g_get (j := 4) (v := .ref (G.1 (0 + 5))) X Z (oX2 k0) (iB2 _) rfl (by decide) rfl (List.mem_cons_of_mem _ mB361) rfl dX6_valueAt_14 ?_
  refine lv_iload_n hx hb dX6_valueAt_17 rfl (lv_at hl 1 rfl) ?_
  refine lv_iload_n hx hb dX6_valueAt_18 rfl (lv_at hl 2 rfl) ?_
  obtain ⟨r11, e9, hm⟩ := sBi_some hm
  refine g_callVI (n := 2) (As := [.int x1, .int x2]) (rest := []) sameC X Z (cX5_valueOf_c l (k24 k0) e9) (oX5 (k24 k0)) rfl (gooV mB368 mB369 mB370 mB26 mB254) rfl (by decide +kernel) rfl ⟨Nat.le_of_ble_eq_true rfl, Nat.le_of_ble_eq_true rfl⟩ ⟨Nat.le_of_ble_eq_true rfl, Nat.le_of_ble_eq_true rfl⟩ hl.1 rfl (Nat.le_of_ble_eq_true rfl) dX6_valueAt_19 (fun w10 H locs Z => ?_)
  obtain rfl := Option.some.inj hm
  exact kI _ _ _ _ dX6_valueAt_22 Z (vp_nar_int _)
theorem nX6_valueAt_c (l : Launch) {G : LY} {g : Mem} {n : Nat} {x1 : Int32} {x2 : Int32} {r : Nat × Int32} (hm : sX6_valueAt n g x1 x2 = some r) (h0 : r.1 = 0) : cI l yX6_valueAt wmX6_valueAt 7 111 .int wC G [.ref (G.1 160), .int x1, .int x2] g r.2 g :=
  mk_cI sameC (by decide +kernel) rfl (Nat.le_of_ble_eq_true rfl) (fun p e s m args below meth c A Q ls X kI hl Z => pX6_valueAt_0 X h0 kI x1 x2 _ _ ls Z hl hm)
abbrev wmX6_replayedValueAt : List Cond := Cond.code yX6_replayedValueAt cX6_replayedValueAt 3 (some .int) :: wA0
set_option maxHeartbeats 4000000 in
set_option maxRecDepth 100000 in
theorem pX6_replayedValueAt_0 (X : gC p s m args meth c cX6_replayedValueAt 3 wmX6_replayedValueAt yX6_replayedValueAt.cls (some .int) G A) {n : Nat} {g : Mem} {r : Nat × Int32} (h0 : r.1 = 0) (kI : ∀ (pc : Nat) (ls : Array Slot) (H : Heap) (locs : List Loc), decode cX6_replayedValueAt pc = .ok (.ireturn, 1) → WS wC G g A s.heap H locs → narrow .int (.int r.2) = .int r.2 → W p l e { frames := 7, cells := 0, slots := 0, locals := 111 } s m args below meth c H locs 0 0 Q (F0 m pc ls [.int r.2])) : ∀ (x1 : Int32) (x2 : Int32) (H : Heap) (locs : List Loc) (ls : Array Slot), WS wC G g A s.heap H locs → lv_has ls 3 [(0, .ref (G.1 160)), (1, .int x1), (2, .int x2)] → sX6_replayedValueAt n g x1 x2 = some r → W p l e { frames := 7, cells := 0, slots := 0, locals := 111 } s m args below meth c H locs 0 0 Q (F0 m 0 ls []) := by
  have hx := X.1
  have hb := X.2.1
  intro x1 x2 H locs ls Z hl hm
  unfold sX6_replayedValueAt at hm
  refine lv_aload_n hx hb dX6_replayedValueAt_0 rfl (lv_at hl 0 rfl) ?_
  refine lv_iload_n hx hb dX6_replayedValueAt_1 rfl (lv_at hl 1 rfl) ?_
  rcases sReq_some hm with ⟨e1, hm⟩ | ⟨ec3, c4, e1, hm⟩
  rotate_left
  · obtain rfl := Option.some.inj hm
    exact absurd h0 c4
  refine g_callVV (n := 1) (As := [.int x1]) (rest := []) sameC X Z (nX6_requireKey_c l e1 rfl) (oX6 k160) rfl (gooV mB307 mB308 mB309 mB285 mB299) rfl (by decide +kernel) rfl ⟨Nat.le_of_ble_eq_true rfl, Nat.le_of_ble_eq_true rfl⟩ ⟨Nat.le_of_ble_eq_true rfl, Nat.le_of_ble_eq_true rfl⟩ hl.1 rfl (Nat.le_of_ble_eq_true rfl) dX6_replayedValueAt_2 (fun H locs Z => ?_)
  refine lv_aload_n hx hb dX6_replayedValueAt_5 rfl (lv_at hl 0 rfl) ?_
  refine lv_iload_n hx hb dX6_replayedValueAt_6 rfl (lv_at hl 2 rfl) ?_
  rcases sReq_some hm with ⟨e5, hm⟩ | ⟨ec7, c8, e5, hm⟩
  rotate_left
  · obtain rfl := Option.some.inj hm
    exact absurd h0 c8
  refine g_callVV (n := 1) (As := [.int x2]) (rest := []) sameC X Z (nX6_requireNotNegative_c l e5 rfl) (oX6 k160) rfl (gooV mB362 mB363 mB364 mB285 mB358) rfl (by decide +kernel) rfl ⟨Nat.le_of_ble_eq_true rfl, Nat.le_of_ble_eq_true rfl⟩ ⟨Nat.le_of_ble_eq_true rfl, Nat.le_of_ble_eq_true rfl⟩ hl.1 rfl (Nat.le_of_ble_eq_true rfl) dX6_replayedValueAt_7 (fun H locs Z => ?_)
  refine lv_aload_n hx hb dX6_replayedValueAt_10 rfl (lv_at hl 0 rfl) ?_
  refine g_get (j := 0) (v := .ref (G.1 0)) X Z (oX6 k160) (iB6 _) rfl (by decide) rfl (List.mem_cons_of_mem _ mB260) rfl dX6_replayedValueAt_11 ?_
  refine g_get (j := 5) (v := .ref (G.1 (0 + 9))) X Z (oX2 k0) (iB2 _) rfl (by decide) rfl (List.mem_cons_of_mem _ mB297) rfl dX6_replayedValueAt_14 ?_
  refine lv_iload_n hx hb dX6_replayedValueAt_17 rfl (lv_at hl 1 rfl) ?_
  refine lv_iload_n hx hb dX6_replayedValueAt_18 rfl (lv_at hl 2 rfl) ?_
  obtain ⟨r11, e9, hm⟩ := sBi_some hm
  refine g_callVI (n := 2) (As := [.int x1, .int x2]) (rest := []) sameC X Z (cX4_replay_c l (k25 k0) e9) (oX4 (k25 k0)) rfl (gooV mB402 mB403 mB404 mB30 mB245) rfl (by decide +kernel) rfl ⟨Nat.le_of_ble_eq_true rfl, Nat.le_of_ble_eq_true rfl⟩ ⟨Nat.le_of_ble_eq_true rfl, Nat.le_of_ble_eq_true rfl⟩ hl.1 rfl (Nat.le_of_ble_eq_true rfl) dX6_replayedValueAt_19 (fun w10 H locs Z => ?_)
  obtain rfl := Option.some.inj hm
  exact kI _ _ _ _ dX6_replayedValueAt_22 Z (vp_nar_int _)
theorem nX6_replayedValueAt_c (l : Launch) {G : LY} {g : Mem} {n : Nat} {x1 : Int32} {x2 : Int32} {r : Nat × Int32} (hm : sX6_replayedValueAt n g x1 x2 = some r) (h0 : r.1 = 0) : cI l yX6_replayedValueAt wmX6_replayedValueAt 7 111 .int wC G [.ref (G.1 160), .int x1, .int x2] g r.2 g :=
  mk_cI sameC (by decide +kernel) rfl (Nat.le_of_ble_eq_true rfl) (fun p e s m args below meth c A Q ls X kI hl Z => pX6_replayedValueAt_0 X h0 kI x1 x2 _ _ ls Z hl hm)
abbrev wmX6_state : List Cond := Cond.code yX6_state cX6_state 2 (some .int) :: wA0
set_option maxHeartbeats 4000000 in
set_option maxRecDepth 100000 in
theorem pX6_state_0 (X : gC p s m args meth c cX6_state 2 wmX6_state yX6_state.cls (some .int) G A) {g : Mem} {r : Nat × Int32} (h0 : r.1 = 0) (kI : ∀ (pc : Nat) (ls : Array Slot) (H : Heap) (locs : List Loc), decode cX6_state pc = .ok (.ireturn, 1) → WS wC G g A s.heap H locs → narrow .int (.int r.2) = .int r.2 → W p l e { frames := 7, cells := 0, slots := 0, locals := 111 } s m args below meth c H locs 0 0 Q (F0 m pc ls [.int r.2])) : ∀ (x1 : Int32) (H : Heap) (locs : List Loc) (ls : Array Slot), WS wC G g A s.heap H locs → lv_has ls 2 [(0, .ref (G.1 160)), (1, .int x1)] → sX6_state g x1 = some r → W p l e { frames := 7, cells := 0, slots := 0, locals := 111 } s m args below meth c H locs 0 0 Q (F0 m 0 ls []) := by
  have hx := X.1
  have hb := X.2.1
  intro x1 H locs ls Z hl hm
  unfold sX6_state at hm
  refine lv_aload_n hx hb dX6_state_0 rfl (lv_at hl 0 rfl) ?_
  refine lv_iload_n hx hb dX6_state_1 rfl (lv_at hl 1 rfl) ?_
  rcases sReq_some hm with ⟨e1, hm⟩ | ⟨ec3, c4, e1, hm⟩
  rotate_left
  · obtain rfl := Option.some.inj hm
    exact absurd h0 c4
  refine g_callVV (n := 1) (As := [.int x1]) (rest := []) sameC X Z (nX6_requireTransaction_c l e1 rfl) (oX6 k160) rfl (gooV mB304 mB305 mB306 mB285 mB296) rfl (by decide +kernel) rfl ⟨Nat.le_of_ble_eq_true rfl, Nat.le_of_ble_eq_true rfl⟩ ⟨Nat.le_of_ble_eq_true rfl, Nat.le_of_ble_eq_true rfl⟩ hl.1 rfl (Nat.le_of_ble_eq_true rfl) dX6_state_2 (fun H locs Z => ?_)
  refine lv_aload_n hx hb dX6_state_5 rfl (lv_at hl 0 rfl) ?_
  refine g_get (j := 0) (v := .ref (G.1 0)) X Z (oX6 k160) (iB6 _) rfl (by decide) rfl (List.mem_cons_of_mem _ mB260) rfl dX6_state_6 ?_
  refine g_get (j := 5) (v := .ref (G.1 (0 + 9))) X Z (oX2 k0) (iB2 _) rfl (by decide) rfl (List.mem_cons_of_mem _ mB297) rfl dX6_state_9 ?_
  refine g_get (j := 2) (v := .ref (G.1 ((0 + 9) + 2))) X Z (oX4 (k25 k0)) (iB4 _) rfl (by decide) rfl (List.mem_cons_of_mem _ mB383) rfl dX6_state_12 ?_
  refine lv_iload_n hx hb dX6_state_15 rfl (lv_at hl 1 rfl) ?_
  obtain ⟨b5, hm⟩ := sIdx_some hm
  refine g_iald X Z (aI (k42 (k25 k0))) b5 dX6_state_16 ?_
  obtain rfl := Option.some.inj hm
  exact kI _ _ _ _ dX6_state_17 Z (vp_nar_int _)
theorem nX6_state_c (l : Launch) {G : LY} {g : Mem} {x1 : Int32} {r : Nat × Int32} (hm : sX6_state g x1 = some r) (h0 : r.1 = 0) : cI l yX6_state wmX6_state 7 111 .int wC G [.ref (G.1 160), .int x1] g r.2 g :=
  mk_cI sameC (by decide +kernel) rfl (Nat.le_of_ble_eq_true rfl) (fun p e s m args below meth c A Q ls X kI hl Z => pX6_state_0 X h0 kI x1 _ _ ls Z hl hm)
abbrev wmX6_timestamp : List Cond := Cond.code yX6_timestamp cX6_timestamp 2 (some .int) :: wA0
set_option maxHeartbeats 4000000 in
set_option maxRecDepth 100000 in
theorem pX6_timestamp_0 (X : gC p s m args meth c cX6_timestamp 2 wmX6_timestamp yX6_timestamp.cls (some .int) G A) {g : Mem} {r : Nat × Int32} (h0 : r.1 = 0) (kI : ∀ (pc : Nat) (ls : Array Slot) (H : Heap) (locs : List Loc), decode cX6_timestamp pc = .ok (.ireturn, 1) → WS wC G g A s.heap H locs → narrow .int (.int r.2) = .int r.2 → W p l e { frames := 7, cells := 0, slots := 0, locals := 111 } s m args below meth c H locs 0 0 Q (F0 m pc ls [.int r.2])) : ∀ (x1 : Int32) (H : Heap) (locs : List Loc) (ls : Array Slot), WS wC G g A s.heap H locs → lv_has ls 2 [(0, .ref (G.1 160)), (1, .int x1)] → sX6_timestamp g x1 = some r → W p l e { frames := 7, cells := 0, slots := 0, locals := 111 } s m args below meth c H locs 0 0 Q (F0 m 0 ls []) := by
  have hx := X.1
  have hb := X.2.1
  intro x1 H locs ls Z hl hm
  unfold sX6_timestamp at hm
  refine lv_aload_n hx hb dX6_timestamp_0 rfl (lv_at hl 0 rfl) ?_
  refine lv_iload_n hx hb dX6_timestamp_1 rfl (lv_at hl 1 rfl) ?_
  rcases sReq_some hm with ⟨e1, hm⟩ | ⟨ec3, c4, e1, hm⟩
  rotate_left
  · obtain rfl := Option.some.inj hm
    exact absurd h0 c4
  refine g_callVV (n := 1) (As := [.int x1]) (rest := []) sameC X Z (nX6_requireTransaction_c l e1 rfl) (oX6 k160) rfl (gooV mB304 mB305 mB306 mB285 mB296) rfl (by decide +kernel) rfl ⟨Nat.le_of_ble_eq_true rfl, Nat.le_of_ble_eq_true rfl⟩ ⟨Nat.le_of_ble_eq_true rfl, Nat.le_of_ble_eq_true rfl⟩ hl.1 rfl (Nat.le_of_ble_eq_true rfl) dX6_timestamp_2 (fun H locs Z => ?_)
  refine lv_aload_n hx hb dX6_timestamp_5 rfl (lv_at hl 0 rfl) ?_
  refine g_get (j := 0) (v := .ref (G.1 0)) X Z (oX6 k160) (iB6 _) rfl (by decide) rfl (List.mem_cons_of_mem _ mB260) rfl dX6_timestamp_6 ?_
  refine g_get (j := 5) (v := .ref (G.1 (0 + 9))) X Z (oX2 k0) (iB2 _) rfl (by decide) rfl (List.mem_cons_of_mem _ mB297) rfl dX6_timestamp_9 ?_
  refine g_get (j := 3) (v := .ref (G.1 ((0 + 9) + 3))) X Z (oX4 (k25 k0)) (iB4 _) rfl (by decide) rfl (List.mem_cons_of_mem _ mB385) rfl dX6_timestamp_12 ?_
  refine lv_iload_n hx hb dX6_timestamp_15 rfl (lv_at hl 1 rfl) ?_
  obtain ⟨b5, hm⟩ := sIdx_some hm
  refine g_iald X Z (aI (k43 (k25 k0))) b5 dX6_timestamp_16 ?_
  obtain rfl := Option.some.inj hm
  exact kI _ _ _ _ dX6_timestamp_17 Z (vp_nar_int _)
theorem nX6_timestamp_c (l : Launch) {G : LY} {g : Mem} {x1 : Int32} {r : Nat × Int32} (hm : sX6_timestamp g x1 = some r) (h0 : r.1 = 0) : cI l yX6_timestamp wmX6_timestamp 7 111 .int wC G [.ref (G.1 160), .int x1] g r.2 g :=
  mk_cI sameC (by decide +kernel) rfl (Nat.le_of_ble_eq_true rfl) (fun p e s m args below meth c A Q ls X kI hl Z => pX6_timestamp_0 X h0 kI x1 _ _ ls Z hl hm)
abbrev wmX6_requestTime : List Cond := Cond.code yX6_requestTime cX6_requestTime 2 (some .int) :: wA0
set_option maxHeartbeats 4000000 in
set_option maxRecDepth 100000 in
theorem pX6_requestTime_0 (X : gC p s m args meth c cX6_requestTime 2 wmX6_requestTime yX6_requestTime.cls (some .int) G A) {g : Mem} {r : Nat × Int32} (h0 : r.1 = 0) (kI : ∀ (pc : Nat) (ls : Array Slot) (H : Heap) (locs : List Loc), decode cX6_requestTime pc = .ok (.ireturn, 1) → WS wC G g A s.heap H locs → narrow .int (.int r.2) = .int r.2 → W p l e { frames := 7, cells := 0, slots := 0, locals := 111 } s m args below meth c H locs 0 0 Q (F0 m pc ls [.int r.2])) : ∀ (x1 : Int32) (H : Heap) (locs : List Loc) (ls : Array Slot), WS wC G g A s.heap H locs → lv_has ls 2 [(0, .ref (G.1 160)), (1, .int x1)] → sX6_requestTime g x1 = some r → W p l e { frames := 7, cells := 0, slots := 0, locals := 111 } s m args below meth c H locs 0 0 Q (F0 m 0 ls []) := by
  have hx := X.1
  have hb := X.2.1
  intro x1 H locs ls Z hl hm
  unfold sX6_requestTime at hm
  refine lv_aload_n hx hb dX6_requestTime_0 rfl (lv_at hl 0 rfl) ?_
  refine lv_iload_n hx hb dX6_requestTime_1 rfl (lv_at hl 1 rfl) ?_
  rcases sReq_some hm with ⟨e1, hm⟩ | ⟨ec3, c4, e1, hm⟩
  rotate_left
  · obtain rfl := Option.some.inj hm
    exact absurd h0 c4
  refine g_callVV (n := 1) (As := [.int x1]) (rest := []) sameC X Z (nX6_requireTransaction_c l e1 rfl) (oX6 k160) rfl (gooV mB304 mB305 mB306 mB285 mB296) rfl (by decide +kernel) rfl ⟨Nat.le_of_ble_eq_true rfl, Nat.le_of_ble_eq_true rfl⟩ ⟨Nat.le_of_ble_eq_true rfl, Nat.le_of_ble_eq_true rfl⟩ hl.1 rfl (Nat.le_of_ble_eq_true rfl) dX6_requestTime_2 (fun H locs Z => ?_)
  refine lv_aload_n hx hb dX6_requestTime_5 rfl (lv_at hl 0 rfl) ?_
  refine g_get (j := 0) (v := .ref (G.1 0)) X Z (oX6 k160) (iB6 _) rfl (by decide) rfl (List.mem_cons_of_mem _ mB260) rfl dX6_requestTime_6 ?_
  refine g_get (j := 5) (v := .ref (G.1 (0 + 9))) X Z (oX2 k0) (iB2 _) rfl (by decide) rfl (List.mem_cons_of_mem _ mB297) rfl dX6_requestTime_9 ?_
  refine g_get (j := 4) (v := .ref (G.1 ((0 + 9) + 4))) X Z (oX4 (k25 k0)) (iB4 _) rfl (by decide) rfl (List.mem_cons_of_mem _ mB387) rfl dX6_requestTime_12 ?_
  refine lv_iload_n hx hb dX6_requestTime_15 rfl (lv_at hl 1 rfl) ?_
  obtain ⟨b5, hm⟩ := sIdx_some hm
  refine g_iald X Z (aI (k44 (k25 k0))) b5 dX6_requestTime_16 ?_
  obtain rfl := Option.some.inj hm
  exact kI _ _ _ _ dX6_requestTime_17 Z (vp_nar_int _)
theorem nX6_requestTime_c (l : Launch) {G : LY} {g : Mem} {x1 : Int32} {r : Nat × Int32} (hm : sX6_requestTime g x1 = some r) (h0 : r.1 = 0) : cI l yX6_requestTime wmX6_requestTime 7 111 .int wC G [.ref (G.1 160), .int x1] g r.2 g :=
  mk_cI sameC (by decide +kernel) rfl (Nat.le_of_ble_eq_true rfl) (fun p e s m args below meth c A Q ls X kI hl Z => pX6_requestTime_0 X h0 kI x1 _ _ ls Z hl hm)
abbrev wmX6_commitTime : List Cond := Cond.code yX6_commitTime cX6_commitTime 2 (some .int) :: wA0
set_option maxHeartbeats 4000000 in
set_option maxRecDepth 100000 in
theorem pX6_commitTime_0 (X : gC p s m args meth c cX6_commitTime 2 wmX6_commitTime yX6_commitTime.cls (some .int) G A) {g : Mem} {r : Nat × Int32} (h0 : r.1 = 0) (kI : ∀ (pc : Nat) (ls : Array Slot) (H : Heap) (locs : List Loc), decode cX6_commitTime pc = .ok (.ireturn, 1) → WS wC G g A s.heap H locs → narrow .int (.int r.2) = .int r.2 → W p l e { frames := 7, cells := 0, slots := 0, locals := 111 } s m args below meth c H locs 0 0 Q (F0 m pc ls [.int r.2])) : ∀ (x1 : Int32) (H : Heap) (locs : List Loc) (ls : Array Slot), WS wC G g A s.heap H locs → lv_has ls 2 [(0, .ref (G.1 160)), (1, .int x1)] → sX6_commitTime g x1 = some r → W p l e { frames := 7, cells := 0, slots := 0, locals := 111 } s m args below meth c H locs 0 0 Q (F0 m 0 ls []) := by
  have hx := X.1
  have hb := X.2.1
  intro x1 H locs ls Z hl hm
  unfold sX6_commitTime at hm
  refine lv_aload_n hx hb dX6_commitTime_0 rfl (lv_at hl 0 rfl) ?_
  refine lv_iload_n hx hb dX6_commitTime_1 rfl (lv_at hl 1 rfl) ?_
  rcases sReq_some hm with ⟨e1, hm⟩ | ⟨ec3, c4, e1, hm⟩
  rotate_left
  · obtain rfl := Option.some.inj hm
    exact absurd h0 c4
  refine g_callVV (n := 1) (As := [.int x1]) (rest := []) sameC X Z (nX6_requireTransaction_c l e1 rfl) (oX6 k160) rfl (gooV mB304 mB305 mB306 mB285 mB296) rfl (by decide +kernel) rfl ⟨Nat.le_of_ble_eq_true rfl, Nat.le_of_ble_eq_true rfl⟩ ⟨Nat.le_of_ble_eq_true rfl, Nat.le_of_ble_eq_true rfl⟩ hl.1 rfl (Nat.le_of_ble_eq_true rfl) dX6_commitTime_2 (fun H locs Z => ?_)
  refine lv_aload_n hx hb dX6_commitTime_5 rfl (lv_at hl 0 rfl) ?_
  refine g_get (j := 0) (v := .ref (G.1 0)) X Z (oX6 k160) (iB6 _) rfl (by decide) rfl (List.mem_cons_of_mem _ mB260) rfl dX6_commitTime_6 ?_
  refine g_get (j := 5) (v := .ref (G.1 (0 + 9))) X Z (oX2 k0) (iB2 _) rfl (by decide) rfl (List.mem_cons_of_mem _ mB297) rfl dX6_commitTime_9 ?_
  refine g_get (j := 5) (v := .ref (G.1 ((0 + 9) + 5))) X Z (oX4 (k25 k0)) (iB4 _) rfl (by decide) rfl (List.mem_cons_of_mem _ mB389) rfl dX6_commitTime_12 ?_
  refine lv_iload_n hx hb dX6_commitTime_15 rfl (lv_at hl 1 rfl) ?_
  obtain ⟨b5, hm⟩ := sIdx_some hm
  refine g_iald X Z (aI (k45 (k25 k0))) b5 dX6_commitTime_16 ?_
  obtain rfl := Option.some.inj hm
  exact kI _ _ _ _ dX6_commitTime_17 Z (vp_nar_int _)
theorem nX6_commitTime_c (l : Launch) {G : LY} {g : Mem} {x1 : Int32} {r : Nat × Int32} (hm : sX6_commitTime g x1 = some r) (h0 : r.1 = 0) : cI l yX6_commitTime wmX6_commitTime 7 111 .int wC G [.ref (G.1 160), .int x1] g r.2 g :=
  mk_cI sameC (by decide +kernel) rfl (Nat.le_of_ble_eq_true rfl) (fun p e s m args below meth c A Q ls X kI hl Z => pX6_commitTime_0 X h0 kI x1 _ _ ls Z hl hm)
abbrev wmX6_recordedTimestamp : List Cond := Cond.code yX6_recordedTimestamp cX6_recordedTimestamp 4 (some .int) :: wA0
set_option maxHeartbeats 4000000 in
set_option maxRecDepth 100000 in
theorem pX6_recordedTimestamp_0 (X : gC p s m args meth c cX6_recordedTimestamp 4 wmX6_recordedTimestamp yX6_recordedTimestamp.cls (some .int) G A) {g : Mem} {r : Nat × Int32} (h0 : r.1 = 0) (kI : ∀ (pc : Nat) (ls : Array Slot) (H : Heap) (locs : List Loc), decode cX6_recordedTimestamp pc = .ok (.ireturn, 1) → WS wC G g A s.heap H locs → narrow .int (.int r.2) = .int r.2 → W p l e { frames := 7, cells := 0, slots := 0, locals := 111 } s m args below meth c H locs 0 0 Q (F0 m pc ls [.int r.2])) : ∀ (x1 : Int32) (x2 : Int32) (H : Heap) (locs : List Loc) (ls : Array Slot), WS wC G g A s.heap H locs → lv_has ls 4 [(0, .ref (G.1 160)), (1, .int x1), (2, .int x2)] → sX6_recordedTimestamp g x1 x2 = some r → W p l e { frames := 7, cells := 0, slots := 0, locals := 111 } s m args below meth c H locs 0 0 Q (F0 m 0 ls []) := by
  have hx := X.1
  have hb := X.2.1
  intro x1 x2 H locs ls Z hl hm
  unfold sX6_recordedTimestamp at hm
  refine lv_aload_n hx hb dX6_recordedTimestamp_0 rfl (lv_at hl 0 rfl) ?_
  refine lv_iload_n hx hb dX6_recordedTimestamp_1 rfl (lv_at hl 1 rfl) ?_
  rcases sReq_some hm with ⟨e1, hm⟩ | ⟨ec3, c4, e1, hm⟩
  rotate_left
  · obtain rfl := Option.some.inj hm
    exact absurd h0 c4
  refine g_callVV (n := 1) (As := [.int x1]) (rest := []) sameC X Z (nX6_requireTransaction_c l e1 rfl) (oX6 k160) rfl (gooV mB304 mB305 mB306 mB285 mB296) rfl (by decide +kernel) rfl ⟨Nat.le_of_ble_eq_true rfl, Nat.le_of_ble_eq_true rfl⟩ ⟨Nat.le_of_ble_eq_true rfl, Nat.le_of_ble_eq_true rfl⟩ hl.1 rfl (Nat.le_of_ble_eq_true rfl) dX6_recordedTimestamp_2 (fun H locs Z => ?_)
  refine lv_aload_n hx hb dX6_recordedTimestamp_5 rfl (lv_at hl 0 rfl) ?_
  refine lv_iload_n hx hb dX6_recordedTimestamp_6 rfl (lv_at hl 2 rfl) ?_
  rcases sReq_some hm with ⟨e5, hm⟩ | ⟨ec7, c8, e5, hm⟩
  rotate_left
  · obtain rfl := Option.some.inj hm
    exact absurd h0 c8
  refine g_callVV (n := 1) (As := [.int x2]) (rest := []) sameC X Z (nX6_requireKey_c l e5 rfl) (oX6 k160) rfl (gooV mB307 mB308 mB309 mB285 mB299) rfl (by decide +kernel) rfl ⟨Nat.le_of_ble_eq_true rfl, Nat.le_of_ble_eq_true rfl⟩ ⟨Nat.le_of_ble_eq_true rfl, Nat.le_of_ble_eq_true rfl⟩ hl.1 rfl (Nat.le_of_ble_eq_true rfl) dX6_recordedTimestamp_7 (fun H locs Z => ?_)
  refine lv_aload_n hx hb dX6_recordedTimestamp_10 rfl (lv_at hl 0 rfl) ?_
  refine g_get (j := 0) (v := .ref (G.1 0)) X Z (oX6 k160) (iB6 _) rfl (by decide) rfl (List.mem_cons_of_mem _ mB260) rfl dX6_recordedTimestamp_11 ?_
  refine g_get (j := 5) (v := .ref (G.1 (0 + 9))) X Z (oX2 k0) (iB2 _) rfl (by decide) rfl (List.mem_cons_of_mem _ mB297) rfl dX6_recordedTimestamp_14 ?_
  refine lv_iload_n hx hb dX6_recordedTimestamp_17 rfl (lv_at hl 1 rfl) ?_
  refine lv_iload_n hx hb dX6_recordedTimestamp_18 rfl (lv_at hl 2 rfl) ?_
  obtain ⟨r11, e9, hm⟩ := sBi_some hm
  refine g_callVI (n := 2) (As := [.int x1, .int x2]) (rest := []) sameC X Z (cX4_recordedVersion_c l (k25 k0) e9) (oX4 (k25 k0)) rfl (gooV mB392 mB142 mB143 mB30 mB126) rfl (by decide +kernel) rfl ⟨Nat.le_of_ble_eq_true rfl, Nat.le_of_ble_eq_true rfl⟩ ⟨Nat.le_of_ble_eq_true rfl, Nat.le_of_ble_eq_true rfl⟩ hl.1 rfl (Nat.le_of_ble_eq_true rfl) dX6_recordedTimestamp_19 (fun w10 H locs Z => ?_)
  refine lv_istore_n (lv' := [(3, .int r11), (0, .ref (G.1 160)), (1, .int x1), (2, .int x2)]) hx hb dX6_recordedTimestamp_22 rfl hl (by decide) rfl (fun ls hl => ?_)
  refine lv_iload_n hx hb dX6_recordedTimestamp_23 rfl (lv_at hl 0 rfl) ?_
  refine lv_iconst (v := (-1)) hx hb dX6_recordedTimestamp_24 (by decide) ?_
  refine lv_icmp_ne (tgt := 32) hx hb dX6_recordedTimestamp_25 (by decide) (fun c12 => ?_) (fun c12 => ?_)
  · replace hm := (if_neg c12).symm.trans hm
    refine lv_aload_n hx hb dX6_recordedTimestamp_32 rfl (lv_at hl 1 rfl) ?_
    refine g_get (j := 0) (v := .ref (G.1 0)) X Z (oX6 k160) (iB6 _) rfl (by decide) rfl (List.mem_cons_of_mem _ mB260) rfl dX6_recordedTimestamp_33 ?_
    refine g_get (j := 4) (v := .ref (G.1 (0 + 5))) X Z (oX2 k0) (iB2 _) rfl (by decide) rfl (List.mem_cons_of_mem _ mB361) rfl dX6_recordedTimestamp_36 ?_
    refine lv_iload_n hx hb dX6_recordedTimestamp_39 rfl (lv_at hl 3 rfl) ?_
    refine lv_iload_n hx hb dX6_recordedTimestamp_40 rfl (lv_at hl 0 rfl) ?_
    obtain ⟨r15, e13, hm⟩ := sBi_some hm
    refine g_callVI (n := 2) (As := [.int x2, .int r11]) (rest := []) sameC X Z (cX5_timestampOf_c l (k24 k0) e13) (oX5 (k24 k0)) rfl (gooV mB393 mB187 mB188 mB26 mB172) rfl (by decide +kernel) rfl ⟨Nat.le_of_ble_eq_true rfl, Nat.le_of_ble_eq_true rfl⟩ ⟨Nat.le_of_ble_eq_true rfl, Nat.le_of_ble_eq_true rfl⟩ hl.1 rfl (Nat.le_of_ble_eq_true rfl) dX6_recordedTimestamp_41 (fun w14 H locs Z => ?_)
    obtain rfl := Option.some.inj hm
    exact kI _ _ _ _ dX6_recordedTimestamp_44 Z (vp_nar_int _)
  · replace hm := (if_pos c12).symm.trans hm
    refine lv_iconst (v := (-1)) hx hb dX6_recordedTimestamp_28 (by decide) ?_
    refine lv_goto (tgt := 44) hx hb dX6_recordedTimestamp_29 (by decide) ?_
    obtain rfl := Option.some.inj hm
    exact kI _ _ _ _ dX6_recordedTimestamp_44 Z (vp_nar_int _)
theorem nX6_recordedTimestamp_c (l : Launch) {G : LY} {g : Mem} {x1 : Int32} {x2 : Int32} {r : Nat × Int32} (hm : sX6_recordedTimestamp g x1 x2 = some r) (h0 : r.1 = 0) : cI l yX6_recordedTimestamp wmX6_recordedTimestamp 7 111 .int wC G [.ref (G.1 160), .int x1, .int x2] g r.2 g :=
  mk_cI sameC (by decide +kernel) rfl (Nat.le_of_ble_eq_true rfl) (fun p e s m args below meth c A Q ls X kI hl Z => pX6_recordedTimestamp_0 X h0 kI x1 x2 _ _ ls Z hl hm)
abbrev wmX6_bufferedValue : List Cond := Cond.code yX6_bufferedValue cX6_bufferedValue 3 (some .int) :: wA0
set_option maxHeartbeats 4000000 in
set_option maxRecDepth 100000 in
theorem pX6_bufferedValue_0 (X : gC p s m args meth c cX6_bufferedValue 3 wmX6_bufferedValue yX6_bufferedValue.cls (some .int) G A) {g : Mem} {r : Nat × Int32} (h0 : r.1 = 0) (kI : ∀ (pc : Nat) (ls : Array Slot) (H : Heap) (locs : List Loc), decode cX6_bufferedValue pc = .ok (.ireturn, 1) → WS wC G g A s.heap H locs → narrow .int (.int r.2) = .int r.2 → W p l e { frames := 7, cells := 0, slots := 0, locals := 111 } s m args below meth c H locs 0 0 Q (F0 m pc ls [.int r.2])) : ∀ (x1 : Int32) (x2 : Int32) (H : Heap) (locs : List Loc) (ls : Array Slot), WS wC G g A s.heap H locs → lv_has ls 3 [(0, .ref (G.1 160)), (1, .int x1), (2, .int x2)] → sX6_bufferedValue g x1 x2 = some r → W p l e { frames := 7, cells := 0, slots := 0, locals := 111 } s m args below meth c H locs 0 0 Q (F0 m 0 ls []) := by
  have hx := X.1
  have hb := X.2.1
  intro x1 x2 H locs ls Z hl hm
  unfold sX6_bufferedValue at hm
  refine lv_aload_n hx hb dX6_bufferedValue_0 rfl (lv_at hl 0 rfl) ?_
  refine lv_iload_n hx hb dX6_bufferedValue_1 rfl (lv_at hl 1 rfl) ?_
  rcases sReq_some hm with ⟨e1, hm⟩ | ⟨ec3, c4, e1, hm⟩
  rotate_left
  · obtain rfl := Option.some.inj hm
    exact absurd h0 c4
  refine g_callVV (n := 1) (As := [.int x1]) (rest := []) sameC X Z (nX6_requireTransaction_c l e1 rfl) (oX6 k160) rfl (gooV mB304 mB305 mB306 mB285 mB296) rfl (by decide +kernel) rfl ⟨Nat.le_of_ble_eq_true rfl, Nat.le_of_ble_eq_true rfl⟩ ⟨Nat.le_of_ble_eq_true rfl, Nat.le_of_ble_eq_true rfl⟩ hl.1 rfl (Nat.le_of_ble_eq_true rfl) dX6_bufferedValue_2 (fun H locs Z => ?_)
  refine lv_aload_n hx hb dX6_bufferedValue_5 rfl (lv_at hl 0 rfl) ?_
  refine lv_iload_n hx hb dX6_bufferedValue_6 rfl (lv_at hl 2 rfl) ?_
  rcases sReq_some hm with ⟨e5, hm⟩ | ⟨ec7, c8, e5, hm⟩
  rotate_left
  · obtain rfl := Option.some.inj hm
    exact absurd h0 c8
  refine g_callVV (n := 1) (As := [.int x2]) (rest := []) sameC X Z (nX6_requireKey_c l e5 rfl) (oX6 k160) rfl (gooV mB307 mB308 mB309 mB285 mB299) rfl (by decide +kernel) rfl ⟨Nat.le_of_ble_eq_true rfl, Nat.le_of_ble_eq_true rfl⟩ ⟨Nat.le_of_ble_eq_true rfl, Nat.le_of_ble_eq_true rfl⟩ hl.1 rfl (Nat.le_of_ble_eq_true rfl) dX6_bufferedValue_7 (fun H locs Z => ?_)
  refine lv_aload_n hx hb dX6_bufferedValue_10 rfl (lv_at hl 0 rfl) ?_
  refine g_get (j := 0) (v := .ref (G.1 0)) X Z (oX6 k160) (iB6 _) rfl (by decide) rfl (List.mem_cons_of_mem _ mB260) rfl dX6_bufferedValue_11 ?_
  refine g_get (j := 5) (v := .ref (G.1 (0 + 9))) X Z (oX2 k0) (iB2 _) rfl (by decide) rfl (List.mem_cons_of_mem _ mB297) rfl dX6_bufferedValue_14 ?_
  refine lv_iload_n hx hb dX6_bufferedValue_17 rfl (lv_at hl 1 rfl) ?_
  refine lv_iload_n hx hb dX6_bufferedValue_18 rfl (lv_at hl 2 rfl) ?_
  obtain ⟨r11, e9, hm⟩ := sBi_some hm
  refine g_callVI (n := 2) (As := [.int x1, .int x2]) (rest := []) sameC X Z (cX4_bufferOf_c l (k25 k0) e9) (oX4 (k25 k0)) rfl (gooV mB391 mB132 mB133 mB30 mB123) rfl (by decide +kernel) rfl ⟨Nat.le_of_ble_eq_true rfl, Nat.le_of_ble_eq_true rfl⟩ ⟨Nat.le_of_ble_eq_true rfl, Nat.le_of_ble_eq_true rfl⟩ hl.1 rfl (Nat.le_of_ble_eq_true rfl) dX6_bufferedValue_19 (fun w10 H locs Z => ?_)
  obtain rfl := Option.some.inj hm
  exact kI _ _ _ _ dX6_bufferedValue_22 Z (vp_nar_int _)
theorem nX6_bufferedValue_c (l : Launch) {G : LY} {g : Mem} {x1 : Int32} {x2 : Int32} {r : Nat × Int32} (hm : sX6_bufferedValue g x1 x2 = some r) (h0 : r.1 = 0) : cI l yX6_bufferedValue wmX6_bufferedValue 7 111 .int wC G [.ref (G.1 160), .int x1, .int x2] g r.2 g :=
  mk_cI sameC (by decide +kernel) rfl (Nat.le_of_ble_eq_true rfl) (fun p e s m args below meth c A Q ls X kI hl Z => pX6_bufferedValue_0 X h0 kI x1 x2 _ _ ls Z hl hm)
abbrev wmX6_readerMark : List Cond := Cond.code yX6_readerMark cX6_readerMark 2 (some .int) :: wA0
set_option maxHeartbeats 4000000 in
set_option maxRecDepth 100000 in
theorem pX6_readerMark_0 (X : gC p s m args meth c cX6_readerMark 2 wmX6_readerMark yX6_readerMark.cls (some .int) G A) {n : Nat} {g : Mem} {r : Nat × Int32} (h0 : r.1 = 0) (kI : ∀ (pc : Nat) (ls : Array Slot) (H : Heap) (locs : List Loc), decode cX6_readerMark pc = .ok (.ireturn, 1) → WS wC G g A s.heap H locs → narrow .int (.int r.2) = .int r.2 → W p l e { frames := 7, cells := 0, slots := 0, locals := 111 } s m args below meth c H locs 0 0 Q (F0 m pc ls [.int r.2])) : ∀ (x1 : Int32) (H : Heap) (locs : List Loc) (ls : Array Slot), WS wC G g A s.heap H locs → lv_has ls 2 [(0, .ref (G.1 160)), (1, .int x1)] → sX6_readerMark n g x1 = some r → W p l e { frames := 7, cells := 0, slots := 0, locals := 111 } s m args below meth c H locs 0 0 Q (F0 m 0 ls []) := by
  have hx := X.1
  have hb := X.2.1
  intro x1 H locs ls Z hl hm
  unfold sX6_readerMark at hm
  refine lv_aload_n hx hb dX6_readerMark_0 rfl (lv_at hl 0 rfl) ?_
  refine lv_iload_n hx hb dX6_readerMark_1 rfl (lv_at hl 1 rfl) ?_
  rcases sReq_some hm with ⟨e1, hm⟩ | ⟨ec3, c4, e1, hm⟩
  rotate_left
  · obtain rfl := Option.some.inj hm
    exact absurd h0 c4
  refine g_callVV (n := 1) (As := [.int x1]) (rest := []) sameC X Z (nX6_requireKey_c l e1 rfl) (oX6 k160) rfl (gooV mB307 mB308 mB309 mB285 mB299) rfl (by decide +kernel) rfl ⟨Nat.le_of_ble_eq_true rfl, Nat.le_of_ble_eq_true rfl⟩ ⟨Nat.le_of_ble_eq_true rfl, Nat.le_of_ble_eq_true rfl⟩ hl.1 rfl (Nat.le_of_ble_eq_true rfl) dX6_readerMark_2 (fun H locs Z => ?_)
  refine lv_aload_n hx hb dX6_readerMark_5 rfl (lv_at hl 0 rfl) ?_
  refine g_get (j := 0) (v := .ref (G.1 0)) X Z (oX6 k160) (iB6 _) rfl (by decide) rfl (List.mem_cons_of_mem _ mB260) rfl dX6_readerMark_6 ?_
  refine g_get (j := 5) (v := .ref (G.1 (0 + 9))) X Z (oX2 k0) (iB2 _) rfl (by decide) rfl (List.mem_cons_of_mem _ mB297) rfl dX6_readerMark_9 ?_
  refine lv_iload_n hx hb dX6_readerMark_12 rfl (lv_at hl 1 rfl) ?_
  obtain ⟨r7, e5, hm⟩ := sBi_some hm
  refine g_callVI (n := 1) (As := [.int x1]) (rest := []) sameC X Z (cX4_greatestReaderTimestamp_c l (k25 k0) e5) (oX4 (k25 k0)) rfl (gooV mB410 mB190 mB191 mB30 mB173) rfl (by decide +kernel) rfl ⟨Nat.le_of_ble_eq_true rfl, Nat.le_of_ble_eq_true rfl⟩ ⟨Nat.le_of_ble_eq_true rfl, Nat.le_of_ble_eq_true rfl⟩ hl.1 rfl (Nat.le_of_ble_eq_true rfl) dX6_readerMark_13 (fun w6 H locs Z => ?_)
  obtain rfl := Option.some.inj hm
  exact kI _ _ _ _ dX6_readerMark_16 Z (vp_nar_int _)
theorem nX6_readerMark_c (l : Launch) {G : LY} {g : Mem} {n : Nat} {x1 : Int32} {r : Nat × Int32} (hm : sX6_readerMark n g x1 = some r) (h0 : r.1 = 0) : cI l yX6_readerMark wmX6_readerMark 7 111 .int wC G [.ref (G.1 160), .int x1] g r.2 g :=
  mk_cI sameC (by decide +kernel) rfl (Nat.le_of_ble_eq_true rfl) (fun p e s m args below meth c A Q ls X kI hl Z => pX6_readerMark_0 X h0 kI x1 _ _ ls Z hl hm)
abbrev wmX6_waitingWriter : List Cond := Cond.code yX6_waitingWriter cX6_waitingWriter 2 (some .int) :: wA0
set_option maxHeartbeats 4000000 in
set_option maxRecDepth 100000 in
theorem pX6_waitingWriter_0 (X : gC p s m args meth c cX6_waitingWriter 2 wmX6_waitingWriter yX6_waitingWriter.cls (some .int) G A) {n : Nat} {g : Mem} {r : Nat × Int32} (h0 : r.1 = 0) (kI : ∀ (pc : Nat) (ls : Array Slot) (H : Heap) (locs : List Loc), decode cX6_waitingWriter pc = .ok (.ireturn, 1) → WS wC G g A s.heap H locs → narrow .int (.int r.2) = .int r.2 → W p l e { frames := 7, cells := 0, slots := 0, locals := 111 } s m args below meth c H locs 0 0 Q (F0 m pc ls [.int r.2])) : ∀ (x1 : Int32) (H : Heap) (locs : List Loc) (ls : Array Slot), WS wC G g A s.heap H locs → lv_has ls 2 [(0, .ref (G.1 160)), (1, .int x1)] → sX6_waitingWriter n g x1 = some r → W p l e { frames := 7, cells := 0, slots := 0, locals := 111 } s m args below meth c H locs 0 0 Q (F0 m 0 ls []) := by
  have hx := X.1
  have hb := X.2.1
  intro x1 H locs ls Z hl hm
  unfold sX6_waitingWriter at hm
  refine lv_aload_n hx hb dX6_waitingWriter_0 rfl (lv_at hl 0 rfl) ?_
  refine lv_iload_n hx hb dX6_waitingWriter_1 rfl (lv_at hl 1 rfl) ?_
  rcases sReq_some hm with ⟨e1, hm⟩ | ⟨ec3, c4, e1, hm⟩
  rotate_left
  · obtain rfl := Option.some.inj hm
    exact absurd h0 c4
  refine g_callVV (n := 1) (As := [.int x1]) (rest := []) sameC X Z (nX6_requireKey_c l e1 rfl) (oX6 k160) rfl (gooV mB307 mB308 mB309 mB285 mB299) rfl (by decide +kernel) rfl ⟨Nat.le_of_ble_eq_true rfl, Nat.le_of_ble_eq_true rfl⟩ ⟨Nat.le_of_ble_eq_true rfl, Nat.le_of_ble_eq_true rfl⟩ hl.1 rfl (Nat.le_of_ble_eq_true rfl) dX6_waitingWriter_2 (fun H locs Z => ?_)
  refine lv_aload_n hx hb dX6_waitingWriter_5 rfl (lv_at hl 0 rfl) ?_
  refine g_get (j := 0) (v := .ref (G.1 0)) X Z (oX6 k160) (iB6 _) rfl (by decide) rfl (List.mem_cons_of_mem _ mB260) rfl dX6_waitingWriter_6 ?_
  refine g_get (j := 5) (v := .ref (G.1 (0 + 9))) X Z (oX2 k0) (iB2 _) rfl (by decide) rfl (List.mem_cons_of_mem _ mB297) rfl dX6_waitingWriter_9 ?_
  refine lv_iload_n hx hb dX6_waitingWriter_12 rfl (lv_at hl 1 rfl) ?_
  obtain ⟨r7, e5, hm⟩ := sBi_some hm
  refine g_callVI (n := 1) (As := [.int x1]) (rest := []) sameC X Z (cX4_findWaitingWriter_c l (k25 k0) e5) (oX4 (k25 k0)) rfl (gooV mB407 mB408 mB409 mB30 mB244) rfl (by decide +kernel) rfl ⟨Nat.le_of_ble_eq_true rfl, Nat.le_of_ble_eq_true rfl⟩ ⟨Nat.le_of_ble_eq_true rfl, Nat.le_of_ble_eq_true rfl⟩ hl.1 rfl (Nat.le_of_ble_eq_true rfl) dX6_waitingWriter_13 (fun w6 H locs Z => ?_)
  obtain rfl := Option.some.inj hm
  exact kI _ _ _ _ dX6_waitingWriter_16 Z (vp_nar_int _)
theorem nX6_waitingWriter_c (l : Launch) {G : LY} {g : Mem} {n : Nat} {x1 : Int32} {r : Nat × Int32} (hm : sX6_waitingWriter n g x1 = some r) (h0 : r.1 = 0) : cI l yX6_waitingWriter wmX6_waitingWriter 7 111 .int wC G [.ref (G.1 160), .int x1] g r.2 g :=
  mk_cI sameC (by decide +kernel) rfl (Nat.le_of_ble_eq_true rfl) (fun p e s m args below meth c A Q ls X kI hl Z => pX6_waitingWriter_0 X h0 kI x1 _ _ ls Z hl hm)
abbrev wmX6_safeTime : List Cond := Cond.code yX6_safeTime cX6_safeTime 1 (some .int) :: wA0
set_option maxHeartbeats 4000000 in
set_option maxRecDepth 100000 in
theorem bX6_safeTime_0 (X : gC p s m args meth c cX6_safeTime 1 wmX6_safeTime yX6_safeTime.cls (some .int) G A) {n : Nat} {g : Mem} {r : Int32} (kI : ∀ (pc : Nat) (ls : Array Slot) (H : Heap) (locs : List Loc), decode cX6_safeTime pc = .ok (.ireturn, 1) → WS wC G g A s.heap H locs → narrow .int (.int r) = .int r → W p l e { frames := 5, cells := 0, slots := 0, locals := 108 } s m args below meth c H locs 0 0 Q (F0 m pc ls [.int r])) : ∀ (H : Heap) (locs : List Loc) (ls : Array Slot), WS wC G g A s.heap H locs → lv_has ls 1 [(0, .ref (G.1 160))] → sX6_safeTime n g = some r → W p l e { frames := 5, cells := 0, slots := 0, locals := 108 } s m args below meth c H locs 0 0 Q (F0 m 0 ls []) := by
  have hx := X.1
  have hb := X.2.1
  intro H locs ls Z hl hm
  unfold sX6_safeTime at hm
  refine lv_aload_n hx hb dX6_safeTime_0 rfl (lv_at hl 0 rfl) ?_
  refine g_get (j := 0) (v := .ref (G.1 0)) X Z (oX6 k160) (iB6 _) rfl (by decide) rfl (List.mem_cons_of_mem _ mB260) rfl dX6_safeTime_1 ?_
  obtain ⟨r3, e1, hm⟩ := sBi_some hm
  refine g_callVI (n := 0) (As := []) (rest := []) sameC X Z (cX2_safeTimeNow_c l k0 e1) (oX2 k0) rfl (gooV mB365 mB366 mB367 mB43 mB233) rfl (by decide +kernel) rfl ⟨Nat.le_of_ble_eq_true rfl, Nat.le_of_ble_eq_true rfl⟩ ⟨Nat.le_of_ble_eq_true rfl, Nat.le_of_ble_eq_true rfl⟩ hl.1 rfl (Nat.le_of_ble_eq_true rfl) dX6_safeTime_4 (fun w2 H locs Z => ?_)
  obtain rfl := Option.some.inj hm
  exact kI _ _ _ _ dX6_safeTime_7 Z (vp_nar_int _)
theorem cX6_safeTime_c (l : Launch) {G : LY} {g : Mem} {n : Nat} {r : Int32} (hm : sX6_safeTime n g = some r) : cI l yX6_safeTime wmX6_safeTime 5 108 .int wC G [.ref (G.1 160)] g r g :=
  mk_cI sameC (by decide +kernel) rfl (Nat.le_of_ble_eq_true rfl) (fun p e s m args below meth c A Q ls X kI hl Z => bX6_safeTime_0 X kI  _ _ ls Z hl hm)
abbrev wmX6_ticksToCommit : List Cond := Cond.code yX6_ticksToCommit cX6_ticksToCommit 3 (some .int) :: wA0
set_option maxHeartbeats 4000000 in
set_option maxRecDepth 100000 in
theorem pX6_ticksToCommit_0 (X : gC p s m args meth c cX6_ticksToCommit 3 wmX6_ticksToCommit yX6_ticksToCommit.cls (some .int) G A) {n : Nat} {g : Mem} {r : Nat × Int32} (h0 : r.1 = 0) (kI : ∀ (pc : Nat) (ls : Array Slot) (H : Heap) (locs : List Loc), decode cX6_ticksToCommit pc = .ok (.ireturn, 1) → WS wC G g A s.heap H locs → narrow .int (.int r.2) = .int r.2 → W p l e { frames := 7, cells := 0, slots := 0, locals := 111 } s m args below meth c H locs 0 0 Q (F0 m pc ls [.int r.2])) : ∀ (x1 : Int32) (H : Heap) (locs : List Loc) (ls : Array Slot), WS wC G g A s.heap H locs → lv_has ls 3 [(0, .ref (G.1 160)), (1, .int x1)] → sX6_ticksToCommit n g x1 = some r → W p l e { frames := 7, cells := 0, slots := 0, locals := 111 } s m args below meth c H locs 0 0 Q (F0 m 0 ls []) := by
  have hx := X.1
  have hb := X.2.1
  intro x1 H locs ls Z hl hm
  unfold sX6_ticksToCommit at hm
  refine lv_aload_n hx hb dX6_ticksToCommit_0 rfl (lv_at hl 0 rfl) ?_
  refine lv_iload_n hx hb dX6_ticksToCommit_1 rfl (lv_at hl 1 rfl) ?_
  rcases sReq_some hm with ⟨e1, hm⟩ | ⟨ec3, c4, e1, hm⟩
  rotate_left
  · obtain rfl := Option.some.inj hm
    exact absurd h0 c4
  refine g_callVV (n := 1) (As := [.int x1]) (rest := []) sameC X Z (nX6_requireTransaction_c l e1 rfl) (oX6 k160) rfl (gooV mB304 mB305 mB306 mB285 mB296) rfl (by decide +kernel) rfl ⟨Nat.le_of_ble_eq_true rfl, Nat.le_of_ble_eq_true rfl⟩ ⟨Nat.le_of_ble_eq_true rfl, Nat.le_of_ble_eq_true rfl⟩ hl.1 rfl (Nat.le_of_ble_eq_true rfl) dX6_ticksToCommit_2 (fun H locs Z => ?_)
  refine lv_aload_n hx hb dX6_ticksToCommit_5 rfl (lv_at hl 0 rfl) ?_
  refine g_get (j := 0) (v := .ref (G.1 0)) X Z (oX6 k160) (iB6 _) rfl (by decide) rfl (List.mem_cons_of_mem _ mB260) rfl dX6_ticksToCommit_6 ?_
  refine g_get (j := 5) (v := .ref (G.1 (0 + 9))) X Z (oX2 k0) (iB2 _) rfl (by decide) rfl (List.mem_cons_of_mem _ mB297) rfl dX6_ticksToCommit_9 ?_
  refine g_get (j := 2) (v := .ref (G.1 ((0 + 9) + 2))) X Z (oX4 (k25 k0)) (iB4 _) rfl (by decide) rfl (List.mem_cons_of_mem _ mB383) rfl dX6_ticksToCommit_12 ?_
  refine lv_iload_n hx hb dX6_ticksToCommit_15 rfl (lv_at hl 1 rfl) ?_
  obtain ⟨b5, hm⟩ := sIdx_some hm
  refine g_iald X Z (aI (k42 (k25 k0))) b5 dX6_ticksToCommit_16 ?_
  refine lv_iconst (v := 2) hx hb dX6_ticksToCommit_17 (by decide) ?_
  refine lv_icmp_ne (tgt := 23) hx hb dX6_ticksToCommit_18 (by decide) (fun c6 => ?_) (fun c6 => ?_)
  · replace hm := (if_neg c6).symm.trans hm
    refine lv_aload_n hx hb dX6_ticksToCommit_23 rfl (lv_at hl 0 rfl) ?_
    refine g_get (j := 0) (v := .ref (G.1 0)) X Z (oX6 k160) (iB6 _) rfl (by decide) rfl (List.mem_cons_of_mem _ mB260) rfl dX6_ticksToCommit_24 ?_
    refine g_get (j := 5) (v := .ref (G.1 (0 + 9))) X Z (oX2 k0) (iB2 _) rfl (by decide) rfl (List.mem_cons_of_mem _ mB297) rfl dX6_ticksToCommit_27 ?_
    refine g_get (j := 2) (v := .ref (G.1 ((0 + 9) + 2))) X Z (oX4 (k25 k0)) (iB4 _) rfl (by decide) rfl (List.mem_cons_of_mem _ mB383) rfl dX6_ticksToCommit_30 ?_
    refine lv_iload_n hx hb dX6_ticksToCommit_33 rfl (lv_at hl 1 rfl) ?_
    obtain ⟨b7, hm⟩ := sIdx_some hm
    refine g_iald X Z (aI (k42 (k25 k0))) b7 dX6_ticksToCommit_34 ?_
    refine lv_iconst (v := 1) hx hb dX6_ticksToCommit_35 (by decide) ?_
    refine lv_icmp_eq (tgt := 41) hx hb dX6_ticksToCommit_36 (by decide) (fun c8 => ?_) (fun c8 => ?_)
    · replace hm := (if_pos c8).symm.trans hm
      refine lv_aload_n hx hb dX6_ticksToCommit_41 rfl (lv_at hl 0 rfl) ?_
      refine g_get (j := 0) (v := .ref (G.1 0)) X Z (oX6 k160) (iB6 _) rfl (by decide) rfl (List.mem_cons_of_mem _ mB260) rfl dX6_ticksToCommit_42 ?_
      refine lv_iload_n hx hb dX6_ticksToCommit_45 rfl (lv_at hl 1 rfl) ?_
      refine lv_sipush (v := 10000) hx hb dX6_ticksToCommit_46 (by decide) ?_
      obtain ⟨r11, e9, hm⟩ := sBi_some hm
      refine g_callVI (n := 2) (As := [.int x1, .int 10000]) (rest := []) sameC X Z (cX2_ticksUntilCommitted_c l k0 e9) (oX2 k0) rfl (gooV mB396 mB221 mB222 mB43 mB219) rfl (by decide +kernel) rfl ⟨Nat.le_of_ble_eq_true rfl, Nat.le_of_ble_eq_true rfl⟩ ⟨Nat.le_of_ble_eq_true rfl, Nat.le_of_ble_eq_true rfl⟩ hl.1 rfl (Nat.le_of_ble_eq_true rfl) dX6_ticksToCommit_49 (fun w10 H locs Z => ?_)
      refine lv_istore_n (lv' := [(2, .int r11), (0, .ref (G.1 160)), (1, .int x1)]) hx hb dX6_ticksToCommit_52 rfl hl (by decide) rfl (fun ls hl => ?_)
      refine lv_iload_n hx hb dX6_ticksToCommit_53 rfl (lv_at hl 0 rfl) ?_
      refine lv_sipush (v := 10000) hx hb dX6_ticksToCommit_54 (by decide) ?_
      refine lv_icmp_le (tgt := 64) hx hb dX6_ticksToCommit_57 (by decide) (fun c12 => ?_) (fun c12 => ?_)
      · replace hm := (if_pos c12).symm.trans hm
        refine lv_iload_n hx hb dX6_ticksToCommit_64 rfl (lv_at hl 0 rfl) ?_
        obtain rfl := Option.some.inj hm
        exact kI _ _ _ _ dX6_ticksToCommit_65 Z (vp_nar_int _)
      · replace hm := (if_neg c12).symm.trans hm
        refine lv_iconst (v := (-1)) hx hb dX6_ticksToCommit_60 (by decide) ?_
        refine lv_goto (tgt := 65) hx hb dX6_ticksToCommit_61 (by decide) ?_
        obtain rfl := Option.some.inj hm
        exact kI _ _ _ _ dX6_ticksToCommit_65 Z (vp_nar_int _)
    · replace hm := (if_neg c8).symm.trans hm
      refine lv_iconst (v := (-1)) hx hb dX6_ticksToCommit_39 (by decide) ?_
      obtain rfl := Option.some.inj hm
      exact kI _ _ _ _ dX6_ticksToCommit_40 Z (vp_nar_int _)
  · replace hm := (if_pos c6).symm.trans hm
    refine lv_iconst (v := 0) hx hb dX6_ticksToCommit_21 (by decide) ?_
    obtain rfl := Option.some.inj hm
    exact kI _ _ _ _ dX6_ticksToCommit_22 Z (vp_nar_int _)
theorem nX6_ticksToCommit_c (l : Launch) {G : LY} {g : Mem} {n : Nat} {x1 : Int32} {r : Nat × Int32} (hm : sX6_ticksToCommit n g x1 = some r) (h0 : r.1 = 0) : cI l yX6_ticksToCommit wmX6_ticksToCommit 7 111 .int wC G [.ref (G.1 160), .int x1] g r.2 g :=
  mk_cI sameC (by decide +kernel) rfl (Nat.le_of_ble_eq_true rfl) (fun p e s m args below meth c A Q ls X kI hl Z => pX6_ticksToCommit_0 X h0 kI x1 _ _ ls Z hl hm)
abbrev wmX6_transactions : List Cond := Cond.code yX6_transactions cX6_transactions 1 (some .int) :: wA0
set_option maxHeartbeats 4000000 in
set_option maxRecDepth 100000 in
theorem bX6_transactions_0 (X : gC p s m args meth c cX6_transactions 1 wmX6_transactions yX6_transactions.cls (some .int) G A) {g : Mem} {r : Int32} (kI : ∀ (pc : Nat) (ls : Array Slot) (H : Heap) (locs : List Loc), decode cX6_transactions pc = .ok (.ireturn, 1) → WS wC G g A s.heap H locs → narrow .int (.int r) = .int r → W p l e { frames := 0, cells := 0, slots := 0, locals := 0 } s m args below meth c H locs 0 0 Q (F0 m pc ls [.int r])) : ∀ (H : Heap) (locs : List Loc) (ls : Array Slot), WS wC G g A s.heap H locs → lv_has ls 1 [(0, .ref (G.1 160))] → sX6_transactions g = some r → W p l e { frames := 0, cells := 0, slots := 0, locals := 0 } s m args below meth c H locs 0 0 Q (F0 m 0 ls []) := by
  have hx := X.1
  have hb := X.2.1
  intro H locs ls Z hl hm
  unfold sX6_transactions at hm
  refine lv_aload_n hx hb dX6_transactions_0 rfl (lv_at hl 0 rfl) ?_
  refine g_get (j := 0) (v := .ref (G.1 0)) X Z (oX6 k160) (iB6 _) rfl (by decide) rfl (List.mem_cons_of_mem _ mB260) rfl dX6_transactions_1 ?_
  refine g_get (j := 5) (v := .ref (G.1 (0 + 9))) X Z (oX2 k0) (iB2 _) rfl (by decide) rfl (List.mem_cons_of_mem _ mB297) rfl dX6_transactions_4 ?_
  refine g_get (j := 0) (v := .int (g (0 + 9) 0)) X Z (oX4 (k25 k0)) (iB4 _) rfl (by decide) rfl (List.mem_cons_of_mem _ mB298) rfl dX6_transactions_7 ?_
  obtain rfl := Option.some.inj hm
  exact kI _ _ _ _ dX6_transactions_10 Z (vp_nar_int _)
theorem cX6_transactions_c (l : Launch) {G : LY} {g : Mem} {r : Int32} (hm : sX6_transactions g = some r) : cI l yX6_transactions wmX6_transactions 0 0 .int wC G [.ref (G.1 160)] g r g :=
  mk_cI sameC (by decide +kernel) rfl (Nat.le_of_ble_eq_true rfl) (fun p e s m args below meth c A Q ls X kI hl Z => bX6_transactions_0 X kI  _ _ ls Z hl hm)
abbrev wmX6_unsoundUses : List Cond := Cond.code yX6_unsoundUses cX6_unsoundUses 1 (some .int) :: wA0
set_option maxHeartbeats 4000000 in
set_option maxRecDepth 100000 in
theorem bX6_unsoundUses_0 (X : gC p s m args meth c cX6_unsoundUses 1 wmX6_unsoundUses yX6_unsoundUses.cls (some .int) G A) {g : Mem} {r : Int32} (kI : ∀ (pc : Nat) (ls : Array Slot) (H : Heap) (locs : List Loc), decode cX6_unsoundUses pc = .ok (.ireturn, 1) → WS wC G g A s.heap H locs → narrow .int (.int r) = .int r → W p l e { frames := 0, cells := 0, slots := 0, locals := 0 } s m args below meth c H locs 0 0 Q (F0 m pc ls [.int r])) : ∀ (H : Heap) (locs : List Loc) (ls : Array Slot), WS wC G g A s.heap H locs → lv_has ls 1 [(0, .ref (G.1 160))] → sX6_unsoundUses g = some r → W p l e { frames := 0, cells := 0, slots := 0, locals := 0 } s m args below meth c H locs 0 0 Q (F0 m 0 ls []) := by
  have hx := X.1
  have hb := X.2.1
  intro H locs ls Z hl hm
  unfold sX6_unsoundUses at hm
  refine lv_aload_n hx hb dX6_unsoundUses_0 rfl (lv_at hl 0 rfl) ?_
  refine g_get (j := 0) (v := .ref (G.1 0)) X Z (oX6 k160) (iB6 _) rfl (by decide) rfl (List.mem_cons_of_mem _ mB260) rfl dX6_unsoundUses_1 ?_
  refine g_get (j := 2) (v := .int (g 0 2)) X Z (oX2 k0) (iB2 _) rfl (by decide) rfl (List.mem_cons_of_mem _ mB427) rfl dX6_unsoundUses_4 ?_
  obtain rfl := Option.some.inj hm
  exact kI _ _ _ _ dX6_unsoundUses_7 Z (vp_nar_int _)
theorem cX6_unsoundUses_c (l : Launch) {G : LY} {g : Mem} {r : Int32} (hm : sX6_unsoundUses g = some r) : cI l yX6_unsoundUses wmX6_unsoundUses 0 0 .int wC G [.ref (G.1 160)] g r g :=
  mk_cI sameC (by decide +kernel) rfl (Nat.le_of_ble_eq_true rfl) (fun p e s m args below meth c A Q ls X kI hl Z => bX6_unsoundUses_0 X kI  _ _ ls Z hl hm)
abbrev wmX6_totalWait : List Cond := Cond.code yX6_totalWait cX6_totalWait 1 (some .int) :: wA0
set_option maxHeartbeats 4000000 in
set_option maxRecDepth 100000 in
theorem bX6_totalWait_0 (X : gC p s m args meth c cX6_totalWait 1 wmX6_totalWait yX6_totalWait.cls (some .int) G A) {n : Nat} {g : Mem} {r : Int32} (kI : ∀ (pc : Nat) (ls : Array Slot) (H : Heap) (locs : List Loc), decode cX6_totalWait pc = .ok (.ireturn, 1) → WS wC G g A s.heap H locs → narrow .int (.int r) = .int r → W p l e { frames := 1, cells := 0, slots := 0, locals := 22 } s m args below meth c H locs 0 0 Q (F0 m pc ls [.int r])) : ∀ (H : Heap) (locs : List Loc) (ls : Array Slot), WS wC G g A s.heap H locs → lv_has ls 1 [(0, .ref (G.1 160))] → sX6_totalWait n g = some r → W p l e { frames := 1, cells := 0, slots := 0, locals := 22 } s m args below meth c H locs 0 0 Q (F0 m 0 ls []) := by
  have hx := X.1
  have hb := X.2.1
  intro H locs ls Z hl hm
  unfold sX6_totalWait at hm
  refine lv_aload_n hx hb dX6_totalWait_0 rfl (lv_at hl 0 rfl) ?_
  refine g_get (j := 0) (v := .ref (G.1 0)) X Z (oX6 k160) (iB6 _) rfl (by decide) rfl (List.mem_cons_of_mem _ mB260) rfl dX6_totalWait_1 ?_
  refine g_get (j := 5) (v := .ref (G.1 (0 + 9))) X Z (oX2 k0) (iB2 _) rfl (by decide) rfl (List.mem_cons_of_mem _ mB297) rfl dX6_totalWait_4 ?_
  obtain ⟨r3, e1, hm⟩ := sBi_some hm
  refine g_callVI (n := 0) (As := []) (rest := []) sameC X Z (cX4_sumOfWaits_c l (k25 k0) e1) (oX4 (k25 k0)) rfl (gooV mB423 mB424 mB425 mB30 mB248) rfl (by decide +kernel) rfl ⟨Nat.le_of_ble_eq_true rfl, Nat.le_of_ble_eq_true rfl⟩ ⟨Nat.le_of_ble_eq_true rfl, Nat.le_of_ble_eq_true rfl⟩ hl.1 rfl (Nat.le_of_ble_eq_true rfl) dX6_totalWait_7 (fun w2 H locs Z => ?_)
  obtain rfl := Option.some.inj hm
  exact kI _ _ _ _ dX6_totalWait_10 Z (vp_nar_int _)
theorem cX6_totalWait_c (l : Launch) {G : LY} {g : Mem} {n : Nat} {r : Int32} (hm : sX6_totalWait n g = some r) : cI l yX6_totalWait wmX6_totalWait 1 22 .int wC G [.ref (G.1 160)] g r g :=
  mk_cI sameC (by decide +kernel) rfl (Nat.le_of_ble_eq_true rfl) (fun p e s m args below meth c A Q ls X kI hl Z => bX6_totalWait_0 X kI  _ _ ls Z hl hm)
abbrev wmX6_countInState : List Cond := Cond.code yX6_countInState cX6_countInState 2 (some .int) :: wA0
set_option maxHeartbeats 4000000 in
set_option maxRecDepth 100000 in
theorem pX6_countInState_0 (X : gC p s m args meth c cX6_countInState 2 wmX6_countInState yX6_countInState.cls (some .int) G A) {n : Nat} {g : Mem} {r : Nat × Int32} (h0 : r.1 = 0) (kI : ∀ (pc : Nat) (ls : Array Slot) (H : Heap) (locs : List Loc), decode cX6_countInState pc = .ok (.ireturn, 1) → WS wC G g A s.heap H locs → narrow .int (.int r.2) = .int r.2 → W p l e { frames := 7, cells := 0, slots := 0, locals := 113 } s m args below meth c H locs 0 0 Q (F0 m pc ls [.int r.2])) : ∀ (x1 : Int32) (H : Heap) (locs : List Loc) (ls : Array Slot), WS wC G g A s.heap H locs → lv_has ls 2 [(0, .ref (G.1 160)), (1, .int x1)] → sX6_countInState n g x1 = some r → W p l e { frames := 7, cells := 0, slots := 0, locals := 113 } s m args below meth c H locs 0 0 Q (F0 m 0 ls []) := by
  have hx := X.1
  have hb := X.2.1
  intro x1 H locs ls Z hl hm
  unfold sX6_countInState at hm
  refine lv_aload_n hx hb dX6_countInState_0 rfl (lv_at hl 0 rfl) ?_
  refine lv_iload_n hx hb dX6_countInState_1 rfl (lv_at hl 1 rfl) ?_
  refine lv_iconst (v := 0) hx hb dX6_countInState_2 (by decide) ?_
  refine lv_iconst (v := 3) hx hb dX6_countInState_3 (by decide) ?_
  rcases sReq_some hm with ⟨e1, hm⟩ | ⟨ec3, c4, e1, hm⟩
  rotate_left
  · obtain rfl := Option.some.inj hm
    exact absurd h0 c4
  refine g_callVV (n := 3) (As := [.int x1, .int 0, .int 3]) (rest := []) sameC X Z (nX6_requireRange_c l e1 rfl) (oX6 k160) rfl (gooV mB320 mB321 mB322 mB285 mB317) rfl (by decide +kernel) rfl ⟨Nat.le_of_ble_eq_true rfl, Nat.le_of_ble_eq_true rfl⟩ ⟨Nat.le_of_ble_eq_true rfl, Nat.le_of_ble_eq_true rfl⟩ hl.1 rfl (Nat.le_of_ble_eq_true rfl) dX6_countInState_4 (fun H locs Z => ?_)
  refine lv_aload_n hx hb dX6_countInState_7 rfl (lv_at hl 0 rfl) ?_
  refine g_get (j := 0) (v := .ref (G.1 0)) X Z (oX6 k160) (iB6 _) rfl (by decide) rfl (List.mem_cons_of_mem _ mB260) rfl dX6_countInState_8 ?_
  refine g_get (j := 5) (v := .ref (G.1 (0 + 9))) X Z (oX2 k0) (iB2 _) rfl (by decide) rfl (List.mem_cons_of_mem _ mB297) rfl dX6_countInState_11 ?_
  refine lv_iload_n hx hb dX6_countInState_14 rfl (lv_at hl 1 rfl) ?_
  obtain ⟨r7, e5, hm⟩ := sBi_some hm
  refine g_callVI (n := 1) (As := [.int x1]) (rest := []) sameC X Z (cX4_countWithStatus_c l (k25 k0) e5) (oX4 (k25 k0)) rfl (gooV mB419 mB420 mB421 mB30 mB247) rfl (by decide +kernel) rfl ⟨Nat.le_of_ble_eq_true rfl, Nat.le_of_ble_eq_true rfl⟩ ⟨Nat.le_of_ble_eq_true rfl, Nat.le_of_ble_eq_true rfl⟩ hl.1 rfl (Nat.le_of_ble_eq_true rfl) dX6_countInState_15 (fun w6 H locs Z => ?_)
  obtain rfl := Option.some.inj hm
  exact kI _ _ _ _ dX6_countInState_18 Z (vp_nar_int _)
theorem nX6_countInState_c (l : Launch) {G : LY} {g : Mem} {n : Nat} {x1 : Int32} {r : Nat × Int32} (hm : sX6_countInState n g x1 = some r) (h0 : r.1 = 0) : cI l yX6_countInState wmX6_countInState 7 113 .int wC G [.ref (G.1 160), .int x1] g r.2 g :=
  mk_cI sameC (by decide +kernel) rfl (Nat.le_of_ble_eq_true rfl) (fun p e s m args below meth c A Q ls X kI hl Z => pX6_countInState_0 X h0 kI x1 _ _ ls Z hl hm)
abbrev wmX6_inversions : List Cond := Cond.code yX6_inversions cX6_inversions 1 (some .int) :: wA0
set_option maxHeartbeats 4000000 in
set_option maxRecDepth 100000 in
theorem bX6_inversions_0 (X : gC p s m args meth c cX6_inversions 1 wmX6_inversions yX6_inversions.cls (some .int) G A) {n : Nat} {g : Mem} {r : Int32} (kI : ∀ (pc : Nat) (ls : Array Slot) (H : Heap) (locs : List Loc), decode cX6_inversions pc = .ok (.ireturn, 1) → WS wC G g A s.heap H locs → narrow .int (.int r) = .int r → W p l e { frames := 2, cells := 0, slots := 0, locals := 45 } s m args below meth c H locs 0 0 Q (F0 m pc ls [.int r])) : ∀ (H : Heap) (locs : List Loc) (ls : Array Slot), WS wC G g A s.heap H locs → lv_has ls 1 [(0, .ref (G.1 160))] → sX6_inversions n g = some r → W p l e { frames := 2, cells := 0, slots := 0, locals := 45 } s m args below meth c H locs 0 0 Q (F0 m 0 ls []) := by
  have hx := X.1
  have hb := X.2.1
  intro H locs ls Z hl hm
  unfold sX6_inversions at hm
  refine lv_aload_n hx hb dX6_inversions_0 rfl (lv_at hl 0 rfl) ?_
  refine g_get (j := 0) (v := .ref (G.1 0)) X Z (oX6 k160) (iB6 _) rfl (by decide) rfl (List.mem_cons_of_mem _ mB260) rfl dX6_inversions_1 ?_
  refine g_get (j := 5) (v := .ref (G.1 (0 + 9))) X Z (oX2 k0) (iB2 _) rfl (by decide) rfl (List.mem_cons_of_mem _ mB297) rfl dX6_inversions_4 ?_
  obtain ⟨r3, e1, hm⟩ := sBi_some hm
  refine g_callVI (n := 0) (As := []) (rest := []) sameC X Z (cX4_countInversions_c l (k25 k0) e1) (oX4 (k25 k0)) rfl (gooV mB429 mB430 mB431 mB30 mB250) rfl (by decide +kernel) rfl ⟨Nat.le_of_ble_eq_true rfl, Nat.le_of_ble_eq_true rfl⟩ ⟨Nat.le_of_ble_eq_true rfl, Nat.le_of_ble_eq_true rfl⟩ hl.1 rfl (Nat.le_of_ble_eq_true rfl) dX6_inversions_7 (fun w2 H locs Z => ?_)
  obtain rfl := Option.some.inj hm
  exact kI _ _ _ _ dX6_inversions_10 Z (vp_nar_int _)
theorem cX6_inversions_c (l : Launch) {G : LY} {g : Mem} {n : Nat} {r : Int32} (hm : sX6_inversions n g = some r) : cI l yX6_inversions wmX6_inversions 2 45 .int wC G [.ref (G.1 160)] g r g :=
  mk_cI sameC (by decide +kernel) rfl (Nat.le_of_ble_eq_true rfl) (fun p e s m args below meth c A Q ls X kI hl Z => bX6_inversions_0 X kI  _ _ ls Z hl hm)
abbrev wmX6_readFloor : List Cond := Cond.code yX6_readFloor cX6_readFloor 1 (some .int) :: wA0
set_option maxHeartbeats 4000000 in
set_option maxRecDepth 100000 in
theorem bX6_readFloor_0 (X : gC p s m args meth c cX6_readFloor 1 wmX6_readFloor yX6_readFloor.cls (some .int) G A) {g : Mem} {r : Int32} (kI : ∀ (pc : Nat) (ls : Array Slot) (H : Heap) (locs : List Loc), decode cX6_readFloor pc = .ok (.ireturn, 1) → WS wC G g A s.heap H locs → narrow .int (.int r) = .int r → W p l e { frames := 0, cells := 0, slots := 0, locals := 0 } s m args below meth c H locs 0 0 Q (F0 m pc ls [.int r])) : ∀ (H : Heap) (locs : List Loc) (ls : Array Slot), WS wC G g A s.heap H locs → lv_has ls 1 [(0, .ref (G.1 160))] → sX6_readFloor g = some r → W p l e { frames := 0, cells := 0, slots := 0, locals := 0 } s m args below meth c H locs 0 0 Q (F0 m 0 ls []) := by
  have hx := X.1
  have hb := X.2.1
  intro H locs ls Z hl hm
  unfold sX6_readFloor at hm
  refine lv_aload_n hx hb dX6_readFloor_0 rfl (lv_at hl 0 rfl) ?_
  refine g_get (j := 0) (v := .ref (G.1 0)) X Z (oX6 k160) (iB6 _) rfl (by decide) rfl (List.mem_cons_of_mem _ mB260) rfl dX6_readFloor_1 ?_
  refine g_get (j := 1) (v := .int (g 0 1)) X Z (oX2 k0) (iB2 _) rfl (by decide) rfl (List.mem_cons_of_mem _ mB359) rfl dX6_readFloor_4 ?_
  obtain rfl := Option.some.inj hm
  exact kI _ _ _ _ dX6_readFloor_7 Z (vp_nar_int _)
theorem cX6_readFloor_c (l : Launch) {G : LY} {g : Mem} {r : Int32} (hm : sX6_readFloor g = some r) : cI l yX6_readFloor wmX6_readFloor 0 0 .int wC G [.ref (G.1 160)] g r g :=
  mk_cI sameC (by decide +kernel) rfl (Nat.le_of_ble_eq_true rfl) (fun p e s m args below meth c A Q ls X kI hl Z => bX6_readFloor_0 X kI  _ _ ls Z hl hm)
abbrev wmX6_ifCommitted : List Cond := Cond.code yX6_ifCommitted cX6_ifCommitted 2 (some .int) :: wA0
set_option maxHeartbeats 4000000 in
set_option maxRecDepth 100000 in
theorem pX6_ifCommitted_0 (X : gC p s m args meth c cX6_ifCommitted 2 wmX6_ifCommitted yX6_ifCommitted.cls (some .int) G A) {n : Nat} {g : Mem} {r : Nat × Int32} (h0 : r.1 = 0) (kI : ∀ (pc : Nat) (ls : Array Slot) (H : Heap) (locs : List Loc), decode cX6_ifCommitted pc = .ok (.ireturn, 1) → WS wC G g A s.heap H locs → narrow .int (.int r.2) = .int r.2 → W p l e { frames := 7, cells := 0, slots := 0, locals := 112 } s m args below meth c H locs 0 0 Q (F0 m pc ls [.int r.2])) : ∀ (x1 : Int32) (H : Heap) (locs : List Loc) (ls : Array Slot), WS wC G g A s.heap H locs → lv_has ls 2 [(0, .ref (G.1 160)), (1, .int x1)] → sX6_ifCommitted n g x1 = some r → W p l e { frames := 7, cells := 0, slots := 0, locals := 112 } s m args below meth c H locs 0 0 Q (F0 m 0 ls []) := by
  have hx := X.1
  have hb := X.2.1
  intro x1 H locs ls Z hl hm
  unfold sX6_ifCommitted at hm
  refine lv_aload_n hx hb dX6_ifCommitted_0 rfl (lv_at hl 0 rfl) ?_
  refine lv_iload_n hx hb dX6_ifCommitted_1 rfl (lv_at hl 1 rfl) ?_
  rcases sReq_some hm with ⟨e1, hm⟩ | ⟨ec3, c4, e1, hm⟩
  rotate_left
  · obtain rfl := Option.some.inj hm
    exact absurd h0 c4
  refine g_callVV (n := 1) (As := [.int x1]) (rest := []) sameC X Z (nX6_requireTransaction_c l e1 rfl) (oX6 k160) rfl (gooV mB304 mB305 mB306 mB285 mB296) rfl (by decide +kernel) rfl ⟨Nat.le_of_ble_eq_true rfl, Nat.le_of_ble_eq_true rfl⟩ ⟨Nat.le_of_ble_eq_true rfl, Nat.le_of_ble_eq_true rfl⟩ hl.1 rfl (Nat.le_of_ble_eq_true rfl) dX6_ifCommitted_2 (fun H locs Z => ?_)
  refine lv_aload_n hx hb dX6_ifCommitted_5 rfl (lv_at hl 0 rfl) ?_
  refine g_get (j := 0) (v := .ref (G.1 0)) X Z (oX6 k160) (iB6 _) rfl (by decide) rfl (List.mem_cons_of_mem _ mB260) rfl dX6_ifCommitted_6 ?_
  refine g_get (j := 5) (v := .ref (G.1 (0 + 9))) X Z (oX2 k0) (iB2 _) rfl (by decide) rfl (List.mem_cons_of_mem _ mB297) rfl dX6_ifCommitted_9 ?_
  refine lv_iload_n hx hb dX6_ifCommitted_12 rfl (lv_at hl 1 rfl) ?_
  obtain ⟨r7, e5, hm⟩ := sBi_some hm
  refine g_callVI (n := 1) (As := [.int x1]) (rest := []) sameC X Z (cX4_isOpen_c l (k25 k0) e5) (oX4 (k25 k0)) rfl (gooV mB301 mB302 mB303 mB30 mB243) rfl (by decide +kernel) rfl ⟨Nat.le_of_ble_eq_true rfl, Nat.le_of_ble_eq_true rfl⟩ ⟨Nat.le_of_ble_eq_true rfl, Nat.le_of_ble_eq_true rfl⟩ hl.1 rfl (Nat.le_of_ble_eq_true rfl) dX6_ifCommitted_13 (fun w6 H locs Z => ?_)
  refine lv_if_eq (tgt := 30) hx hb dX6_ifCommitted_16 (by decide) (fun c8 => ?_) (fun c8 => ?_)
  · replace hm := (if_pos c8).symm.trans hm
    refine lv_iconst (v := (-1)) hx hb dX6_ifCommitted_30 (by decide) ?_
    obtain rfl := Option.some.inj hm
    exact kI _ _ _ _ dX6_ifCommitted_31 Z (vp_nar_int _)
  · replace hm := (if_neg c8).symm.trans hm
    refine lv_aload_n hx hb dX6_ifCommitted_19 rfl (lv_at hl 0 rfl) ?_
    refine g_get (j := 0) (v := .ref (G.1 0)) X Z (oX6 k160) (iB6 _) rfl (by decide) rfl (List.mem_cons_of_mem _ mB260) rfl dX6_ifCommitted_20 ?_
    refine lv_iload_n hx hb dX6_ifCommitted_23 rfl (lv_at hl 1 rfl) ?_
    obtain ⟨r11, e9, hm⟩ := sBi_some hm
    refine g_callVI (n := 1) (As := [.int x1]) (rest := []) sameC X Z (cX2_commitOutcome_c l k0 e9) (oX2 k0) rfl (gooV mB327 mB328 mB329 mB43 mB192) rfl (by decide +kernel) rfl ⟨Nat.le_of_ble_eq_true rfl, Nat.le_of_ble_eq_true rfl⟩ ⟨Nat.le_of_ble_eq_true rfl, Nat.le_of_ble_eq_true rfl⟩ hl.1 rfl (Nat.le_of_ble_eq_true rfl) dX6_ifCommitted_24 (fun w10 H locs Z => ?_)
    refine lv_goto (tgt := 31) hx hb dX6_ifCommitted_27 (by decide) ?_
    obtain rfl := Option.some.inj hm
    exact kI _ _ _ _ dX6_ifCommitted_31 Z (vp_nar_int _)
theorem nX6_ifCommitted_c (l : Launch) {G : LY} {g : Mem} {n : Nat} {x1 : Int32} {r : Nat × Int32} (hm : sX6_ifCommitted n g x1 = some r) (h0 : r.1 = 0) : cI l yX6_ifCommitted wmX6_ifCommitted 7 112 .int wC G [.ref (G.1 160), .int x1] g r.2 g :=
  mk_cI sameC (by decide +kernel) rfl (Nat.le_of_ble_eq_true rfl) (fun p e s m args below meth c A Q ls X kI hl Z => pX6_ifCommitted_0 X h0 kI x1 _ _ ls Z hl hm)
abbrev wmX6_trueTime : List Cond := Cond.code yX6_trueTime cX6_trueTime 1 (some .int) :: wA0
set_option maxHeartbeats 4000000 in
set_option maxRecDepth 100000 in
theorem bX6_trueTime_0 (X : gC p s m args meth c cX6_trueTime 1 wmX6_trueTime yX6_trueTime.cls (some .int) G A) {g : Mem} {r : Int32} (kI : ∀ (pc : Nat) (ls : Array Slot) (H : Heap) (locs : List Loc), decode cX6_trueTime pc = .ok (.ireturn, 1) → WS wC G g A s.heap H locs → narrow .int (.int r) = .int r → W p l e { frames := 0, cells := 0, slots := 0, locals := 0 } s m args below meth c H locs 0 0 Q (F0 m pc ls [.int r])) : ∀ (H : Heap) (locs : List Loc) (ls : Array Slot), WS wC G g A s.heap H locs → lv_has ls 1 [(0, .ref (G.1 160))] → sX6_trueTime g = some r → W p l e { frames := 0, cells := 0, slots := 0, locals := 0 } s m args below meth c H locs 0 0 Q (F0 m 0 ls []) := by
  have hx := X.1
  have hb := X.2.1
  intro H locs ls Z hl hm
  unfold sX6_trueTime at hm
  refine lv_aload_n hx hb dX6_trueTime_0 rfl (lv_at hl 0 rfl) ?_
  refine g_get (j := 0) (v := .ref (G.1 0)) X Z (oX6 k160) (iB6 _) rfl (by decide) rfl (List.mem_cons_of_mem _ mB260) rfl dX6_trueTime_1 ?_
  refine g_get (j := 0) (v := .int (g 0 0)) X Z (oX2 k0) (iB2 _) rfl (by decide) rfl (List.mem_cons_of_mem _ mB348) rfl dX6_trueTime_4 ?_
  obtain rfl := Option.some.inj hm
  exact kI _ _ _ _ dX6_trueTime_7 Z (vp_nar_int _)
theorem cX6_trueTime_c (l : Launch) {G : LY} {g : Mem} {r : Int32} (hm : sX6_trueTime g = some r) : cI l yX6_trueTime wmX6_trueTime 0 0 .int wC G [.ref (G.1 160)] g r g :=
  mk_cI sameC (by decide +kernel) rfl (Nat.le_of_ble_eq_true rfl) (fun p e s m args below meth c A Q ls X kI hl Z => bX6_trueTime_0 X kI  _ _ ls Z hl hm)
abbrev wmX6_advance : List Cond := Cond.code yX6_advance cX6_advance 2 (some .int) :: wA0
set_option maxHeartbeats 4000000 in
set_option maxRecDepth 100000 in
theorem pX6_advance_0 (X : gC p s m args meth c cX6_advance 2 wmX6_advance yX6_advance.cls (some .int) G A) {n : Nat} {r : Nat × Int32 × Mem} (h0 : r.1 = 0) (kI : ∀ (pc : Nat) (ls : Array Slot) (H : Heap) (locs : List Loc), decode cX6_advance pc = .ok (.ireturn, 1) → WS wC G r.2.2 A s.heap H locs → narrow .int (.int r.2.1) = .int r.2.1 → W p l e { frames := 7, cells := 0, slots := 0, locals := 113 } s m args below meth c H locs 0 0 Q (F0 m pc ls [.int r.2.1])) : ∀ (g : Mem) (x1 : Int32) (H : Heap) (locs : List Loc) (ls : Array Slot), WS wC G g A s.heap H locs → lv_has ls 2 [(0, .ref (G.1 160)), (1, .int x1)] → sX6_advance n g x1 = some r → W p l e { frames := 7, cells := 0, slots := 0, locals := 113 } s m args below meth c H locs 0 0 Q (F0 m 0 ls []) := by
  have hx := X.1
  have hb := X.2.1
  intro g x1 H locs ls Z hl hm
  unfold sX6_advance at hm
  refine lv_aload_n hx hb dX6_advance_0 rfl (lv_at hl 0 rfl) ?_
  refine lv_iload_n hx hb dX6_advance_1 rfl (lv_at hl 1 rfl) ?_
  refine lv_iconst (v := 1) hx hb dX6_advance_2 (by decide) ?_
  refine lv_sipush (v := 1000) hx hb dX6_advance_3 (by decide) ?_
  rcases sReq_some hm with ⟨e1, hm⟩ | ⟨ec3, c4, e1, hm⟩
  rotate_left
  · obtain rfl := Option.some.inj hm
    exact absurd h0 c4
  refine g_callVV (n := 3) (As := [.int x1, .int 1, .int 1000]) (rest := []) sameC X Z (nX6_requireRange_c l e1 rfl) (oX6 k160) rfl (gooV mB320 mB321 mB322 mB285 mB317) rfl (by decide +kernel) rfl ⟨Nat.le_of_ble_eq_true rfl, Nat.le_of_ble_eq_true rfl⟩ ⟨Nat.le_of_ble_eq_true rfl, Nat.le_of_ble_eq_true rfl⟩ hl.1 rfl (Nat.le_of_ble_eq_true rfl) dX6_advance_6 (fun H locs Z => ?_)
  refine lv_aload_n hx hb dX6_advance_9 rfl (lv_at hl 0 rfl) ?_
  refine g_get (j := 0) (v := .ref (G.1 0)) X Z (oX6 k160) (iB6 _) rfl (by decide) rfl (List.mem_cons_of_mem _ mB260) rfl dX6_advance_10 ?_
  refine lv_iload_n hx hb dX6_advance_13 rfl (lv_at hl 1 rfl) ?_
  obtain ⟨r7, e5, hm⟩ := sBi_some hm
  refine g_callVI (n := 1) (As := [.int x1]) (rest := []) sameC X Z (cX2_canAdvance_c l k0 e5) (oX2 k0) rfl (gooV mB336 mB337 mB338 mB43 mB214) rfl (by decide +kernel) rfl ⟨Nat.le_of_ble_eq_true rfl, Nat.le_of_ble_eq_true rfl⟩ ⟨Nat.le_of_ble_eq_true rfl, Nat.le_of_ble_eq_true rfl⟩ hl.1 rfl (Nat.le_of_ble_eq_true rfl) dX6_advance_14 (fun w6 H locs Z => ?_)
  refine lv_if_ne (tgt := 30) hx hb dX6_advance_17 (by decide) (fun c8 => ?_) (fun c8 => ?_)
  · replace hm := (if_neg c8).symm.trans hm
    refine lv_aload_n hx hb dX6_advance_30 rfl (lv_at hl 0 rfl) ?_
    refine g_get (j := 1) (v := .ref (G.1 153)) X Z (oX6 k160) (iB6 _) rfl (by decide) rfl (List.mem_cons_of_mem _ mB264) rfl dX6_advance_31 ?_
    refine lv_aload_n hx hb dX6_advance_34 rfl (lv_at hl 0 rfl) ?_
    refine g_get (j := 0) (v := .ref (G.1 0)) X Z (oX6 k160) (iB6 _) rfl (by decide) rfl (List.mem_cons_of_mem _ mB260) rfl dX6_advance_35 ?_
    obtain ⟨g11, e9, hm⟩ := sBi_some hm
    refine g_callVV (n := 1) (As := [.ref (G.1 0)]) (rest := []) sameC X Z (cX0_push_c l k0 e9) (oX0 k153) rfl (gooV mB289 mB290 mB291 mB263 mB83) rfl (by decide +kernel) rfl ⟨Nat.le_of_ble_eq_true rfl, Nat.le_of_ble_eq_true rfl⟩ ⟨Nat.le_of_ble_eq_true rfl, Nat.le_of_ble_eq_true rfl⟩ hl.1 rfl (Nat.le_of_ble_eq_true rfl) dX6_advance_38 (fun H locs Z => ?_)
    refine lv_aload_n hx hb dX6_advance_41 rfl (lv_at hl 0 rfl) ?_
    refine g_get (j := 0) (v := .ref (G.1 0)) X Z (oX6 k160) (iB6 _) rfl (by decide) rfl (List.mem_cons_of_mem _ mB260) rfl dX6_advance_42 ?_
    refine lv_iload_n hx hb dX6_advance_45 rfl (lv_at hl 1 rfl) ?_
    obtain ⟨r14, g15, e12, hm⟩ := sBi2_some hm
    refine g_callVI (n := 1) (As := [.int x1]) (rest := []) sameC X Z (cX2_advanceBy_c l k0 e12) (oX2 k0) rfl (gooV mB339 mB340 mB341 mB43 mB226) rfl (by decide +kernel) rfl ⟨Nat.le_of_ble_eq_true rfl, Nat.le_of_ble_eq_true rfl⟩ ⟨Nat.le_of_ble_eq_true rfl, Nat.le_of_ble_eq_true rfl⟩ hl.1 rfl (Nat.le_of_ble_eq_true rfl) dX6_advance_46 (fun w13 H locs Z => ?_)
    obtain rfl := Option.some.inj hm
    exact kI _ _ _ _ dX6_advance_49 Z (vp_nar_int _)
  · replace hm := (if_pos c8).symm.trans hm
    obtain rfl := Option.some.inj hm
    exact absurd (show (3 : Nat) = 0 from h0) (by decide)
theorem nX6_advance_c (l : Launch) {G : LY} {g : Mem} {n : Nat} {x1 : Int32} {r : Nat × Int32 × Mem} (hm : sX6_advance n g x1 = some r) (h0 : r.1 = 0) : cI l yX6_advance wmX6_advance 7 113 .int wC G [.ref (G.1 160), .int x1] g r.2.1 r.2.2 :=
  mk_cI sameC (by decide +kernel) rfl (Nat.le_of_ble_eq_true rfl) (fun p e s m args below meth c A Q ls X kI hl Z => pX6_advance_0 X h0 kI g x1 _ _ ls Z hl hm)
abbrev wmX6_reading : List Cond := Cond.code yX6_reading cX6_reading 2 (some .int) :: wA0
set_option maxHeartbeats 4000000 in
set_option maxRecDepth 100000 in
theorem pX6_reading_0 (X : gC p s m args meth c cX6_reading 2 wmX6_reading yX6_reading.cls (some .int) G A) {g : Mem} {r : Nat × Int32} (h0 : r.1 = 0) (kI : ∀ (pc : Nat) (ls : Array Slot) (H : Heap) (locs : List Loc), decode cX6_reading pc = .ok (.ireturn, 1) → WS wC G g A s.heap H locs → narrow .int (.int r.2) = .int r.2 → W p l e { frames := 7, cells := 0, slots := 0, locals := 111 } s m args below meth c H locs 0 0 Q (F0 m pc ls [.int r.2])) : ∀ (x1 : Int32) (H : Heap) (locs : List Loc) (ls : Array Slot), WS wC G g A s.heap H locs → lv_has ls 2 [(0, .ref (G.1 160)), (1, .int x1)] → sX6_reading g x1 = some r → W p l e { frames := 7, cells := 0, slots := 0, locals := 111 } s m args below meth c H locs 0 0 Q (F0 m 0 ls []) := by
  have hx := X.1
  have hb := X.2.1
  intro x1 H locs ls Z hl hm
  unfold sX6_reading at hm
  refine lv_aload_n hx hb dX6_reading_0 rfl (lv_at hl 0 rfl) ?_
  refine lv_iload_n hx hb dX6_reading_1 rfl (lv_at hl 1 rfl) ?_
  rcases sReq_some hm with ⟨e1, hm⟩ | ⟨ec3, c4, e1, hm⟩
  rotate_left
  · obtain rfl := Option.some.inj hm
    exact absurd h0 c4
  refine g_callVV (n := 1) (As := [.int x1]) (rest := []) sameC X Z (nX6_requireServer_c l e1 rfl) (oX6 k160) rfl (gooV mB282 mB283 mB284 mB285 mB277) rfl (by decide +kernel) rfl ⟨Nat.le_of_ble_eq_true rfl, Nat.le_of_ble_eq_true rfl⟩ ⟨Nat.le_of_ble_eq_true rfl, Nat.le_of_ble_eq_true rfl⟩ hl.1 rfl (Nat.le_of_ble_eq_true rfl) dX6_reading_2 (fun H locs Z => ?_)
  refine lv_aload_n hx hb dX6_reading_5 rfl (lv_at hl 0 rfl) ?_
  refine g_get (j := 0) (v := .ref (G.1 0)) X Z (oX6 k160) (iB6 _) rfl (by decide) rfl (List.mem_cons_of_mem _ mB260) rfl dX6_reading_6 ?_
  refine g_get (j := 0) (v := .int (g 0 0)) X Z (oX2 k0) (iB2 _) rfl (by decide) rfl (List.mem_cons_of_mem _ mB348) rfl dX6_reading_9 ?_
  refine lv_aload_n hx hb dX6_reading_12 rfl (lv_at hl 0 rfl) ?_
  refine g_get (j := 0) (v := .ref (G.1 0)) X Z (oX6 k160) (iB6 _) rfl (by decide) rfl (List.mem_cons_of_mem _ mB260) rfl dX6_reading_13 ?_
  refine g_get (j := 3) (v := .ref (G.1 (0 + 1))) X Z (oX2 k0) (iB2 _) rfl (by decide) rfl (List.mem_cons_of_mem _ mB347) rfl dX6_reading_16 ?_
  refine lv_iload_n hx hb dX6_reading_19 rfl (lv_at hl 1 rfl) ?_
  obtain ⟨b5, hm⟩ := sIdx_some hm
  refine g_aald X Z (rS (k23 k0)) rfl b5 dX6_reading_20 ?_
  refine lv_aload_n hx hb dX6_reading_21 rfl (lv_at hl 0 rfl) ?_
  refine g_get (j := 0) (v := .ref (G.1 0)) X Z (oX6 k160) (iB6 _) rfl (by decide) rfl (List.mem_cons_of_mem _ mB260) rfl dX6_reading_22 ?_
  refine g_get (j := 0) (v := .int (g 0 0)) X Z (oX2 k0) (iB2 _) rfl (by decide) rfl (List.mem_cons_of_mem _ mB348) rfl dX6_reading_25 ?_
  obtain ⟨r8, e6, hm⟩ := sBi_some hm
  refine g_callVI (n := 1) (As := [.int (g 0 0)]) (rest := [.int (g 0 0)]) sameC X Z (cX1_offsetAt_c l (k11 (k23 k0) (vp_in_lt b5)) e6) (oX1 (k11 (k23 k0) (vp_in_lt b5))) rfl (gooV mB374 mB92 mB93 mB33 mB86) rfl (by decide +kernel) rfl ⟨Nat.le_of_ble_eq_true rfl, Nat.le_of_ble_eq_true rfl⟩ ⟨Nat.le_of_ble_eq_true rfl, Nat.le_of_ble_eq_true rfl⟩ hl.1 rfl (Nat.le_of_ble_eq_true rfl) dX6_reading_28 (fun w7 H locs Z => ?_)
  refine lv_iadd hx hb dX6_reading_31 ?_
  obtain rfl := Option.some.inj hm
  exact kI _ _ _ _ dX6_reading_32 Z (vp_nar_int _)
theorem nX6_reading_c (l : Launch) {G : LY} {g : Mem} {x1 : Int32} {r : Nat × Int32} (hm : sX6_reading g x1 = some r) (h0 : r.1 = 0) : cI l yX6_reading wmX6_reading 7 111 .int wC G [.ref (G.1 160), .int x1] g r.2 g :=
  mk_cI sameC (by decide +kernel) rfl (Nat.le_of_ble_eq_true rfl) (fun p e s m args below meth c A Q ls X kI hl Z => pX6_reading_0 X h0 kI x1 _ _ ls Z hl hm)
abbrev wmX6_synchronize : List Cond := Cond.code yX6_synchronize cX6_synchronize 3 (some .int) :: wA0
set_option maxHeartbeats 4000000 in
set_option maxRecDepth 100000 in
theorem pX6_synchronize_0 (X : gC p s m args meth c cX6_synchronize 3 wmX6_synchronize yX6_synchronize.cls (some .int) G A) {n : Nat} {r : Nat × Int32 × Mem} (h0 : r.1 = 0) (kI : ∀ (pc : Nat) (ls : Array Slot) (H : Heap) (locs : List Loc), decode cX6_synchronize pc = .ok (.ireturn, 1) → WS wC G r.2.2 A s.heap H locs → narrow .int (.int r.2.1) = .int r.2.1 → W p l e { frames := 7, cells := 0, slots := 0, locals := 113 } s m args below meth c H locs 0 0 Q (F0 m pc ls [.int r.2.1])) : ∀ (g : Mem) (x1 : Int32) (x2 : Int32) (H : Heap) (locs : List Loc) (ls : Array Slot), WS wC G g A s.heap H locs → lv_has ls 3 [(0, .ref (G.1 160)), (1, .int x1), (2, .int x2)] → sX6_synchronize n g x1 x2 = some r → W p l e { frames := 7, cells := 0, slots := 0, locals := 113 } s m args below meth c H locs 0 0 Q (F0 m 0 ls []) := by
  have hx := X.1
  have hb := X.2.1
  intro g x1 x2 H locs ls Z hl hm
  unfold sX6_synchronize at hm
  refine lv_aload_n hx hb dX6_synchronize_0 rfl (lv_at hl 0 rfl) ?_
  refine lv_iload_n hx hb dX6_synchronize_1 rfl (lv_at hl 1 rfl) ?_
  rcases sReq_some hm with ⟨e1, hm⟩ | ⟨ec3, c4, e1, hm⟩
  rotate_left
  · obtain rfl := Option.some.inj hm
    exact absurd h0 c4
  refine g_callVV (n := 1) (As := [.int x1]) (rest := []) sameC X Z (nX6_requireServer_c l e1 rfl) (oX6 k160) rfl (gooV mB282 mB283 mB284 mB285 mB277) rfl (by decide +kernel) rfl ⟨Nat.le_of_ble_eq_true rfl, Nat.le_of_ble_eq_true rfl⟩ ⟨Nat.le_of_ble_eq_true rfl, Nat.le_of_ble_eq_true rfl⟩ hl.1 rfl (Nat.le_of_ble_eq_true rfl) dX6_synchronize_2 (fun H locs Z => ?_)
  refine lv_aload_n hx hb dX6_synchronize_5 rfl (lv_at hl 0 rfl) ?_
  refine lv_iload_n hx hb dX6_synchronize_6 rfl (lv_at hl 2 rfl) ?_
  refine lv_sipush (v := (-500)) hx hb dX6_synchronize_7 (by decide) ?_
  refine lv_sipush (v := 500) hx hb dX6_synchronize_10 (by decide) ?_
  rcases sReq_some hm with ⟨e5, hm⟩ | ⟨ec7, c8, e5, hm⟩
  rotate_left
  · obtain rfl := Option.some.inj hm
    exact absurd h0 c8
  refine g_callVV (n := 3) (As := [.int x2, .int (-500), .int 500]) (rest := []) sameC X Z (nX6_requireRange_c l e5 rfl) (oX6 k160) rfl (gooV mB320 mB321 mB322 mB285 mB317) rfl (by decide +kernel) rfl ⟨Nat.le_of_ble_eq_true rfl, Nat.le_of_ble_eq_true rfl⟩ ⟨Nat.le_of_ble_eq_true rfl, Nat.le_of_ble_eq_true rfl⟩ hl.1 rfl (Nat.le_of_ble_eq_true rfl) dX6_synchronize_13 (fun H locs Z => ?_)
  refine lv_aload_n hx hb dX6_synchronize_16 rfl (lv_at hl 0 rfl) ?_
  refine g_get (j := 1) (v := .ref (G.1 153)) X Z (oX6 k160) (iB6 _) rfl (by decide) rfl (List.mem_cons_of_mem _ mB264) rfl dX6_synchronize_17 ?_
  refine lv_aload_n hx hb dX6_synchronize_20 rfl (lv_at hl 0 rfl) ?_
  refine g_get (j := 0) (v := .ref (G.1 0)) X Z (oX6 k160) (iB6 _) rfl (by decide) rfl (List.mem_cons_of_mem _ mB260) rfl dX6_synchronize_21 ?_
  obtain ⟨g11, e9, hm⟩ := sBi_some hm
  refine g_callVV (n := 1) (As := [.ref (G.1 0)]) (rest := []) sameC X Z (cX0_push_c l k0 e9) (oX0 k153) rfl (gooV mB289 mB290 mB291 mB263 mB83) rfl (by decide +kernel) rfl ⟨Nat.le_of_ble_eq_true rfl, Nat.le_of_ble_eq_true rfl⟩ ⟨Nat.le_of_ble_eq_true rfl, Nat.le_of_ble_eq_true rfl⟩ hl.1 rfl (Nat.le_of_ble_eq_true rfl) dX6_synchronize_24 (fun H locs Z => ?_)
  refine lv_aload_n hx hb dX6_synchronize_27 rfl (lv_at hl 0 rfl) ?_
  refine g_get (j := 0) (v := .ref (G.1 0)) X Z (oX6 k160) (iB6 _) rfl (by decide) rfl (List.mem_cons_of_mem _ mB260) rfl dX6_synchronize_28 ?_
  refine lv_iload_n hx hb dX6_synchronize_31 rfl (lv_at hl 1 rfl) ?_
  refine lv_iload_n hx hb dX6_synchronize_32 rfl (lv_at hl 2 rfl) ?_
  obtain ⟨r14, g15, e12, hm⟩ := sBi2_some hm
  refine g_callVI (n := 2) (As := [.int x1, .int x2]) (rest := []) sameC X Z (cX2_synchronizeClock_c l k0 e12) (oX2 k0) rfl (gooV mB343 mB344 mB345 mB43 mB227) rfl (by decide +kernel) rfl ⟨Nat.le_of_ble_eq_true rfl, Nat.le_of_ble_eq_true rfl⟩ ⟨Nat.le_of_ble_eq_true rfl, Nat.le_of_ble_eq_true rfl⟩ hl.1 rfl (Nat.le_of_ble_eq_true rfl) dX6_synchronize_33 (fun w13 H locs Z => ?_)
  obtain rfl := Option.some.inj hm
  exact kI _ _ _ _ dX6_synchronize_36 Z (vp_nar_int _)
theorem nX6_synchronize_c (l : Launch) {G : LY} {g : Mem} {n : Nat} {x1 : Int32} {x2 : Int32} {r : Nat × Int32 × Mem} (hm : sX6_synchronize n g x1 x2 = some r) (h0 : r.1 = 0) : cI l yX6_synchronize wmX6_synchronize 7 113 .int wC G [.ref (G.1 160), .int x1, .int x2] g r.2.1 r.2.2 :=
  mk_cI sameC (by decide +kernel) rfl (Nat.le_of_ble_eq_true rfl) (fun p e s m args below meth c A Q ls X kI hl Z => pX6_synchronize_0 X h0 kI g x1 x2 _ _ ls Z hl hm)
abbrev wmX6_setDrift : List Cond := Cond.code yX6_setDrift cX6_setDrift 3 (some .int) :: wA0
set_option maxHeartbeats 4000000 in
set_option maxRecDepth 100000 in
theorem pX6_setDrift_0 (X : gC p s m args meth c cX6_setDrift 3 wmX6_setDrift yX6_setDrift.cls (some .int) G A) {n : Nat} {r : Nat × Int32 × Mem} (h0 : r.1 = 0) (kI : ∀ (pc : Nat) (ls : Array Slot) (H : Heap) (locs : List Loc), decode cX6_setDrift pc = .ok (.ireturn, 1) → WS wC G r.2.2 A s.heap H locs → narrow .int (.int r.2.1) = .int r.2.1 → W p l e { frames := 7, cells := 0, slots := 0, locals := 113 } s m args below meth c H locs 0 0 Q (F0 m pc ls [.int r.2.1])) : ∀ (g : Mem) (x1 : Int32) (x2 : Int32) (H : Heap) (locs : List Loc) (ls : Array Slot), WS wC G g A s.heap H locs → lv_has ls 3 [(0, .ref (G.1 160)), (1, .int x1), (2, .int x2)] → sX6_setDrift n g x1 x2 = some r → W p l e { frames := 7, cells := 0, slots := 0, locals := 113 } s m args below meth c H locs 0 0 Q (F0 m 0 ls []) := by
  have hx := X.1
  have hb := X.2.1
  intro g x1 x2 H locs ls Z hl hm
  unfold sX6_setDrift at hm
  refine lv_aload_n hx hb dX6_setDrift_0 rfl (lv_at hl 0 rfl) ?_
  refine lv_iload_n hx hb dX6_setDrift_1 rfl (lv_at hl 1 rfl) ?_
  rcases sReq_some hm with ⟨e1, hm⟩ | ⟨ec3, c4, e1, hm⟩
  rotate_left
  · obtain rfl := Option.some.inj hm
    exact absurd h0 c4
  refine g_callVV (n := 1) (As := [.int x1]) (rest := []) sameC X Z (nX6_requireServer_c l e1 rfl) (oX6 k160) rfl (gooV mB282 mB283 mB284 mB285 mB277) rfl (by decide +kernel) rfl ⟨Nat.le_of_ble_eq_true rfl, Nat.le_of_ble_eq_true rfl⟩ ⟨Nat.le_of_ble_eq_true rfl, Nat.le_of_ble_eq_true rfl⟩ hl.1 rfl (Nat.le_of_ble_eq_true rfl) dX6_setDrift_2 (fun H locs Z => ?_)
  refine lv_aload_n hx hb dX6_setDrift_5 rfl (lv_at hl 0 rfl) ?_
  refine lv_iload_n hx hb dX6_setDrift_6 rfl (lv_at hl 2 rfl) ?_
  refine lv_bipush (v := (-100)) hx hb dX6_setDrift_7 (by decide) ?_
  refine lv_bipush (v := 100) hx hb dX6_setDrift_9 (by decide) ?_
  rcases sReq_some hm with ⟨e5, hm⟩ | ⟨ec7, c8, e5, hm⟩
  rotate_left
  · obtain rfl := Option.some.inj hm
    exact absurd h0 c8
  refine g_callVV (n := 3) (As := [.int x2, .int (-100), .int 100]) (rest := []) sameC X Z (nX6_requireRange_c l e5 rfl) (oX6 k160) rfl (gooV mB320 mB321 mB322 mB285 mB317) rfl (by decide +kernel) rfl ⟨Nat.le_of_ble_eq_true rfl, Nat.le_of_ble_eq_true rfl⟩ ⟨Nat.le_of_ble_eq_true rfl, Nat.le_of_ble_eq_true rfl⟩ hl.1 rfl (Nat.le_of_ble_eq_true rfl) dX6_setDrift_11 (fun H locs Z => ?_)
  refine lv_aload_n hx hb dX6_setDrift_14 rfl (lv_at hl 0 rfl) ?_
  refine g_get (j := 1) (v := .ref (G.1 153)) X Z (oX6 k160) (iB6 _) rfl (by decide) rfl (List.mem_cons_of_mem _ mB264) rfl dX6_setDrift_15 ?_
  refine lv_aload_n hx hb dX6_setDrift_18 rfl (lv_at hl 0 rfl) ?_
  refine g_get (j := 0) (v := .ref (G.1 0)) X Z (oX6 k160) (iB6 _) rfl (by decide) rfl (List.mem_cons_of_mem _ mB260) rfl dX6_setDrift_19 ?_
  obtain ⟨g11, e9, hm⟩ := sBi_some hm
  refine g_callVV (n := 1) (As := [.ref (G.1 0)]) (rest := []) sameC X Z (cX0_push_c l k0 e9) (oX0 k153) rfl (gooV mB289 mB290 mB291 mB263 mB83) rfl (by decide +kernel) rfl ⟨Nat.le_of_ble_eq_true rfl, Nat.le_of_ble_eq_true rfl⟩ ⟨Nat.le_of_ble_eq_true rfl, Nat.le_of_ble_eq_true rfl⟩ hl.1 rfl (Nat.le_of_ble_eq_true rfl) dX6_setDrift_22 (fun H locs Z => ?_)
  refine lv_aload_n hx hb dX6_setDrift_25 rfl (lv_at hl 0 rfl) ?_
  refine g_get (j := 0) (v := .ref (G.1 0)) X Z (oX6 k160) (iB6 _) rfl (by decide) rfl (List.mem_cons_of_mem _ mB260) rfl dX6_setDrift_26 ?_
  refine g_get (j := 3) (v := .ref (G.1 (0 + 1))) X Z (oX2 k0) (iB2 _) rfl (by decide) rfl (List.mem_cons_of_mem _ mB347) rfl dX6_setDrift_29 ?_
  refine lv_iload_n hx hb dX6_setDrift_32 rfl (lv_at hl 1 rfl) ?_
  obtain ⟨b12, hm⟩ := sIdx_some hm
  refine g_aald X Z (rS (k23 k0)) rfl b12 dX6_setDrift_33 ?_
  refine lv_iload_n hx hb dX6_setDrift_34 rfl (lv_at hl 2 rfl) ?_
  refine lv_aload_n hx hb dX6_setDrift_35 rfl (lv_at hl 0 rfl) ?_
  refine g_get (j := 0) (v := .ref (G.1 0)) X Z (oX6 k160) (iB6 _) rfl (by decide) rfl (List.mem_cons_of_mem _ mB260) rfl dX6_setDrift_36 ?_
  refine g_get (j := 0) (v := .int (g11 0 0)) X Z (oX2 k0) (iB2 _) rfl (by decide) rfl (List.mem_cons_of_mem _ mB348) rfl dX6_setDrift_39 ?_
  obtain ⟨r15, g16, e13, hm⟩ := sBi2_some hm
  refine g_callVI (n := 2) (As := [.int x2, .int (g11 0 0)]) (rest := []) sameC X Z (cX1_changeDrift_c l (k11 (k23 k0) (vp_in_lt b12)) e13) (oX1 (k11 (k23 k0) (vp_in_lt b12))) rfl (gooV mB349 mB350 mB351 mB33 mB90) rfl (by decide +kernel) rfl ⟨Nat.le_of_ble_eq_true rfl, Nat.le_of_ble_eq_true rfl⟩ ⟨Nat.le_of_ble_eq_true rfl, Nat.le_of_ble_eq_true rfl⟩ hl.1 rfl (Nat.le_of_ble_eq_true rfl) dX6_setDrift_42 (fun w14 H locs Z => ?_)
  obtain rfl := Option.some.inj hm
  exact kI _ _ _ _ dX6_setDrift_45 Z (vp_nar_int _)
theorem nX6_setDrift_c (l : Launch) {G : LY} {g : Mem} {n : Nat} {x1 : Int32} {x2 : Int32} {r : Nat × Int32 × Mem} (hm : sX6_setDrift n g x1 x2 = some r) (h0 : r.1 = 0) : cI l yX6_setDrift wmX6_setDrift 7 113 .int wC G [.ref (G.1 160), .int x1, .int x2] g r.2.1 r.2.2 :=
  mk_cI sameC (by decide +kernel) rfl (Nat.le_of_ble_eq_true rfl) (fun p e s m args below meth c A Q ls X kI hl Z => pX6_setDrift_0 X h0 kI g x1 x2 _ _ ls Z hl hm)
abbrev wmX6_setUncertainty : List Cond := Cond.code yX6_setUncertainty cX6_setUncertainty 4 (some .int) :: wA0
set_option maxHeartbeats 4000000 in
set_option maxRecDepth 100000 in
theorem pX6_setUncertainty_0 (X : gC p s m args meth c cX6_setUncertainty 4 wmX6_setUncertainty yX6_setUncertainty.cls (some .int) G A) {n : Nat} {r : Nat × Int32 × Mem} (h0 : r.1 = 0) (kI : ∀ (pc : Nat) (ls : Array Slot) (H : Heap) (locs : List Loc), decode cX6_setUncertainty pc = .ok (.ireturn, 1) → WS wC G r.2.2 A s.heap H locs → narrow .int (.int r.2.1) = .int r.2.1 → W p l e { frames := 7, cells := 0, slots := 0, locals := 113 } s m args below meth c H locs 0 0 Q (F0 m pc ls [.int r.2.1])) : ∀ (g : Mem) (x1 : Int32) (x2 : Int32) (x3 : Int32) (H : Heap) (locs : List Loc) (ls : Array Slot), WS wC G g A s.heap H locs → lv_has ls 4 [(0, .ref (G.1 160)), (1, .int x1), (2, .int x2), (3, .int x3)] → sX6_setUncertainty n g x1 x2 x3 = some r → W p l e { frames := 7, cells := 0, slots := 0, locals := 113 } s m args below meth c H locs 0 0 Q (F0 m 0 ls []) := by
  have hx := X.1
  have hb := X.2.1
  intro g x1 x2 x3 H locs ls Z hl hm
  unfold sX6_setUncertainty at hm
  refine lv_aload_n hx hb dX6_setUncertainty_0 rfl (lv_at hl 0 rfl) ?_
  refine lv_iload_n hx hb dX6_setUncertainty_1 rfl (lv_at hl 1 rfl) ?_
  rcases sReq_some hm with ⟨e1, hm⟩ | ⟨ec3, c4, e1, hm⟩
  rotate_left
  · obtain rfl := Option.some.inj hm
    exact absurd h0 c4
  refine g_callVV (n := 1) (As := [.int x1]) (rest := []) sameC X Z (nX6_requireServer_c l e1 rfl) (oX6 k160) rfl (gooV mB282 mB283 mB284 mB285 mB277) rfl (by decide +kernel) rfl ⟨Nat.le_of_ble_eq_true rfl, Nat.le_of_ble_eq_true rfl⟩ ⟨Nat.le_of_ble_eq_true rfl, Nat.le_of_ble_eq_true rfl⟩ hl.1 rfl (Nat.le_of_ble_eq_true rfl) dX6_setUncertainty_2 (fun H locs Z => ?_)
  refine lv_aload_n hx hb dX6_setUncertainty_5 rfl (lv_at hl 0 rfl) ?_
  refine lv_iload_n hx hb dX6_setUncertainty_6 rfl (lv_at hl 2 rfl) ?_
  refine lv_iconst (v := 0) hx hb dX6_setUncertainty_7 (by decide) ?_
  refine lv_sipush (v := 500) hx hb dX6_setUncertainty_8 (by decide) ?_
  rcases sReq_some hm with ⟨e5, hm⟩ | ⟨ec7, c8, e5, hm⟩
  rotate_left
  · obtain rfl := Option.some.inj hm
    exact absurd h0 c8
  refine g_callVV (n := 3) (As := [.int x2, .int 0, .int 500]) (rest := []) sameC X Z (nX6_requireRange_c l e5 rfl) (oX6 k160) rfl (gooV mB320 mB321 mB322 mB285 mB317) rfl (by decide +kernel) rfl ⟨Nat.le_of_ble_eq_true rfl, Nat.le_of_ble_eq_true rfl⟩ ⟨Nat.le_of_ble_eq_true rfl, Nat.le_of_ble_eq_true rfl⟩ hl.1 rfl (Nat.le_of_ble_eq_true rfl) dX6_setUncertainty_11 (fun H locs Z => ?_)
  refine lv_aload_n hx hb dX6_setUncertainty_14 rfl (lv_at hl 0 rfl) ?_
  refine lv_iload_n hx hb dX6_setUncertainty_15 rfl (lv_at hl 3 rfl) ?_
  refine lv_iconst (v := 0) hx hb dX6_setUncertainty_16 (by decide) ?_
  refine lv_bipush (v := 100) hx hb dX6_setUncertainty_17 (by decide) ?_
  rcases sReq_some hm with ⟨e9, hm⟩ | ⟨ec11, c12, e9, hm⟩
  rotate_left
  · obtain rfl := Option.some.inj hm
    exact absurd h0 c12
  refine g_callVV (n := 3) (As := [.int x3, .int 0, .int 100]) (rest := []) sameC X Z (nX6_requireRange_c l e9 rfl) (oX6 k160) rfl (gooV mB320 mB321 mB322 mB285 mB317) rfl (by decide +kernel) rfl ⟨Nat.le_of_ble_eq_true rfl, Nat.le_of_ble_eq_true rfl⟩ ⟨Nat.le_of_ble_eq_true rfl, Nat.le_of_ble_eq_true rfl⟩ hl.1 rfl (Nat.le_of_ble_eq_true rfl) dX6_setUncertainty_19 (fun H locs Z => ?_)
  refine lv_aload_n hx hb dX6_setUncertainty_22 rfl (lv_at hl 0 rfl) ?_
  refine g_get (j := 1) (v := .ref (G.1 153)) X Z (oX6 k160) (iB6 _) rfl (by decide) rfl (List.mem_cons_of_mem _ mB264) rfl dX6_setUncertainty_23 ?_
  refine lv_aload_n hx hb dX6_setUncertainty_26 rfl (lv_at hl 0 rfl) ?_
  refine g_get (j := 0) (v := .ref (G.1 0)) X Z (oX6 k160) (iB6 _) rfl (by decide) rfl (List.mem_cons_of_mem _ mB260) rfl dX6_setUncertainty_27 ?_
  obtain ⟨g15, e13, hm⟩ := sBi_some hm
  refine g_callVV (n := 1) (As := [.ref (G.1 0)]) (rest := []) sameC X Z (cX0_push_c l k0 e13) (oX0 k153) rfl (gooV mB289 mB290 mB291 mB263 mB83) rfl (by decide +kernel) rfl ⟨Nat.le_of_ble_eq_true rfl, Nat.le_of_ble_eq_true rfl⟩ ⟨Nat.le_of_ble_eq_true rfl, Nat.le_of_ble_eq_true rfl⟩ hl.1 rfl (Nat.le_of_ble_eq_true rfl) dX6_setUncertainty_30 (fun H locs Z => ?_)
  refine lv_aload_n hx hb dX6_setUncertainty_33 rfl (lv_at hl 0 rfl) ?_
  refine g_get (j := 0) (v := .ref (G.1 0)) X Z (oX6 k160) (iB6 _) rfl (by decide) rfl (List.mem_cons_of_mem _ mB260) rfl dX6_setUncertainty_34 ?_
  refine g_get (j := 3) (v := .ref (G.1 (0 + 1))) X Z (oX2 k0) (iB2 _) rfl (by decide) rfl (List.mem_cons_of_mem _ mB347) rfl dX6_setUncertainty_37 ?_
  refine lv_iload_n hx hb dX6_setUncertainty_40 rfl (lv_at hl 1 rfl) ?_
  obtain ⟨b16, hm⟩ := sIdx_some hm
  refine g_aald X Z (rS (k23 k0)) rfl b16 dX6_setUncertainty_41 ?_
  refine lv_iload_n hx hb dX6_setUncertainty_42 rfl (lv_at hl 2 rfl) ?_
  refine lv_iload_n hx hb dX6_setUncertainty_43 rfl (lv_at hl 3 rfl) ?_
  obtain ⟨g19, e17, hm⟩ := sBi_some hm
  refine g_callVV (n := 2) (As := [.int x2, .int x3]) (rest := []) sameC X Z (cX1_changeUncertainty_c l (k11 (k23 k0) (vp_in_lt b16)) e17) (oX1 (k11 (k23 k0) (vp_in_lt b16))) rfl (gooV mB353 mB354 mB355 mB33 mB94) rfl (by decide +kernel) rfl ⟨Nat.le_of_ble_eq_true rfl, Nat.le_of_ble_eq_true rfl⟩ ⟨Nat.le_of_ble_eq_true rfl, Nat.le_of_ble_eq_true rfl⟩ hl.1 rfl (Nat.le_of_ble_eq_true rfl) dX6_setUncertainty_44 (fun H locs Z => ?_)
  refine lv_aload_n hx hb dX6_setUncertainty_47 rfl (lv_at hl 0 rfl) ?_
  refine g_get (j := 0) (v := .ref (G.1 0)) X Z (oX6 k160) (iB6 _) rfl (by decide) rfl (List.mem_cons_of_mem _ mB260) rfl dX6_setUncertainty_48 ?_
  refine g_get (j := 3) (v := .ref (G.1 (0 + 1))) X Z (oX2 k0) (iB2 _) rfl (by decide) rfl (List.mem_cons_of_mem _ mB347) rfl dX6_setUncertainty_51 ?_
  refine lv_iload_n hx hb dX6_setUncertainty_54 rfl (lv_at hl 1 rfl) ?_
  obtain ⟨b20, hm⟩ := sIdx_some hm
  refine g_aald X Z (rS (k23 k0)) rfl b20 dX6_setUncertainty_55 ?_
  refine lv_aload_n hx hb dX6_setUncertainty_56 rfl (lv_at hl 0 rfl) ?_
  refine g_get (j := 0) (v := .ref (G.1 0)) X Z (oX6 k160) (iB6 _) rfl (by decide) rfl (List.mem_cons_of_mem _ mB260) rfl dX6_setUncertainty_57 ?_
  refine g_get (j := 0) (v := .int (g19 0 0)) X Z (oX2 k0) (iB2 _) rfl (by decide) rfl (List.mem_cons_of_mem _ mB348) rfl dX6_setUncertainty_60 ?_
  obtain ⟨r23, e21, hm⟩ := sBi_some hm
  refine g_callVI (n := 1) (As := [.int (g19 0 0)]) (rest := []) sameC X Z (cX1_uncertaintyAt_c l (k11 (k23 k0) (vp_in_lt b20)) e21) (oX1 (k11 (k23 k0) (vp_in_lt b20))) rfl (gooV mB356 mB98 mB99 mB33 mB95) rfl (by decide +kernel) rfl ⟨Nat.le_of_ble_eq_true rfl, Nat.le_of_ble_eq_true rfl⟩ ⟨Nat.le_of_ble_eq_true rfl, Nat.le_of_ble_eq_true rfl⟩ hl.1 rfl (Nat.le_of_ble_eq_true rfl) dX6_setUncertainty_63 (fun w22 H locs Z => ?_)
  obtain rfl := Option.some.inj hm
  exact kI _ _ _ _ dX6_setUncertainty_66 Z (vp_nar_int _)
theorem nX6_setUncertainty_c (l : Launch) {G : LY} {g : Mem} {n : Nat} {x1 : Int32} {x2 : Int32} {x3 : Int32} {r : Nat × Int32 × Mem} (hm : sX6_setUncertainty n g x1 x2 x3 = some r) (h0 : r.1 = 0) : cI l yX6_setUncertainty wmX6_setUncertainty 7 113 .int wC G [.ref (G.1 160), .int x1, .int x2, .int x3] g r.2.1 r.2.2 :=
  mk_cI sameC (by decide +kernel) rfl (Nat.le_of_ble_eq_true rfl) (fun p e s m args below meth c A Q ls X kI hl Z => pX6_setUncertainty_0 X h0 kI g x1 x2 x3 _ _ ls Z hl hm)
abbrev wmX6_latest : List Cond := Cond.code yX6_latest cX6_latest 2 (some .int) :: wA0
set_option maxHeartbeats 4000000 in
set_option maxRecDepth 100000 in
theorem pX6_latest_0 (X : gC p s m args meth c cX6_latest 2 wmX6_latest yX6_latest.cls (some .int) G A) {g : Mem} {r : Nat × Int32} (h0 : r.1 = 0) (kI : ∀ (pc : Nat) (ls : Array Slot) (H : Heap) (locs : List Loc), decode cX6_latest pc = .ok (.ireturn, 1) → WS wC G g A s.heap H locs → narrow .int (.int r.2) = .int r.2 → W p l e { frames := 7, cells := 0, slots := 0, locals := 111 } s m args below meth c H locs 0 0 Q (F0 m pc ls [.int r.2])) : ∀ (x1 : Int32) (H : Heap) (locs : List Loc) (ls : Array Slot), WS wC G g A s.heap H locs → lv_has ls 2 [(0, .ref (G.1 160)), (1, .int x1)] → sX6_latest g x1 = some r → W p l e { frames := 7, cells := 0, slots := 0, locals := 111 } s m args below meth c H locs 0 0 Q (F0 m 0 ls []) := by
  have hx := X.1
  have hb := X.2.1
  intro x1 H locs ls Z hl hm
  unfold sX6_latest at hm
  refine lv_aload_n hx hb dX6_latest_0 rfl (lv_at hl 0 rfl) ?_
  refine lv_iload_n hx hb dX6_latest_1 rfl (lv_at hl 1 rfl) ?_
  rcases sReq_some hm with ⟨e1, hm⟩ | ⟨ec3, c4, e1, hm⟩
  rotate_left
  · obtain rfl := Option.some.inj hm
    exact absurd h0 c4
  refine g_callVV (n := 1) (As := [.int x1]) (rest := []) sameC X Z (nX6_requireServer_c l e1 rfl) (oX6 k160) rfl (gooV mB282 mB283 mB284 mB285 mB277) rfl (by decide +kernel) rfl ⟨Nat.le_of_ble_eq_true rfl, Nat.le_of_ble_eq_true rfl⟩ ⟨Nat.le_of_ble_eq_true rfl, Nat.le_of_ble_eq_true rfl⟩ hl.1 rfl (Nat.le_of_ble_eq_true rfl) dX6_latest_2 (fun H locs Z => ?_)
  refine lv_aload_n hx hb dX6_latest_5 rfl (lv_at hl 0 rfl) ?_
  refine g_get (j := 0) (v := .ref (G.1 0)) X Z (oX6 k160) (iB6 _) rfl (by decide) rfl (List.mem_cons_of_mem _ mB260) rfl dX6_latest_6 ?_
  refine g_get (j := 3) (v := .ref (G.1 (0 + 1))) X Z (oX2 k0) (iB2 _) rfl (by decide) rfl (List.mem_cons_of_mem _ mB347) rfl dX6_latest_9 ?_
  refine lv_iload_n hx hb dX6_latest_12 rfl (lv_at hl 1 rfl) ?_
  obtain ⟨b5, hm⟩ := sIdx_some hm
  refine g_aald X Z (rS (k23 k0)) rfl b5 dX6_latest_13 ?_
  refine lv_aload_n hx hb dX6_latest_14 rfl (lv_at hl 0 rfl) ?_
  refine g_get (j := 0) (v := .ref (G.1 0)) X Z (oX6 k160) (iB6 _) rfl (by decide) rfl (List.mem_cons_of_mem _ mB260) rfl dX6_latest_15 ?_
  refine g_get (j := 0) (v := .int (g 0 0)) X Z (oX2 k0) (iB2 _) rfl (by decide) rfl (List.mem_cons_of_mem _ mB348) rfl dX6_latest_18 ?_
  obtain ⟨r8, e6, hm⟩ := sBi_some hm
  refine g_callVI (n := 1) (As := [.int (g 0 0)]) (rest := []) sameC X Z (cX1_latestAt_c l (k11 (k23 k0) (vp_in_lt b5)) e6) (oX1 (k11 (k23 k0) (vp_in_lt b5))) rfl (gooV mB377 mB105 mB106 mB33 mB100) rfl (by decide +kernel) rfl ⟨Nat.le_of_ble_eq_true rfl, Nat.le_of_ble_eq_true rfl⟩ ⟨Nat.le_of_ble_eq_true rfl, Nat.le_of_ble_eq_true rfl⟩ hl.1 rfl (Nat.le_of_ble_eq_true rfl) dX6_latest_21 (fun w7 H locs Z => ?_)
  obtain rfl := Option.some.inj hm
  exact kI _ _ _ _ dX6_latest_24 Z (vp_nar_int _)
theorem nX6_latest_c (l : Launch) {G : LY} {g : Mem} {x1 : Int32} {r : Nat × Int32} (hm : sX6_latest g x1 = some r) (h0 : r.1 = 0) : cI l yX6_latest wmX6_latest 7 111 .int wC G [.ref (G.1 160), .int x1] g r.2 g :=
  mk_cI sameC (by decide +kernel) rfl (Nat.le_of_ble_eq_true rfl) (fun p e s m args below meth c A Q ls X kI hl Z => pX6_latest_0 X h0 kI x1 _ _ ls Z hl hm)
abbrev wmX6_earliest : List Cond := Cond.code yX6_earliest cX6_earliest 2 (some .int) :: wA0
set_option maxHeartbeats 4000000 in
set_option maxRecDepth 100000 in
theorem pX6_earliest_0 (X : gC p s m args meth c cX6_earliest 2 wmX6_earliest yX6_earliest.cls (some .int) G A) {g : Mem} {r : Nat × Int32} (h0 : r.1 = 0) (kI : ∀ (pc : Nat) (ls : Array Slot) (H : Heap) (locs : List Loc), decode cX6_earliest pc = .ok (.ireturn, 1) → WS wC G g A s.heap H locs → narrow .int (.int r.2) = .int r.2 → W p l e { frames := 7, cells := 0, slots := 0, locals := 111 } s m args below meth c H locs 0 0 Q (F0 m pc ls [.int r.2])) : ∀ (x1 : Int32) (H : Heap) (locs : List Loc) (ls : Array Slot), WS wC G g A s.heap H locs → lv_has ls 2 [(0, .ref (G.1 160)), (1, .int x1)] → sX6_earliest g x1 = some r → W p l e { frames := 7, cells := 0, slots := 0, locals := 111 } s m args below meth c H locs 0 0 Q (F0 m 0 ls []) := by
  have hx := X.1
  have hb := X.2.1
  intro x1 H locs ls Z hl hm
  unfold sX6_earliest at hm
  refine lv_aload_n hx hb dX6_earliest_0 rfl (lv_at hl 0 rfl) ?_
  refine lv_iload_n hx hb dX6_earliest_1 rfl (lv_at hl 1 rfl) ?_
  rcases sReq_some hm with ⟨e1, hm⟩ | ⟨ec3, c4, e1, hm⟩
  rotate_left
  · obtain rfl := Option.some.inj hm
    exact absurd h0 c4
  refine g_callVV (n := 1) (As := [.int x1]) (rest := []) sameC X Z (nX6_requireServer_c l e1 rfl) (oX6 k160) rfl (gooV mB282 mB283 mB284 mB285 mB277) rfl (by decide +kernel) rfl ⟨Nat.le_of_ble_eq_true rfl, Nat.le_of_ble_eq_true rfl⟩ ⟨Nat.le_of_ble_eq_true rfl, Nat.le_of_ble_eq_true rfl⟩ hl.1 rfl (Nat.le_of_ble_eq_true rfl) dX6_earliest_2 (fun H locs Z => ?_)
  refine lv_aload_n hx hb dX6_earliest_5 rfl (lv_at hl 0 rfl) ?_
  refine g_get (j := 0) (v := .ref (G.1 0)) X Z (oX6 k160) (iB6 _) rfl (by decide) rfl (List.mem_cons_of_mem _ mB260) rfl dX6_earliest_6 ?_
  refine g_get (j := 3) (v := .ref (G.1 (0 + 1))) X Z (oX2 k0) (iB2 _) rfl (by decide) rfl (List.mem_cons_of_mem _ mB347) rfl dX6_earliest_9 ?_
  refine lv_iload_n hx hb dX6_earliest_12 rfl (lv_at hl 1 rfl) ?_
  obtain ⟨b5, hm⟩ := sIdx_some hm
  refine g_aald X Z (rS (k23 k0)) rfl b5 dX6_earliest_13 ?_
  refine lv_aload_n hx hb dX6_earliest_14 rfl (lv_at hl 0 rfl) ?_
  refine g_get (j := 0) (v := .ref (G.1 0)) X Z (oX6 k160) (iB6 _) rfl (by decide) rfl (List.mem_cons_of_mem _ mB260) rfl dX6_earliest_15 ?_
  refine g_get (j := 0) (v := .int (g 0 0)) X Z (oX2 k0) (iB2 _) rfl (by decide) rfl (List.mem_cons_of_mem _ mB348) rfl dX6_earliest_18 ?_
  obtain ⟨r8, e6, hm⟩ := sBi_some hm
  refine g_callVI (n := 1) (As := [.int (g 0 0)]) (rest := []) sameC X Z (cX1_earliestAt_c l (k11 (k23 k0) (vp_in_lt b5)) e6) (oX1 (k11 (k23 k0) (vp_in_lt b5))) rfl (gooV mB375 mB217 mB218 mB33 mB96) rfl (by decide +kernel) rfl ⟨Nat.le_of_ble_eq_true rfl, Nat.le_of_ble_eq_true rfl⟩ ⟨Nat.le_of_ble_eq_true rfl, Nat.le_of_ble_eq_true rfl⟩ hl.1 rfl (Nat.le_of_ble_eq_true rfl) dX6_earliest_21 (fun w7 H locs Z => ?_)
  obtain rfl := Option.some.inj hm
  exact kI _ _ _ _ dX6_earliest_24 Z (vp_nar_int _)
theorem nX6_earliest_c (l : Launch) {G : LY} {g : Mem} {x1 : Int32} {r : Nat × Int32} (hm : sX6_earliest g x1 = some r) (h0 : r.1 = 0) : cI l yX6_earliest wmX6_earliest 7 111 .int wC G [.ref (G.1 160), .int x1] g r.2 g :=
  mk_cI sameC (by decide +kernel) rfl (Nat.le_of_ble_eq_true rfl) (fun p e s m args below meth c A Q ls X kI hl Z => pX6_earliest_0 X h0 kI x1 _ _ ls Z hl hm)
abbrev wmX6_isSound : List Cond := Cond.code yX6_isSound cX6_isSound 2 (some .boolean) :: wA0
set_option maxHeartbeats 4000000 in
set_option maxRecDepth 100000 in
theorem pX6_isSound_0 (X : gC p s m args meth c cX6_isSound 2 wmX6_isSound yX6_isSound.cls (some .boolean) G A) {g : Mem} {r : Nat × Int32} (h0 : r.1 = 0) (kI : ∀ (pc : Nat) (ls : Array Slot) (H : Heap) (locs : List Loc), decode cX6_isSound pc = .ok (.ireturn, 1) → WS wC G g A s.heap H locs → narrow .boolean (.int r.2) = .int r.2 → W p l e { frames := 7, cells := 0, slots := 0, locals := 111 } s m args below meth c H locs 0 0 Q (F0 m pc ls [.int r.2])) : ∀ (x1 : Int32) (H : Heap) (locs : List Loc) (ls : Array Slot), WS wC G g A s.heap H locs → lv_has ls 2 [(0, .ref (G.1 160)), (1, .int x1)] → sX6_isSound g x1 = some r → W p l e { frames := 7, cells := 0, slots := 0, locals := 111 } s m args below meth c H locs 0 0 Q (F0 m 0 ls []) := by
  have hx := X.1
  have hb := X.2.1
  intro x1 H locs ls Z hl hm
  unfold sX6_isSound at hm
  refine lv_aload_n hx hb dX6_isSound_0 rfl (lv_at hl 0 rfl) ?_
  refine lv_iload_n hx hb dX6_isSound_1 rfl (lv_at hl 1 rfl) ?_
  rcases sReq_some hm with ⟨e1, hm⟩ | ⟨ec3, c4, e1, hm⟩
  rotate_left
  · obtain rfl := Option.some.inj hm
    exact absurd h0 c4
  refine g_callVV (n := 1) (As := [.int x1]) (rest := []) sameC X Z (nX6_requireServer_c l e1 rfl) (oX6 k160) rfl (gooV mB282 mB283 mB284 mB285 mB277) rfl (by decide +kernel) rfl ⟨Nat.le_of_ble_eq_true rfl, Nat.le_of_ble_eq_true rfl⟩ ⟨Nat.le_of_ble_eq_true rfl, Nat.le_of_ble_eq_true rfl⟩ hl.1 rfl (Nat.le_of_ble_eq_true rfl) dX6_isSound_2 (fun H locs Z => ?_)
  refine lv_aload_n hx hb dX6_isSound_5 rfl (lv_at hl 0 rfl) ?_
  refine g_get (j := 0) (v := .ref (G.1 0)) X Z (oX6 k160) (iB6 _) rfl (by decide) rfl (List.mem_cons_of_mem _ mB260) rfl dX6_isSound_6 ?_
  refine g_get (j := 3) (v := .ref (G.1 (0 + 1))) X Z (oX2 k0) (iB2 _) rfl (by decide) rfl (List.mem_cons_of_mem _ mB347) rfl dX6_isSound_9 ?_
  refine lv_iload_n hx hb dX6_isSound_12 rfl (lv_at hl 1 rfl) ?_
  obtain ⟨b5, hm⟩ := sIdx_some hm
  refine g_aald X Z (rS (k23 k0)) rfl b5 dX6_isSound_13 ?_
  refine lv_aload_n hx hb dX6_isSound_14 rfl (lv_at hl 0 rfl) ?_
  refine g_get (j := 0) (v := .ref (G.1 0)) X Z (oX6 k160) (iB6 _) rfl (by decide) rfl (List.mem_cons_of_mem _ mB260) rfl dX6_isSound_15 ?_
  refine g_get (j := 0) (v := .int (g 0 0)) X Z (oX2 k0) (iB2 _) rfl (by decide) rfl (List.mem_cons_of_mem _ mB348) rfl dX6_isSound_18 ?_
  obtain ⟨r8, e6, hm⟩ := sBi_some hm
  refine g_callVI (n := 1) (As := [.int (g 0 0)]) (rest := []) sameC X Z (cX1_isSoundAt_c l (k11 (k23 k0) (vp_in_lt b5)) e6) (oX1 (k11 (k23 k0) (vp_in_lt b5))) rfl (gooV mB379 mB198 mB199 mB33 mB101) rfl (by decide +kernel) rfl ⟨Nat.le_of_ble_eq_true rfl, Nat.le_of_ble_eq_true rfl⟩ ⟨Nat.le_of_ble_eq_true rfl, Nat.le_of_ble_eq_true rfl⟩ hl.1 rfl (Nat.le_of_ble_eq_true rfl) dX6_isSound_21 (fun w7 H locs Z => ?_)
  obtain rfl := Option.some.inj hm
  exact kI _ _ _ _ dX6_isSound_24 Z w7
theorem nX6_isSound_c (l : Launch) {G : LY} {g : Mem} {x1 : Int32} {r : Nat × Int32} (hm : sX6_isSound g x1 = some r) (h0 : r.1 = 0) : cI l yX6_isSound wmX6_isSound 7 111 .boolean wC G [.ref (G.1 160), .int x1] g r.2 g :=
  mk_cI sameC (by decide +kernel) rfl (Nat.le_of_ble_eq_true rfl) (fun p e s m args below meth c A Q ls X kI hl Z => pX6_isSound_0 X h0 kI x1 _ _ ls Z hl hm)
abbrev wmX6_ticksUntilSafe : List Cond := Cond.code yX6_ticksUntilSafe cX6_ticksUntilSafe 3 (some .int) :: wA0
set_option maxHeartbeats 4000000 in
set_option maxRecDepth 100000 in
theorem pX6_ticksUntilSafe_0 (X : gC p s m args meth c cX6_ticksUntilSafe 3 wmX6_ticksUntilSafe yX6_ticksUntilSafe.cls (some .int) G A) {n : Nat} {g : Mem} {r : Nat × Int32} (h0 : r.1 = 0) (kI : ∀ (pc : Nat) (ls : Array Slot) (H : Heap) (locs : List Loc), decode cX6_ticksUntilSafe pc = .ok (.ireturn, 1) → WS wC G g A s.heap H locs → narrow .int (.int r.2) = .int r.2 → W p l e { frames := 7, cells := 0, slots := 0, locals := 115 } s m args below meth c H locs 0 0 Q (F0 m pc ls [.int r.2])) : ∀ (x1 : Int32) (H : Heap) (locs : List Loc) (ls : Array Slot), WS wC G g A s.heap H locs → lv_has ls 3 [(0, .ref (G.1 160)), (1, .int x1)] → sX6_ticksUntilSafe n g x1 = some r → W p l e { frames := 7, cells := 0, slots := 0, locals := 115 } s m args below meth c H locs 0 0 Q (F0 m 0 ls []) := by
  have hx := X.1
  have hb := X.2.1
  intro x1 H locs ls Z hl hm
  unfold sX6_ticksUntilSafe at hm
  refine lv_aload_n hx hb dX6_ticksUntilSafe_0 rfl (lv_at hl 0 rfl) ?_
  refine lv_iload_n hx hb dX6_ticksUntilSafe_1 rfl (lv_at hl 1 rfl) ?_
  rcases sReq_some hm with ⟨e1, hm⟩ | ⟨ec3, c4, e1, hm⟩
  rotate_left
  · obtain rfl := Option.some.inj hm
    exact absurd h0 c4
  refine g_callVV (n := 1) (As := [.int x1]) (rest := []) sameC X Z (nX6_requireNotNegative_c l e1 rfl) (oX6 k160) rfl (gooV mB362 mB363 mB364 mB285 mB358) rfl (by decide +kernel) rfl ⟨Nat.le_of_ble_eq_true rfl, Nat.le_of_ble_eq_true rfl⟩ ⟨Nat.le_of_ble_eq_true rfl, Nat.le_of_ble_eq_true rfl⟩ hl.1 rfl (Nat.le_of_ble_eq_true rfl) dX6_ticksUntilSafe_2 (fun H locs Z => ?_)
  refine lv_aload_n hx hb dX6_ticksUntilSafe_5 rfl (lv_at hl 0 rfl) ?_
  refine g_get (j := 0) (v := .ref (G.1 0)) X Z (oX6 k160) (iB6 _) rfl (by decide) rfl (List.mem_cons_of_mem _ mB260) rfl dX6_ticksUntilSafe_6 ?_
  refine lv_iload_n hx hb dX6_ticksUntilSafe_9 rfl (lv_at hl 1 rfl) ?_
  refine lv_sipush (v := 10000) hx hb dX6_ticksUntilSafe_10 (by decide) ?_
  obtain ⟨r7, e5, hm⟩ := sBi_some hm
  refine g_callVI (n := 2) (As := [.int x1, .int 10000]) (rest := []) sameC X Z (cX2_ticksUntilSafeAt_c l k0 e5) (oX2 k0) rfl (gooV mB414 mB415 mB416 mB43 mB237) rfl (by decide +kernel) rfl ⟨Nat.le_of_ble_eq_true rfl, Nat.le_of_ble_eq_true rfl⟩ ⟨Nat.le_of_ble_eq_true rfl, Nat.le_of_ble_eq_true rfl⟩ hl.1 rfl (Nat.le_of_ble_eq_true rfl) dX6_ticksUntilSafe_13 (fun w6 H locs Z => ?_)
  refine lv_istore_n (lv' := [(2, .int r7), (0, .ref (G.1 160)), (1, .int x1)]) hx hb dX6_ticksUntilSafe_16 rfl hl (by decide) rfl (fun ls hl => ?_)
  refine lv_iload_n hx hb dX6_ticksUntilSafe_17 rfl (lv_at hl 0 rfl) ?_
  refine lv_sipush (v := 10000) hx hb dX6_ticksUntilSafe_18 (by decide) ?_
  refine lv_icmp_le (tgt := 28) hx hb dX6_ticksUntilSafe_21 (by decide) (fun c8 => ?_) (fun c8 => ?_)
  · replace hm := (if_pos c8).symm.trans hm
    refine lv_iload_n hx hb dX6_ticksUntilSafe_28 rfl (lv_at hl 0 rfl) ?_
    obtain rfl := Option.some.inj hm
    exact kI _ _ _ _ dX6_ticksUntilSafe_29 Z (vp_nar_int _)
  · replace hm := (if_neg c8).symm.trans hm
    refine lv_iconst (v := (-1)) hx hb dX6_ticksUntilSafe_24 (by decide) ?_
    refine lv_goto (tgt := 29) hx hb dX6_ticksUntilSafe_25 (by decide) ?_
    obtain rfl := Option.some.inj hm
    exact kI _ _ _ _ dX6_ticksUntilSafe_29 Z (vp_nar_int _)
theorem nX6_ticksUntilSafe_c (l : Launch) {G : LY} {g : Mem} {n : Nat} {x1 : Int32} {r : Nat × Int32} (hm : sX6_ticksUntilSafe n g x1 = some r) (h0 : r.1 = 0) : cI l yX6_ticksUntilSafe wmX6_ticksUntilSafe 7 115 .int wC G [.ref (G.1 160), .int x1] g r.2 g :=
  mk_cI sameC (by decide +kernel) rfl (Nat.le_of_ble_eq_true rfl) (fun p e s m args below meth c A Q ls X kI hl Z => pX6_ticksUntilSafe_0 X h0 kI x1 _ _ ls Z hl hm)
abbrev wmX6_savedStates : List Cond := Cond.code yX6_savedStates cX6_savedStates 1 (some .int) :: wA0
set_option maxHeartbeats 4000000 in
set_option maxRecDepth 100000 in
theorem bX6_savedStates_0 (X : gC p s m args meth c cX6_savedStates 1 wmX6_savedStates yX6_savedStates.cls (some .int) G A) {g : Mem} {r : Int32} (kI : ∀ (pc : Nat) (ls : Array Slot) (H : Heap) (locs : List Loc), decode cX6_savedStates pc = .ok (.ireturn, 1) → WS wC G g A s.heap H locs → narrow .int (.int r) = .int r → W p l e { frames := 0, cells := 0, slots := 0, locals := 0 } s m args below meth c H locs 0 0 Q (F0 m pc ls [.int r])) : ∀ (H : Heap) (locs : List Loc) (ls : Array Slot), WS wC G g A s.heap H locs → lv_has ls 1 [(0, .ref (G.1 160))] → sX6_savedStates g = some r → W p l e { frames := 0, cells := 0, slots := 0, locals := 0 } s m args below meth c H locs 0 0 Q (F0 m 0 ls []) := by
  have hx := X.1
  have hb := X.2.1
  intro H locs ls Z hl hm
  unfold sX6_savedStates at hm
  refine lv_aload_n hx hb dX6_savedStates_0 rfl (lv_at hl 0 rfl) ?_
  refine g_get (j := 1) (v := .ref (G.1 153)) X Z (oX6 k160) (iB6 _) rfl (by decide) rfl (List.mem_cons_of_mem _ mB264) rfl dX6_savedStates_1 ?_
  refine g_get (j := 0) (v := .int (g 153 0)) X Z (oX0 k153) (iB0 _) rfl (by decide) rfl (List.mem_cons_of_mem _ mB433) rfl dX6_savedStates_4 ?_
  obtain rfl := Option.some.inj hm
  exact kI _ _ _ _ dX6_savedStates_7 Z (vp_nar_int _)
theorem cX6_savedStates_c (l : Launch) {G : LY} {g : Mem} {r : Int32} (hm : sX6_savedStates g = some r) : cI l yX6_savedStates wmX6_savedStates 0 0 .int wC G [.ref (G.1 160)] g r g :=
  mk_cI sameC (by decide +kernel) rfl (Nat.le_of_ble_eq_true rfl) (fun p e s m args below meth c A Q ls X kI hl Z => bX6_savedStates_0 X kI  _ _ ls Z hl hm)
end GW
