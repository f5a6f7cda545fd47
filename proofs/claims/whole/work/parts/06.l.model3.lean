section GW
variable {Qc : Array Value → State → Outcome → State → Prop} {XC : String → State → State → Prop} {p : Program} {l : Launch} {e : Env} {s : State} {m : MethodId} {args : Array Value} {below : List Frame} {meth : Method} {c : Code} {Q : State → Prop} {G : LY} {A : Nat → Prop}
abbrev wmX7_isSound : List Cond := Cond.code yX7_isSound cX7_isSound 2 (some .boolean) :: wA0
set_option maxHeartbeats 4000000 in
set_option maxRecDepth 100000 in
theorem bX7_isSound_0 (X : gC p s m args meth c cX7_isSound 2 wmX7_isSound yX7_isSound.cls (some .boolean) G A) {r : Int32 × Mem} (kI : ∀ (pc : Nat) (ls : Array Slot) (H : Heap) (locs : List Loc), decode cX7_isSound pc = .ok (.ireturn, 1) → WS wM G r.2 A s.heap H locs → narrow .boolean (.int r.1) = .int r.1 → W p l e { frames := 4, cells := 0, slots := 0, locals := 88 } s m args below meth c H locs 0 0 Q (F0 m pc ls [.int r.1])) : ∀ (g : Mem) (x1 : Int32) (H : Heap) (locs : List Loc) (ls : Array Slot), WS wM G g A s.heap H locs → lv_has ls 2 [(0, .ref (G.1 0)), (1, .int x1)] → sX7_isSound g x1 = some r → W p l e { frames := 4, cells := 0, slots := 0, locals := 88 } s m args below meth c H locs 0 0 Q (F0 m 0 ls []) := by
  have hx := X.1
  have hb := X.2.1
  intro g x1 H locs ls Z hl hm
  unfold sX7_isSound at hm
  refine lv_aload_n hx hb dX7_isSound_0 rfl (lv_at hl 0 rfl) ?_
  refine lv_iload_n hx hb dX7_isSound_1 rfl (lv_at hl 1 rfl) ?_
  obtain ⟨r3, e1, hm⟩ := sBi_some hm
  refine g_callSI (n := 1) (As := [.int x1]) (rest := [.ref (G.1 0)]) sameM X Z (cX7_isServer_c l e1) (gooS mB705 mB706 mB614 mB611) rfl (by decide +kernel) rfl ⟨Nat.le_of_ble_eq_true rfl, Nat.le_of_ble_eq_true rfl⟩ ⟨Nat.le_of_ble_eq_true rfl, Nat.le_of_ble_eq_true rfl⟩ hl.1 rfl (Nat.le_of_ble_eq_true rfl) dX7_isSound_2 (fun w2 H locs Z => ?_)
  refine lv_if_eq (tgt := 12) hx hb dX7_isSound_5 (by decide) (fun c4 => ?_) (fun c4 => ?_)
  · replace hm := (if_pos c4).symm.trans hm
    refine lv_iconst (v := 1) hx hb dX7_isSound_12 (by decide) ?_
    obtain ⟨r7, g8, e5, hm⟩ := sBi2_some hm
    refine g_callVI (n := 1) (As := [.int 1]) (rest := []) sameM X Z (cX7_throwsAt_c l e5) oX7 rfl (gooV mB745 mB746 mB747 mB614 mB609) rfl (by decide +kernel) rfl ⟨Nat.le_of_ble_eq_true rfl, Nat.le_of_ble_eq_true rfl⟩ ⟨Nat.le_of_ble_eq_true rfl, Nat.le_of_ble_eq_true rfl⟩ hl.1 rfl (Nat.le_of_ble_eq_true rfl) dX7_isSound_13 (fun w6 H locs Z => ?_)
    refine lv_if_ne (tgt := 37) hx hb dX7_isSound_16 (by decide) (fun c9 => ?_) (fun c9 => ?_)
    · replace hm := (if_neg c9).symm.trans hm
      refine lv_iconst (v := 0) hx hb dX7_isSound_37 (by decide) ?_
      obtain rfl := Option.some.inj hm
      exact kI _ _ _ _ dX7_isSound_38 Z nb0
    · replace hm := (if_pos c9).symm.trans hm
      refine lv_aload_n hx hb dX7_isSound_19 rfl (lv_at hl 0 rfl) ?_
      refine lv_iload_n hx hb dX7_isSound_20 rfl (lv_at hl 1 rfl) ?_
      refine lv_aload_n hx hb dX7_isSound_21 rfl (lv_at hl 0 rfl) ?_
      refine g_get (j := 0) (v := .ref (G.1 1)) X Z oX7 (iB7 _) rfl (by decide) rfl (List.mem_cons_of_mem _ mB602) rfl dX7_isSound_22 ?_
      refine lv_iconst (v := 0) hx hb dX7_isSound_25 (by decide) ?_
      obtain ⟨b10, hm⟩ := sIdx_some hm
      refine g_iald X Z aM1 b10 dX7_isSound_26 ?_
      obtain ⟨r13, e11, hm⟩ := sBi_some hm
      refine g_callVI (n := 2) (As := [.int x1, .int (g8 1 (0 : Int32).toNatClampNeg)]) (rest := []) sameM X Z (cX7_isSoundAt_c l e11) oX7 rfl (gooV mB645 mB646 mB647 mB614 mB644) rfl (by decide +kernel) rfl ⟨Nat.le_of_ble_eq_true rfl, Nat.le_of_ble_eq_true rfl⟩ ⟨Nat.le_of_ble_eq_true rfl, Nat.le_of_ble_eq_true rfl⟩ hl.1 rfl (Nat.le_of_ble_eq_true rfl) dX7_isSound_27 (fun w12 H locs Z => ?_)
      refine lv_if_eq (tgt := 37) hx hb dX7_isSound_30 (by decide) (fun c14 => ?_) (fun c14 => ?_)
      · replace hm := (if_pos c14).symm.trans hm
        refine lv_iconst (v := 0) hx hb dX7_isSound_37 (by decide) ?_
        obtain rfl := Option.some.inj hm
        exact kI _ _ _ _ dX7_isSound_38 Z nb0
      · replace hm := (if_neg c14).symm.trans hm
        refine lv_iconst (v := 1) hx hb dX7_isSound_33 (by decide) ?_
        refine lv_goto (tgt := 38) hx hb dX7_isSound_34 (by decide) ?_
        obtain rfl := Option.some.inj hm
        exact kI _ _ _ _ dX7_isSound_38 Z nb1
  · replace hm := (if_neg c4).symm.trans hm
    refine lv_iconst (v := 0) hx hb dX7_isSound_8 (by decide) ?_
    refine lv_goto (tgt := 13) hx hb dX7_isSound_9 (by decide) ?_
    obtain ⟨r17, g18, e15, hm⟩ := sBi2_some hm
    refine g_callVI (n := 1) (As := [.int 0]) (rest := []) sameM X Z (cX7_throwsAt_c l e15) oX7 rfl (gooV mB745 mB746 mB747 mB614 mB609) rfl (by decide +kernel) rfl ⟨Nat.le_of_ble_eq_true rfl, Nat.le_of_ble_eq_true rfl⟩ ⟨Nat.le_of_ble_eq_true rfl, Nat.le_of_ble_eq_true rfl⟩ hl.1 rfl (Nat.le_of_ble_eq_true rfl) dX7_isSound_13 (fun w16 H locs Z => ?_)
    refine lv_if_ne (tgt := 37) hx hb dX7_isSound_16 (by decide) (fun c19 => ?_) (fun c19 => ?_)
    · replace hm := (if_neg c19).symm.trans hm
      refine lv_iconst (v := 0) hx hb dX7_isSound_37 (by decide) ?_
      obtain rfl := Option.some.inj hm
      exact kI _ _ _ _ dX7_isSound_38 Z nb0
    · replace hm := (if_pos c19).symm.trans hm
      refine lv_aload_n hx hb dX7_isSound_19 rfl (lv_at hl 0 rfl) ?_
      refine lv_iload_n hx hb dX7_isSound_20 rfl (lv_at hl 1 rfl) ?_
      refine lv_aload_n hx hb dX7_isSound_21 rfl (lv_at hl 0 rfl) ?_
      refine g_get (j := 0) (v := .ref (G.1 1)) X Z oX7 (iB7 _) rfl (by decide) rfl (List.mem_cons_of_mem _ mB602) rfl dX7_isSound_22 ?_
      refine lv_iconst (v := 0) hx hb dX7_isSound_25 (by decide) ?_
      obtain ⟨b20, hm⟩ := sIdx_some hm
      refine g_iald X Z aM1 b20 dX7_isSound_26 ?_
      obtain ⟨r23, e21, hm⟩ := sBi_some hm
      refine g_callVI (n := 2) (As := [.int x1, .int (g18 1 (0 : Int32).toNatClampNeg)]) (rest := []) sameM X Z (cX7_isSoundAt_c l e21) oX7 rfl (gooV mB645 mB646 mB647 mB614 mB644) rfl (by decide +kernel) rfl ⟨Nat.le_of_ble_eq_true rfl, Nat.le_of_ble_eq_true rfl⟩ ⟨Nat.le_of_ble_eq_true rfl, Nat.le_of_ble_eq_true rfl⟩ hl.1 rfl (Nat.le_of_ble_eq_true rfl) dX7_isSound_27 (fun w22 H locs Z => ?_)
      refine lv_if_eq (tgt := 37) hx hb dX7_isSound_30 (by decide) (fun c24 => ?_) (fun c24 => ?_)
      · replace hm := (if_pos c24).symm.trans hm
        refine lv_iconst (v := 0) hx hb dX7_isSound_37 (by decide) ?_
        obtain rfl := Option.some.inj hm
        exact kI _ _ _ _ dX7_isSound_38 Z nb0
      · replace hm := (if_neg c24).symm.trans hm
        refine lv_iconst (v := 1) hx hb dX7_isSound_33 (by decide) ?_
        refine lv_goto (tgt := 38) hx hb dX7_isSound_34 (by decide) ?_
        obtain rfl := Option.some.inj hm
        exact kI _ _ _ _ dX7_isSound_38 Z nb1
theorem cX7_isSound_c (l : Launch) {G : LY} {g : Mem} {x1 : Int32} {r : Int32 × Mem} (hm : sX7_isSound g x1 = some r) : cI l yX7_isSound wmX7_isSound 4 88 .boolean wM G [.ref (G.1 0), .int x1] g r.1 r.2 :=
  mk_cI sameM (by decide +kernel) rfl (Nat.le_of_ble_eq_true rfl) (fun p e s m args below meth c A Q ls X kI hl Z => bX7_isSound_0 X kI g x1 _ _ ls Z hl hm)
abbrev wmX7_nextTimestamp : List Cond := Cond.code yX7_nextTimestamp cX7_nextTimestamp 2 (some .int) :: wA0
set_option maxHeartbeats 4000000 in
set_option maxRecDepth 100000 in
theorem bX7_nextTimestamp_0 (X : gC p s m args meth c cX7_nextTimestamp 2 wmX7_nextTimestamp yX7_nextTimestamp.cls (some .int) G A) {r : Int32 × Mem} (kI : ∀ (pc : Nat) (ls : Array Slot) (H : Heap) (locs : List Loc), decode cX7_nextTimestamp pc = .ok (.ireturn, 1) → WS wM G r.2 A s.heap H locs → narrow .int (.int r.1) = .int r.1 → W p l e { frames := 4, cells := 0, slots := 0, locals := 89 } s m args below meth c H locs 0 0 Q (F0 m pc ls [.int r.1])) : ∀ (g : Mem) (x1 : Int32) (H : Heap) (locs : List Loc) (ls : Array Slot), WS wM G g A s.heap H locs → lv_has ls 2 [(0, .ref (G.1 0)), (1, .int x1)] → sX7_nextTimestamp g x1 = some r → W p l e { frames := 4, cells := 0, slots := 0, locals := 89 } s m args below meth c H locs 0 0 Q (F0 m 0 ls []) := by
  have hx := X.1
  have hb := X.2.1
  intro g x1 H locs ls Z hl hm
  unfold sX7_nextTimestamp at hm
  refine lv_aload_n hx hb dX7_nextTimestamp_0 rfl (lv_at hl 0 rfl) ?_
  refine lv_iload_n hx hb dX7_nextTimestamp_1 rfl (lv_at hl 1 rfl) ?_
  obtain ⟨r3, e1, hm⟩ := sBi_some hm
  refine g_callSI (n := 1) (As := [.int x1]) (rest := [.ref (G.1 0)]) sameM X Z (cX7_isServer_c l e1) (gooS mB705 mB706 mB614 mB611) rfl (by decide +kernel) rfl ⟨Nat.le_of_ble_eq_true rfl, Nat.le_of_ble_eq_true rfl⟩ ⟨Nat.le_of_ble_eq_true rfl, Nat.le_of_ble_eq_true rfl⟩ hl.1 rfl (Nat.le_of_ble_eq_true rfl) dX7_nextTimestamp_2 (fun w2 H locs Z => ?_)
  refine lv_if_eq (tgt := 12) hx hb dX7_nextTimestamp_5 (by decide) (fun c4 => ?_) (fun c4 => ?_)
  · replace hm := (if_pos c4).symm.trans hm
    refine lv_iconst (v := 1) hx hb dX7_nextTimestamp_12 (by decide) ?_
    obtain ⟨r7, g8, e5, hm⟩ := sBi2_some hm
    refine g_callVI (n := 1) (As := [.int 1]) (rest := []) sameM X Z (cX7_throwsAt_c l e5) oX7 rfl (gooV mB745 mB746 mB747 mB614 mB609) rfl (by decide +kernel) rfl ⟨Nat.le_of_ble_eq_true rfl, Nat.le_of_ble_eq_true rfl⟩ ⟨Nat.le_of_ble_eq_true rfl, Nat.le_of_ble_eq_true rfl⟩ hl.1 rfl (Nat.le_of_ble_eq_true rfl) dX7_nextTimestamp_13 (fun w6 H locs Z => ?_)
    refine lv_if_eq (tgt := 23) hx hb dX7_nextTimestamp_16 (by decide) (fun c9 => ?_) (fun c9 => ?_)
    · replace hm := (if_pos c9).symm.trans hm
      refine lv_aload_n hx hb dX7_nextTimestamp_23 rfl (lv_at hl 0 rfl) ?_
      refine lv_iload_n hx hb dX7_nextTimestamp_24 rfl (lv_at hl 1 rfl) ?_
      refine lv_aload_n hx hb dX7_nextTimestamp_25 rfl (lv_at hl 0 rfl) ?_
      refine g_get (j := 0) (v := .ref (G.1 1)) X Z oX7 (iB7 _) rfl (by decide) rfl (List.mem_cons_of_mem _ mB602) rfl dX7_nextTimestamp_26 ?_
      refine lv_iconst (v := 0) hx hb dX7_nextTimestamp_29 (by decide) ?_
      obtain ⟨b10, hm⟩ := sIdx_some hm
      refine g_iald X Z aM1 b10 dX7_nextTimestamp_30 ?_
      obtain ⟨r13, e11, hm⟩ := sBi_some hm
      refine g_callVI (n := 2) (As := [.int x1, .int (g8 1 (0 : Int32).toNatClampNeg)]) (rest := []) sameM X Z (cX7_next_c l e11) oX7 rfl (gooV mB687 mB688 mB689 mB614 mB686) rfl (by decide +kernel) rfl ⟨Nat.le_of_ble_eq_true rfl, Nat.le_of_ble_eq_true rfl⟩ ⟨Nat.le_of_ble_eq_true rfl, Nat.le_of_ble_eq_true rfl⟩ hl.1 rfl (Nat.le_of_ble_eq_true rfl) dX7_nextTimestamp_31 (fun w12 H locs Z => ?_)
      obtain rfl := Option.some.inj hm
      exact kI _ _ _ _ dX7_nextTimestamp_34 Z (vp_nar_int _)
    · replace hm := (if_neg c9).symm.trans hm
      refine lv_iconst (v := 0) hx hb dX7_nextTimestamp_19 (by decide) ?_
      refine lv_goto (tgt := 34) hx hb dX7_nextTimestamp_20 (by decide) ?_
      obtain rfl := Option.some.inj hm
      exact kI _ _ _ _ dX7_nextTimestamp_34 Z (vp_nar_int _)
  · replace hm := (if_neg c4).symm.trans hm
    refine lv_iconst (v := 0) hx hb dX7_nextTimestamp_8 (by decide) ?_
    refine lv_goto (tgt := 13) hx hb dX7_nextTimestamp_9 (by decide) ?_
    obtain ⟨r16, g17, e14, hm⟩ := sBi2_some hm
    refine g_callVI (n := 1) (As := [.int 0]) (rest := []) sameM X Z (cX7_throwsAt_c l e14) oX7 rfl (gooV mB745 mB746 mB747 mB614 mB609) rfl (by decide +kernel) rfl ⟨Nat.le_of_ble_eq_true rfl, Nat.le_of_ble_eq_true rfl⟩ ⟨Nat.le_of_ble_eq_true rfl, Nat.le_of_ble_eq_true rfl⟩ hl.1 rfl (Nat.le_of_ble_eq_true rfl) dX7_nextTimestamp_13 (fun w15 H locs Z => ?_)
    refine lv_if_eq (tgt := 23) hx hb dX7_nextTimestamp_16 (by decide) (fun c18 => ?_) (fun c18 => ?_)
    · replace hm := (if_pos c18).symm.trans hm
      refine lv_aload_n hx hb dX7_nextTimestamp_23 rfl (lv_at hl 0 rfl) ?_
      refine lv_iload_n hx hb dX7_nextTimestamp_24 rfl (lv_at hl 1 rfl) ?_
      refine lv_aload_n hx hb dX7_nextTimestamp_25 rfl (lv_at hl 0 rfl) ?_
      refine g_get (j := 0) (v := .ref (G.1 1)) X Z oX7 (iB7 _) rfl (by decide) rfl (List.mem_cons_of_mem _ mB602) rfl dX7_nextTimestamp_26 ?_
      refine lv_iconst (v := 0) hx hb dX7_nextTimestamp_29 (by decide) ?_
      obtain ⟨b19, hm⟩ := sIdx_some hm
      refine g_iald X Z aM1 b19 dX7_nextTimestamp_30 ?_
      obtain ⟨r22, e20, hm⟩ := sBi_some hm
      refine g_callVI (n := 2) (As := [.int x1, .int (g17 1 (0 : Int32).toNatClampNeg)]) (rest := []) sameM X Z (cX7_next_c l e20) oX7 rfl (gooV mB687 mB688 mB689 mB614 mB686) rfl (by decide +kernel) rfl ⟨Nat.le_of_ble_eq_true rfl, Nat.le_of_ble_eq_true rfl⟩ ⟨Nat.le_of_ble_eq_true rfl, Nat.le_of_ble_eq_true rfl⟩ hl.1 rfl (Nat.le_of_ble_eq_true rfl) dX7_nextTimestamp_31 (fun w21 H locs Z => ?_)
      obtain rfl := Option.some.inj hm
      exact kI _ _ _ _ dX7_nextTimestamp_34 Z (vp_nar_int _)
    · replace hm := (if_neg c18).symm.trans hm
      refine lv_iconst (v := 0) hx hb dX7_nextTimestamp_19 (by decide) ?_
      refine lv_goto (tgt := 34) hx hb dX7_nextTimestamp_20 (by decide) ?_
      obtain rfl := Option.some.inj hm
      exact kI _ _ _ _ dX7_nextTimestamp_34 Z (vp_nar_int _)
theorem cX7_nextTimestamp_c (l : Launch) {G : LY} {g : Mem} {x1 : Int32} {r : Int32 × Mem} (hm : sX7_nextTimestamp g x1 = some r) : cI l yX7_nextTimestamp wmX7_nextTimestamp 4 89 .int wM G [.ref (G.1 0), .int x1] g r.1 r.2 :=
  mk_cI sameM (by decide +kernel) rfl (Nat.le_of_ble_eq_true rfl) (fun p e s m args below meth c A Q ls X kI hl Z => bX7_nextTimestamp_0 X kI g x1 _ _ ls Z hl hm)
abbrev wmX7_transactions : List Cond := Cond.code yX7_transactions cX7_transactions 1 (some .int) :: wA0
set_option maxHeartbeats 4000000 in
set_option maxRecDepth 100000 in
theorem bX7_transactions_0 (X : gC p s m args meth c cX7_transactions 1 wmX7_transactions yX7_transactions.cls (some .int) G A) {r : Int32 × Mem} (kI : ∀ (pc : Nat) (ls : Array Slot) (H : Heap) (locs : List Loc), decode cX7_transactions pc = .ok (.ireturn, 1) → WS wM G r.2 A s.heap H locs → narrow .int (.int r.1) = .int r.1 → W p l e { frames := 0, cells := 0, slots := 0, locals := 0 } s m args below meth c H locs 0 0 Q (F0 m pc ls [.int r.1])) : ∀ (g : Mem) (H : Heap) (locs : List Loc) (ls : Array Slot), WS wM G g A s.heap H locs → lv_has ls 1 [(0, .ref (G.1 0))] → sX7_transactions g = some r → W p l e { frames := 0, cells := 0, slots := 0, locals := 0 } s m args below meth c H locs 0 0 Q (F0 m 0 ls []) := by
  have hx := X.1
  have hb := X.2.1
  intro g H locs ls Z hl hm
  unfold sX7_transactions at hm
  refine lv_aload_n hx hb dX7_transactions_0 rfl (lv_at hl 0 rfl) ?_
  refine lv_iconst (v := 0) hx hb dX7_transactions_1 (by decide) ?_
  obtain ⟨g1, eg1, hm⟩ := sLet_some hm
  refine g_put (j := 7) eg1 X Z oX7 (iB7 _) rfl tyX7_ok nmX7 (by decide) rfl rfl (Nat.le_of_ble_eq_true rfl) (p7_7 G g (0 : Int32)) rfl (List.mem_cons_of_mem _ mB608) dX7_transactions_2 (fun H locs Z => ?_)
  refine lv_aload_n hx hb dX7_transactions_5 rfl (lv_at hl 0 rfl) ?_
  refine g_get (j := 0) (v := .ref (G.1 1)) X Z oX7 (iB7 _) rfl (by decide) rfl (List.mem_cons_of_mem _ mB602) rfl dX7_transactions_6 ?_
  refine lv_iconst (v := 3) hx hb dX7_transactions_9 (by decide) ?_
  obtain ⟨b2, hm⟩ := sIdx_some hm
  refine g_iald X Z aM1 b2 dX7_transactions_10 ?_
  obtain rfl := Option.some.inj hm
  exact kI _ _ _ _ dX7_transactions_11 Z (vp_nar_int _)
theorem cX7_transactions_c (l : Launch) {G : LY} {g : Mem} {r : Int32 × Mem} (hm : sX7_transactions g = some r) : cI l yX7_transactions wmX7_transactions 0 0 .int wM G [.ref (G.1 0)] g r.1 r.2 :=
  mk_cI sameM (by decide +kernel) rfl (Nat.le_of_ble_eq_true rfl) (fun p e s m args below meth c A Q ls X kI hl Z => bX7_transactions_0 X kI g  _ _ ls Z hl hm)
abbrev wmX7_throwsFor : List Cond := Cond.code yX7_throwsFor cX7_throwsFor 2 (some .boolean) :: wA0
set_option maxHeartbeats 4000000 in
set_option maxRecDepth 100000 in
theorem bX7_throwsFor_0 (X : gC p s m args meth c cX7_throwsFor 2 wmX7_throwsFor yX7_throwsFor.cls (some .boolean) G A) {r : Int32 × Mem} (kI : ∀ (pc : Nat) (ls : Array Slot) (H : Heap) (locs : List Loc), decode cX7_throwsFor pc = .ok (.ireturn, 1) → WS wM G r.2 A s.heap H locs → narrow .boolean (.int r.1) = .int r.1 → W p l e { frames := 2, cells := 0, slots := 0, locals := 43 } s m args below meth c H locs 0 0 Q (F0 m pc ls [.int r.1])) : ∀ (g : Mem) (x1 : Int32) (H : Heap) (locs : List Loc) (ls : Array Slot), WS wM G g A s.heap H locs → lv_has ls 2 [(0, .ref (G.1 0)), (1, .int x1)] → sX7_throwsFor g x1 = some r → W p l e { frames := 2, cells := 0, slots := 0, locals := 43 } s m args below meth c H locs 0 0 Q (F0 m 0 ls []) := by
  have hx := X.1
  have hb := X.2.1
  intro g x1 H locs ls Z hl hm
  unfold sX7_throwsFor at hm
  refine lv_aload_n hx hb dX7_throwsFor_0 rfl (lv_at hl 0 rfl) ?_
  refine lv_aload_n hx hb dX7_throwsFor_1 rfl (lv_at hl 0 rfl) ?_
  refine lv_iload_n hx hb dX7_throwsFor_2 rfl (lv_at hl 1 rfl) ?_
  obtain ⟨r3, e1, hm⟩ := sBi_some hm
  refine g_callVI (n := 1) (As := [.int x1]) (rest := [.ref (G.1 0)]) sameM X Z (cX7_isTransaction_c l e1) oX7 rfl (gooV mB708 mB709 mB710 mB614 mB616) rfl (by decide +kernel) rfl ⟨Nat.le_of_ble_eq_true rfl, Nat.le_of_ble_eq_true rfl⟩ ⟨Nat.le_of_ble_eq_true rfl, Nat.le_of_ble_eq_true rfl⟩ hl.1 rfl (Nat.le_of_ble_eq_true rfl) dX7_throwsFor_3 (fun w2 H locs Z => ?_)
  refine lv_if_eq (tgt := 13) hx hb dX7_throwsFor_6 (by decide) (fun c4 => ?_) (fun c4 => ?_)
  · replace hm := (if_pos c4).symm.trans hm
    refine lv_iconst (v := 1) hx hb dX7_throwsFor_13 (by decide) ?_
    obtain ⟨r7, g8, e5, hm⟩ := sBi2_some hm
    refine g_callVI (n := 1) (As := [.int 1]) (rest := []) sameM X Z (cX7_throwsAt_c l e5) oX7 rfl (gooV mB745 mB746 mB747 mB614 mB609) rfl (by decide +kernel) rfl ⟨Nat.le_of_ble_eq_true rfl, Nat.le_of_ble_eq_true rfl⟩ ⟨Nat.le_of_ble_eq_true rfl, Nat.le_of_ble_eq_true rfl⟩ hl.1 rfl (Nat.le_of_ble_eq_true rfl) dX7_throwsFor_14 (fun w6 H locs Z => ?_)
    obtain rfl := Option.some.inj hm
    exact kI _ _ _ _ dX7_throwsFor_17 Z w6
  · replace hm := (if_neg c4).symm.trans hm
    refine lv_iconst (v := 0) hx hb dX7_throwsFor_9 (by decide) ?_
    refine lv_goto (tgt := 14) hx hb dX7_throwsFor_10 (by decide) ?_
    obtain ⟨r11, g12, e9, hm⟩ := sBi2_some hm
    refine g_callVI (n := 1) (As := [.int 0]) (rest := []) sameM X Z (cX7_throwsAt_c l e9) oX7 rfl (gooV mB745 mB746 mB747 mB614 mB609) rfl (by decide +kernel) rfl ⟨Nat.le_of_ble_eq_true rfl, Nat.le_of_ble_eq_true rfl⟩ ⟨Nat.le_of_ble_eq_true rfl, Nat.le_of_ble_eq_true rfl⟩ hl.1 rfl (Nat.le_of_ble_eq_true rfl) dX7_throwsFor_14 (fun w10 H locs Z => ?_)
    obtain rfl := Option.some.inj hm
    exact kI _ _ _ _ dX7_throwsFor_17 Z w10
theorem cX7_throwsFor_c (l : Launch) {G : LY} {g : Mem} {x1 : Int32} {r : Int32 × Mem} (hm : sX7_throwsFor g x1 = some r) : cI l yX7_throwsFor wmX7_throwsFor 2 43 .boolean wM G [.ref (G.1 0), .int x1] g r.1 r.2 :=
  mk_cI sameM (by decide +kernel) rfl (Nat.le_of_ble_eq_true rfl) (fun p e s m args below meth c A Q ls X kI hl Z => bX7_throwsFor_0 X kI g x1 _ _ ls Z hl hm)
abbrev wmX7_isStamped : List Cond := Cond.code yX7_isStamped cX7_isStamped 2 (some .boolean) :: wA0
set_option maxHeartbeats 4000000 in
set_option maxRecDepth 100000 in
theorem bX7_isStamped_0 (X : gC p s m args meth c cX7_isStamped 2 wmX7_isStamped yX7_isStamped.cls (some .boolean) G A) {g : Mem} {r : Int32} (kI : ∀ (pc : Nat) (ls : Array Slot) (H : Heap) (locs : List Loc), decode cX7_isStamped pc = .ok (.ireturn, 1) → WS wM G g A s.heap H locs → narrow .boolean (.int r) = .int r → W p l e { frames := 1, cells := 0, slots := 0, locals := 22 } s m args below meth c H locs 0 0 Q (F0 m pc ls [.int r])) : ∀ (x1 : Int32) (H : Heap) (locs : List Loc) (ls : Array Slot), WS wM G g A s.heap H locs → lv_has ls 2 [(0, .ref (G.1 0)), (1, .int x1)] → sX7_isStamped g x1 = some r → W p l e { frames := 1, cells := 0, slots := 0, locals := 22 } s m args below meth c H locs 0 0 Q (F0 m 0 ls []) := by
  have hx := X.1
  have hb := X.2.1
  intro x1 H locs ls Z hl hm
  unfold sX7_isStamped at hm
  refine lv_aload_n hx hb dX7_isStamped_0 rfl (lv_at hl 0 rfl) ?_
  refine lv_iload_n hx hb dX7_isStamped_1 rfl (lv_at hl 1 rfl) ?_
  refine lv_iconst (v := 1) hx hb dX7_isStamped_2 (by decide) ?_
  obtain ⟨r3, e1, hm⟩ := sBi_some hm
  refine g_callVI (n := 2) (As := [.int x1, .int 1]) (rest := []) sameM X Z (cX7_of_c l e1) oX7 rfl (gooV mB652 mB653 mB654 mB614 mB649) rfl (by decide +kernel) rfl ⟨Nat.le_of_ble_eq_true rfl, Nat.le_of_ble_eq_true rfl⟩ ⟨Nat.le_of_ble_eq_true rfl, Nat.le_of_ble_eq_true rfl⟩ hl.1 rfl (Nat.le_of_ble_eq_true rfl) dX7_isStamped_3 (fun w2 H locs Z => ?_)
  refine lv_iconst (v := 1) hx hb dX7_isStamped_6 (by decide) ?_
  refine lv_icmp_eq (tgt := 20) hx hb dX7_isStamped_7 (by decide) (fun c4 => ?_) (fun c4 => ?_)
  · replace hm := (if_pos c4).symm.trans hm
    refine lv_iconst (v := 1) hx hb dX7_isStamped_20 (by decide) ?_
    refine lv_goto (tgt := 25) hx hb dX7_isStamped_21 (by decide) ?_
    obtain rfl := Option.some.inj hm
    exact kI _ _ _ _ dX7_isStamped_25 Z nb1
  · replace hm := (if_neg c4).symm.trans hm
    refine lv_aload_n hx hb dX7_isStamped_10 rfl (lv_at hl 0 rfl) ?_
    refine lv_iload_n hx hb dX7_isStamped_11 rfl (lv_at hl 1 rfl) ?_
    refine lv_iconst (v := 1) hx hb dX7_isStamped_12 (by decide) ?_
    obtain ⟨r7, e5, hm⟩ := sBi_some hm
    refine g_callVI (n := 2) (As := [.int x1, .int 1]) (rest := []) sameM X Z (cX7_of_c l e5) oX7 rfl (gooV mB652 mB653 mB654 mB614 mB649) rfl (by decide +kernel) rfl ⟨Nat.le_of_ble_eq_true rfl, Nat.le_of_ble_eq_true rfl⟩ ⟨Nat.le_of_ble_eq_true rfl, Nat.le_of_ble_eq_true rfl⟩ hl.1 rfl (Nat.le_of_ble_eq_true rfl) dX7_isStamped_13 (fun w6 H locs Z => ?_)
    refine lv_iconst (v := 2) hx hb dX7_isStamped_16 (by decide) ?_
    refine lv_icmp_ne (tgt := 24) hx hb dX7_isStamped_17 (by decide) (fun c8 => ?_) (fun c8 => ?_)
    · replace hm := (if_neg c8).symm.trans hm
      refine lv_iconst (v := 0) hx hb dX7_isStamped_24 (by decide) ?_
      obtain rfl := Option.some.inj hm
      exact kI _ _ _ _ dX7_isStamped_25 Z nb0
    · replace hm := (if_pos c8).symm.trans hm
      refine lv_iconst (v := 1) hx hb dX7_isStamped_20 (by decide) ?_
      refine lv_goto (tgt := 25) hx hb dX7_isStamped_21 (by decide) ?_
      obtain rfl := Option.some.inj hm
      exact kI _ _ _ _ dX7_isStamped_25 Z nb1
theorem cX7_isStamped_c (l : Launch) {G : LY} {g : Mem} {x1 : Int32} {r : Int32} (hm : sX7_isStamped g x1 = some r) : cI l yX7_isStamped wmX7_isStamped 1 22 .boolean wM G [.ref (G.1 0), .int x1] g r g :=
  mk_cI sameM (by decide +kernel) rfl (Nat.le_of_ble_eq_true rfl) (fun p e s m args below meth c A Q ls X kI hl Z => bX7_isStamped_0 X kI x1 _ _ ls Z hl hm)
abbrev wmX7_state : List Cond := Cond.code yX7_state cX7_state 2 (some .int) :: wA0
set_option maxHeartbeats 4000000 in
set_option maxRecDepth 100000 in
theorem bX7_state_0 (X : gC p s m args meth c cX7_state 2 wmX7_state yX7_state.cls (some .int) G A) {r : Int32 × Mem} (kI : ∀ (pc : Nat) (ls : Array Slot) (H : Heap) (locs : List Loc), decode cX7_state pc = .ok (.ireturn, 1) → WS wM G r.2 A s.heap H locs → narrow .int (.int r.1) = .int r.1 → W p l e { frames := 3, cells := 0, slots := 0, locals := 64 } s m args below meth c H locs 0 0 Q (F0 m pc ls [.int r.1])) : ∀ (g : Mem) (x1 : Int32) (H : Heap) (locs : List Loc) (ls : Array Slot), WS wM G g A s.heap H locs → lv_has ls 2 [(0, .ref (G.1 0)), (1, .int x1)] → sX7_state g x1 = some r → W p l e { frames := 3, cells := 0, slots := 0, locals := 64 } s m args below meth c H locs 0 0 Q (F0 m 0 ls []) := by
  have hx := X.1
  have hb := X.2.1
  intro g x1 H locs ls Z hl hm
  unfold sX7_state at hm
  refine lv_aload_n hx hb dX7_state_0 rfl (lv_at hl 0 rfl) ?_
  refine lv_iload_n hx hb dX7_state_1 rfl (lv_at hl 1 rfl) ?_
  obtain ⟨r3, g4, e1, hm⟩ := sBi2_some hm
  refine g_callVI (n := 1) (As := [.int x1]) (rest := []) sameM X Z (cX7_throwsFor_c l e1) oX7 rfl (gooV mB868 mB869 mB870 mB614 mB865) rfl (by decide +kernel) rfl ⟨Nat.le_of_ble_eq_true rfl, Nat.le_of_ble_eq_true rfl⟩ ⟨Nat.le_of_ble_eq_true rfl, Nat.le_of_ble_eq_true rfl⟩ hl.1 rfl (Nat.le_of_ble_eq_true rfl) dX7_state_2 (fun w2 H locs Z => ?_)
  refine lv_if_eq (tgt := 12) hx hb dX7_state_5 (by decide) (fun c5 => ?_) (fun c5 => ?_)
  · replace hm := (if_pos c5).symm.trans hm
    refine lv_aload_n hx hb dX7_state_12 rfl (lv_at hl 0 rfl) ?_
    refine lv_iload_n hx hb dX7_state_13 rfl (lv_at hl 1 rfl) ?_
    refine lv_iconst (v := 1) hx hb dX7_state_14 (by decide) ?_
    obtain ⟨r8, e6, hm⟩ := sBi_some hm
    refine g_callVI (n := 2) (As := [.int x1, .int 1]) (rest := []) sameM X Z (cX7_of_c l e6) oX7 rfl (gooV mB652 mB653 mB654 mB614 mB649) rfl (by decide +kernel) rfl ⟨Nat.le_of_ble_eq_true rfl, Nat.le_of_ble_eq_true rfl⟩ ⟨Nat.le_of_ble_eq_true rfl, Nat.le_of_ble_eq_true rfl⟩ hl.1 rfl (Nat.le_of_ble_eq_true rfl) dX7_state_15 (fun w7 H locs Z => ?_)
    obtain rfl := Option.some.inj hm
    exact kI _ _ _ _ dX7_state_18 Z (vp_nar_int _)
  · replace hm := (if_neg c5).symm.trans hm
    refine lv_iconst (v := 0) hx hb dX7_state_8 (by decide) ?_
    refine lv_goto (tgt := 18) hx hb dX7_state_9 (by decide) ?_
    obtain rfl := Option.some.inj hm
    exact kI _ _ _ _ dX7_state_18 Z (vp_nar_int _)
theorem cX7_state_c (l : Launch) {G : LY} {g : Mem} {x1 : Int32} {r : Int32 × Mem} (hm : sX7_state g x1 = some r) : cI l yX7_state wmX7_state 3 64 .int wM G [.ref (G.1 0), .int x1] g r.1 r.2 :=
  mk_cI sameM (by decide +kernel) rfl (Nat.le_of_ble_eq_true rfl) (fun p e s m args below meth c A Q ls X kI hl Z => bX7_state_0 X kI g x1 _ _ ls Z hl hm)
abbrev wmX7_timestamp : List Cond := Cond.code yX7_timestamp cX7_timestamp 2 (some .int) :: wA0
set_option maxHeartbeats 4000000 in
set_option maxRecDepth 100000 in
theorem bX7_timestamp_0 (X : gC p s m args meth c cX7_timestamp 2 wmX7_timestamp yX7_timestamp.cls (some .int) G A) {r : Int32 × Mem} (kI : ∀ (pc : Nat) (ls : Array Slot) (H : Heap) (locs : List Loc), decode cX7_timestamp pc = .ok (.ireturn, 1) → WS wM G r.2 A s.heap H locs → narrow .int (.int r.1) = .int r.1 → W p l e { frames := 3, cells := 0, slots := 0, locals := 64 } s m args below meth c H locs 0 0 Q (F0 m pc ls [.int r.1])) : ∀ (g : Mem) (x1 : Int32) (H : Heap) (locs : List Loc) (ls : Array Slot), WS wM G g A s.heap H locs → lv_has ls 2 [(0, .ref (G.1 0)), (1, .int x1)] → sX7_timestamp g x1 = some r → W p l e { frames := 3, cells := 0, slots := 0, locals := 64 } s m args below meth c H locs 0 0 Q (F0 m 0 ls []) := by
  have hx := X.1
  have hb := X.2.1
  intro g x1 H locs ls Z hl hm
  unfold sX7_timestamp at hm
  refine lv_aload_n hx hb dX7_timestamp_0 rfl (lv_at hl 0 rfl) ?_
  refine lv_iload_n hx hb dX7_timestamp_1 rfl (lv_at hl 1 rfl) ?_
  obtain ⟨r3, g4, e1, hm⟩ := sBi2_some hm
  refine g_callVI (n := 1) (As := [.int x1]) (rest := []) sameM X Z (cX7_throwsFor_c l e1) oX7 rfl (gooV mB868 mB869 mB870 mB614 mB865) rfl (by decide +kernel) rfl ⟨Nat.le_of_ble_eq_true rfl, Nat.le_of_ble_eq_true rfl⟩ ⟨Nat.le_of_ble_eq_true rfl, Nat.le_of_ble_eq_true rfl⟩ hl.1 rfl (Nat.le_of_ble_eq_true rfl) dX7_timestamp_2 (fun w2 H locs Z => ?_)
  refine lv_if_eq (tgt := 12) hx hb dX7_timestamp_5 (by decide) (fun c5 => ?_) (fun c5 => ?_)
  · replace hm := (if_pos c5).symm.trans hm
    refine lv_aload_n hx hb dX7_timestamp_12 rfl (lv_at hl 0 rfl) ?_
    refine lv_iload_n hx hb dX7_timestamp_13 rfl (lv_at hl 1 rfl) ?_
    obtain ⟨r8, e6, hm⟩ := sBi_some hm
    refine g_callVI (n := 1) (As := [.int x1]) (rest := []) sameM X Z (cX7_isStamped_c l e6) oX7 rfl (gooV mB871 mB872 mB873 mB614 mB866) rfl (by decide +kernel) rfl ⟨Nat.le_of_ble_eq_true rfl, Nat.le_of_ble_eq_true rfl⟩ ⟨Nat.le_of_ble_eq_true rfl, Nat.le_of_ble_eq_true rfl⟩ hl.1 rfl (Nat.le_of_ble_eq_true rfl) dX7_timestamp_14 (fun w7 H locs Z => ?_)
    refine lv_if_eq (tgt := 29) hx hb dX7_timestamp_17 (by decide) (fun c9 => ?_) (fun c9 => ?_)
    · replace hm := (if_pos c9).symm.trans hm
      refine lv_iconst (v := (-1)) hx hb dX7_timestamp_29 (by decide) ?_
      obtain rfl := Option.some.inj hm
      exact kI _ _ _ _ dX7_timestamp_30 Z (vp_nar_int _)
    · replace hm := (if_neg c9).symm.trans hm
      refine lv_aload_n hx hb dX7_timestamp_20 rfl (lv_at hl 0 rfl) ?_
      refine lv_iload_n hx hb dX7_timestamp_21 rfl (lv_at hl 1 rfl) ?_
      refine lv_iconst (v := 2) hx hb dX7_timestamp_22 (by decide) ?_
      obtain ⟨r12, e10, hm⟩ := sBi_some hm
      refine g_callVI (n := 2) (As := [.int x1, .int 2]) (rest := []) sameM X Z (cX7_of_c l e10) oX7 rfl (gooV mB652 mB653 mB654 mB614 mB649) rfl (by decide +kernel) rfl ⟨Nat.le_of_ble_eq_true rfl, Nat.le_of_ble_eq_true rfl⟩ ⟨Nat.le_of_ble_eq_true rfl, Nat.le_of_ble_eq_true rfl⟩ hl.1 rfl (Nat.le_of_ble_eq_true rfl) dX7_timestamp_23 (fun w11 H locs Z => ?_)
      refine lv_goto (tgt := 30) hx hb dX7_timestamp_26 (by decide) ?_
      obtain rfl := Option.some.inj hm
      exact kI _ _ _ _ dX7_timestamp_30 Z (vp_nar_int _)
  · replace hm := (if_neg c5).symm.trans hm
    refine lv_iconst (v := 0) hx hb dX7_timestamp_8 (by decide) ?_
    refine lv_goto (tgt := 30) hx hb dX7_timestamp_9 (by decide) ?_
    obtain rfl := Option.some.inj hm
    exact kI _ _ _ _ dX7_timestamp_30 Z (vp_nar_int _)
theorem cX7_timestamp_c (l : Launch) {G : LY} {g : Mem} {x1 : Int32} {r : Int32 × Mem} (hm : sX7_timestamp g x1 = some r) : cI l yX7_timestamp wmX7_timestamp 3 64 .int wM G [.ref (G.1 0), .int x1] g r.1 r.2 :=
  mk_cI sameM (by decide +kernel) rfl (Nat.le_of_ble_eq_true rfl) (fun p e s m args below meth c A Q ls X kI hl Z => bX7_timestamp_0 X kI g x1 _ _ ls Z hl hm)
abbrev wmX7_requestTime : List Cond := Cond.code yX7_requestTime cX7_requestTime 2 (some .int) :: wA0
set_option maxHeartbeats 4000000 in
set_option maxRecDepth 100000 in
theorem bX7_requestTime_0 (X : gC p s m args meth c cX7_requestTime 2 wmX7_requestTime yX7_requestTime.cls (some .int) G A) {r : Int32 × Mem} (kI : ∀ (pc : Nat) (ls : Array Slot) (H : Heap) (locs : List Loc), decode cX7_requestTime pc = .ok (.ireturn, 1) → WS wM G r.2 A s.heap H locs → narrow .int (.int r.1) = .int r.1 → W p l e { frames := 3, cells := 0, slots := 0, locals := 64 } s m args below meth c H locs 0 0 Q (F0 m pc ls [.int r.1])) : ∀ (g : Mem) (x1 : Int32) (H : Heap) (locs : List Loc) (ls : Array Slot), WS wM G g A s.heap H locs → lv_has ls 2 [(0, .ref (G.1 0)), (1, .int x1)] → sX7_requestTime g x1 = some r → W p l e { frames := 3, cells := 0, slots := 0, locals := 64 } s m args below meth c H locs 0 0 Q (F0 m 0 ls []) := by
  have hx := X.1
  have hb := X.2.1
  intro g x1 H locs ls Z hl hm
  unfold sX7_requestTime at hm
  refine lv_aload_n hx hb dX7_requestTime_0 rfl (lv_at hl 0 rfl) ?_
  refine lv_iload_n hx hb dX7_requestTime_1 rfl (lv_at hl 1 rfl) ?_
  obtain ⟨r3, g4, e1, hm⟩ := sBi2_some hm
  refine g_callVI (n := 1) (As := [.int x1]) (rest := []) sameM X Z (cX7_throwsFor_c l e1) oX7 rfl (gooV mB868 mB869 mB870 mB614 mB865) rfl (by decide +kernel) rfl ⟨Nat.le_of_ble_eq_true rfl, Nat.le_of_ble_eq_true rfl⟩ ⟨Nat.le_of_ble_eq_true rfl, Nat.le_of_ble_eq_true rfl⟩ hl.1 rfl (Nat.le_of_ble_eq_true rfl) dX7_requestTime_2 (fun w2 H locs Z => ?_)
  refine lv_if_eq (tgt := 12) hx hb dX7_requestTime_5 (by decide) (fun c5 => ?_) (fun c5 => ?_)
  · replace hm := (if_pos c5).symm.trans hm
    refine lv_aload_n hx hb dX7_requestTime_12 rfl (lv_at hl 0 rfl) ?_
    refine lv_iload_n hx hb dX7_requestTime_13 rfl (lv_at hl 1 rfl) ?_
    obtain ⟨r8, e6, hm⟩ := sBi_some hm
    refine g_callVI (n := 1) (As := [.int x1]) (rest := []) sameM X Z (cX7_isStamped_c l e6) oX7 rfl (gooV mB871 mB872 mB873 mB614 mB866) rfl (by decide +kernel) rfl ⟨Nat.le_of_ble_eq_true rfl, Nat.le_of_ble_eq_true rfl⟩ ⟨Nat.le_of_ble_eq_true rfl, Nat.le_of_ble_eq_true rfl⟩ hl.1 rfl (Nat.le_of_ble_eq_true rfl) dX7_requestTime_14 (fun w7 H locs Z => ?_)
    refine lv_if_eq (tgt := 29) hx hb dX7_requestTime_17 (by decide) (fun c9 => ?_) (fun c9 => ?_)
    · replace hm := (if_pos c9).symm.trans hm
      refine lv_iconst (v := (-1)) hx hb dX7_requestTime_29 (by decide) ?_
      obtain rfl := Option.some.inj hm
      exact kI _ _ _ _ dX7_requestTime_30 Z (vp_nar_int _)
    · replace hm := (if_neg c9).symm.trans hm
      refine lv_aload_n hx hb dX7_requestTime_20 rfl (lv_at hl 0 rfl) ?_
      refine lv_iload_n hx hb dX7_requestTime_21 rfl (lv_at hl 1 rfl) ?_
      refine lv_iconst (v := 3) hx hb dX7_requestTime_22 (by decide) ?_
      obtain ⟨r12, e10, hm⟩ := sBi_some hm
      refine g_callVI (n := 2) (As := [.int x1, .int 3]) (rest := []) sameM X Z (cX7_of_c l e10) oX7 rfl (gooV mB652 mB653 mB654 mB614 mB649) rfl (by decide +kernel) rfl ⟨Nat.le_of_ble_eq_true rfl, Nat.le_of_ble_eq_true rfl⟩ ⟨Nat.le_of_ble_eq_true rfl, Nat.le_of_ble_eq_true rfl⟩ hl.1 rfl (Nat.le_of_ble_eq_true rfl) dX7_requestTime_23 (fun w11 H locs Z => ?_)
      refine lv_goto (tgt := 30) hx hb dX7_requestTime_26 (by decide) ?_
      obtain rfl := Option.some.inj hm
      exact kI _ _ _ _ dX7_requestTime_30 Z (vp_nar_int _)
  · replace hm := (if_neg c5).symm.trans hm
    refine lv_iconst (v := 0) hx hb dX7_requestTime_8 (by decide) ?_
    refine lv_goto (tgt := 30) hx hb dX7_requestTime_9 (by decide) ?_
    obtain rfl := Option.some.inj hm
    exact kI _ _ _ _ dX7_requestTime_30 Z (vp_nar_int _)
theorem cX7_requestTime_c (l : Launch) {G : LY} {g : Mem} {x1 : Int32} {r : Int32 × Mem} (hm : sX7_requestTime g x1 = some r) : cI l yX7_requestTime wmX7_requestTime 3 64 .int wM G [.ref (G.1 0), .int x1] g r.1 r.2 :=
  mk_cI sameM (by decide +kernel) rfl (Nat.le_of_ble_eq_true rfl) (fun p e s m args below meth c A Q ls X kI hl Z => bX7_requestTime_0 X kI g x1 _ _ ls Z hl hm)
abbrev wmX7_commitTime : List Cond := Cond.code yX7_commitTime cX7_commitTime 2 (some .int) :: wA0
set_option maxHeartbeats 4000000 in
set_option maxRecDepth 100000 in
theorem bX7_commitTime_0 (X : gC p s m args meth c cX7_commitTime 2 wmX7_commitTime yX7_commitTime.cls (some .int) G A) {r : Int32 × Mem} (kI : ∀ (pc : Nat) (ls : Array Slot) (H : Heap) (locs : List Loc), decode cX7_commitTime pc = .ok (.ireturn, 1) → WS wM G r.2 A s.heap H locs → narrow .int (.int r.1) = .int r.1 → W p l e { frames := 3, cells := 0, slots := 0, locals := 64 } s m args below meth c H locs 0 0 Q (F0 m pc ls [.int r.1])) : ∀ (g : Mem) (x1 : Int32) (H : Heap) (locs : List Loc) (ls : Array Slot), WS wM G g A s.heap H locs → lv_has ls 2 [(0, .ref (G.1 0)), (1, .int x1)] → sX7_commitTime g x1 = some r → W p l e { frames := 3, cells := 0, slots := 0, locals := 64 } s m args below meth c H locs 0 0 Q (F0 m 0 ls []) := by
  have hx := X.1
  have hb := X.2.1
  intro g x1 H locs ls Z hl hm
  unfold sX7_commitTime at hm
  refine lv_aload_n hx hb dX7_commitTime_0 rfl (lv_at hl 0 rfl) ?_
  refine lv_iload_n hx hb dX7_commitTime_1 rfl (lv_at hl 1 rfl) ?_
  obtain ⟨r3, g4, e1, hm⟩ := sBi2_some hm
  refine g_callVI (n := 1) (As := [.int x1]) (rest := []) sameM X Z (cX7_throwsFor_c l e1) oX7 rfl (gooV mB868 mB869 mB870 mB614 mB865) rfl (by decide +kernel) rfl ⟨Nat.le_of_ble_eq_true rfl, Nat.le_of_ble_eq_true rfl⟩ ⟨Nat.le_of_ble_eq_true rfl, Nat.le_of_ble_eq_true rfl⟩ hl.1 rfl (Nat.le_of_ble_eq_true rfl) dX7_commitTime_2 (fun w2 H locs Z => ?_)
  refine lv_if_eq (tgt := 12) hx hb dX7_commitTime_5 (by decide) (fun c5 => ?_) (fun c5 => ?_)
  · replace hm := (if_pos c5).symm.trans hm
    refine lv_aload_n hx hb dX7_commitTime_12 rfl (lv_at hl 0 rfl) ?_
    refine lv_iload_n hx hb dX7_commitTime_13 rfl (lv_at hl 1 rfl) ?_
    refine lv_iconst (v := 1) hx hb dX7_commitTime_14 (by decide) ?_
    obtain ⟨r8, e6, hm⟩ := sBi_some hm
    refine g_callVI (n := 2) (As := [.int x1, .int 1]) (rest := []) sameM X Z (cX7_of_c l e6) oX7 rfl (gooV mB652 mB653 mB654 mB614 mB649) rfl (by decide +kernel) rfl ⟨Nat.le_of_ble_eq_true rfl, Nat.le_of_ble_eq_true rfl⟩ ⟨Nat.le_of_ble_eq_true rfl, Nat.le_of_ble_eq_true rfl⟩ hl.1 rfl (Nat.le_of_ble_eq_true rfl) dX7_commitTime_15 (fun w7 H locs Z => ?_)
    refine lv_iconst (v := 2) hx hb dX7_commitTime_18 (by decide) ?_
    refine lv_icmp_ne (tgt := 31) hx hb dX7_commitTime_19 (by decide) (fun c9 => ?_) (fun c9 => ?_)
    · replace hm := (if_neg c9).symm.trans hm
      refine lv_iconst (v := (-1)) hx hb dX7_commitTime_31 (by decide) ?_
      obtain rfl := Option.some.inj hm
      exact kI _ _ _ _ dX7_commitTime_32 Z (vp_nar_int _)
    · replace hm := (if_pos c9).symm.trans hm
      refine lv_aload_n hx hb dX7_commitTime_22 rfl (lv_at hl 0 rfl) ?_
      refine lv_iload_n hx hb dX7_commitTime_23 rfl (lv_at hl 1 rfl) ?_
      refine lv_iconst (v := 4) hx hb dX7_commitTime_24 (by decide) ?_
      obtain ⟨r12, e10, hm⟩ := sBi_some hm
      refine g_callVI (n := 2) (As := [.int x1, .int 4]) (rest := []) sameM X Z (cX7_of_c l e10) oX7 rfl (gooV mB652 mB653 mB654 mB614 mB649) rfl (by decide +kernel) rfl ⟨Nat.le_of_ble_eq_true rfl, Nat.le_of_ble_eq_true rfl⟩ ⟨Nat.le_of_ble_eq_true rfl, Nat.le_of_ble_eq_true rfl⟩ hl.1 rfl (Nat.le_of_ble_eq_true rfl) dX7_commitTime_25 (fun w11 H locs Z => ?_)
      refine lv_goto (tgt := 32) hx hb dX7_commitTime_28 (by decide) ?_
      obtain rfl := Option.some.inj hm
      exact kI _ _ _ _ dX7_commitTime_32 Z (vp_nar_int _)
  · replace hm := (if_neg c5).symm.trans hm
    refine lv_iconst (v := 0) hx hb dX7_commitTime_8 (by decide) ?_
    refine lv_goto (tgt := 32) hx hb dX7_commitTime_9 (by decide) ?_
    obtain rfl := Option.some.inj hm
    exact kI _ _ _ _ dX7_commitTime_32 Z (vp_nar_int _)
theorem cX7_commitTime_c (l : Launch) {G : LY} {g : Mem} {x1 : Int32} {r : Int32 × Mem} (hm : sX7_commitTime g x1 = some r) : cI l yX7_commitTime wmX7_commitTime 3 64 .int wM G [.ref (G.1 0), .int x1] g r.1 r.2 :=
  mk_cI sameM (by decide +kernel) rfl (Nat.le_of_ble_eq_true rfl) (fun p e s m args below meth c A Q ls X kI hl Z => bX7_commitTime_0 X kI g x1 _ _ ls Z hl hm)
abbrev wmX7_bufferedValue : List Cond := Cond.code yX7_bufferedValue cX7_bufferedValue 4 (some .int) :: wA0
set_option maxHeartbeats 4000000 in
set_option maxRecDepth 100000 in
theorem bX7_bufferedValue_19 (X : gC p s m args meth c cX7_bufferedValue 4 wmX7_bufferedValue yX7_bufferedValue.cls (some .int) G A) {r : Int32 × Mem} (kI : ∀ (pc : Nat) (ls : Array Slot) (H : Heap) (locs : List Loc), decode cX7_bufferedValue pc = .ok (.ireturn, 1) → WS wM G r.2 A s.heap H locs → narrow .int (.int r.1) = .int r.1 → W p l e { frames := 2, cells := 0, slots := 0, locals := 43 } s m args below meth c H locs 0 0 Q (F0 m pc ls [.int r.1])) : ∀ (g : Mem) (x1 : Int32) (x2 : Int32) (H : Heap) (locs : List Loc) (ls : Array Slot), WS wM G g A s.heap H locs → lv_has ls 4 [(0, .ref (G.1 0)), (1, .int x1), (2, .int x2)] → sX7_bufferedValue_19 g x1 x2 = some r → W p l e { frames := 2, cells := 0, slots := 0, locals := 43 } s m args below meth c H locs 0 0 Q (F0 m 19 ls []) := by
  have hx := X.1
  have hb := X.2.1
  intro g x1 x2 H locs ls Z hl hm
  unfold sX7_bufferedValue_19 at hm
  refine lv_iconst (v := 0) hx hb dX7_bufferedValue_19 (by decide) ?_
  refine lv_istore_n (lv' := [(3, .int 0), (0, .ref (G.1 0)), (1, .int x1), (2, .int x2)]) hx hb dX7_bufferedValue_20 rfl hl (by decide) rfl (fun ls hl => ?_)
  refine lv_aload_n hx hb dX7_bufferedValue_21 rfl (lv_at hl 1 rfl) ?_
  refine lv_iload_n hx hb dX7_bufferedValue_22 rfl (lv_at hl 0 rfl) ?_
  refine lv_if_eq (tgt := 30) hx hb dX7_bufferedValue_23 (by decide) (fun c1 => ?_) (fun c1 => ?_)
  rotate_left
  · first | exact absurd c1 (by decide) | exact absurd (by decide) c1
  refine lv_iconst (v := 1) hx hb dX7_bufferedValue_30 (by decide) ?_
  obtain ⟨r4, g5, e2, hm⟩ := sBi2_some hm
  refine g_callVI (n := 1) (As := [.int 1]) (rest := []) sameM X Z (cX7_throwsAt_c l e2) oX7 rfl (gooV mB745 mB746 mB747 mB614 mB609) rfl (by decide +kernel) rfl ⟨Nat.le_of_ble_eq_true rfl, Nat.le_of_ble_eq_true rfl⟩ ⟨Nat.le_of_ble_eq_true rfl, Nat.le_of_ble_eq_true rfl⟩ hl.1 rfl (Nat.le_of_ble_eq_true rfl) dX7_bufferedValue_31 (fun w3 H locs Z => ?_)
  refine lv_if_eq (tgt := 41) hx hb dX7_bufferedValue_34 (by decide) (fun c6 => ?_) (fun c6 => ?_)
  · replace hm := (if_pos c6).symm.trans hm
    refine lv_aload_n hx hb dX7_bufferedValue_41 rfl (lv_at hl 1 rfl) ?_
    refine lv_iload_n hx hb dX7_bufferedValue_42 rfl (lv_at hl 2 rfl) ?_
    refine lv_iconst (v := 5) hx hb dX7_bufferedValue_43 (by decide) ?_
    refine lv_iload_n hx hb dX7_bufferedValue_44 rfl (lv_at hl 3 rfl) ?_
    refine lv_iadd hx hb dX7_bufferedValue_45 ?_
    obtain ⟨r9, e7, hm⟩ := sBi_some hm
    refine g_callVI (n := 2) (As := [.int x1, .int ((5 : Int32) + x2)]) (rest := []) sameM X Z (cX7_of_c l e7) oX7 rfl (gooV mB652 mB653 mB654 mB614 mB649) rfl (by decide +kernel) rfl ⟨Nat.le_of_ble_eq_true rfl, Nat.le_of_ble_eq_true rfl⟩ ⟨Nat.le_of_ble_eq_true rfl, Nat.le_of_ble_eq_true rfl⟩ hl.1 rfl (Nat.le_of_ble_eq_true rfl) dX7_bufferedValue_46 (fun w8 H locs Z => ?_)
    obtain rfl := Option.some.inj hm
    exact kI _ _ _ _ dX7_bufferedValue_49 Z (vp_nar_int _)
  · replace hm := (if_neg c6).symm.trans hm
    refine lv_iconst (v := 0) hx hb dX7_bufferedValue_37 (by decide) ?_
    refine lv_goto (tgt := 49) hx hb dX7_bufferedValue_38 (by decide) ?_
    obtain rfl := Option.some.inj hm
    exact kI _ _ _ _ dX7_bufferedValue_49 Z (vp_nar_int _)
set_option maxHeartbeats 4000000 in
set_option maxRecDepth 100000 in
theorem bX7_bufferedValue_0 (X : gC p s m args meth c cX7_bufferedValue 4 wmX7_bufferedValue yX7_bufferedValue.cls (some .int) G A) {r : Int32 × Mem} (kI : ∀ (pc : Nat) (ls : Array Slot) (H : Heap) (locs : List Loc), decode cX7_bufferedValue pc = .ok (.ireturn, 1) → WS wM G r.2 A s.heap H locs → narrow .int (.int r.1) = .int r.1 → W p l e { frames := 2, cells := 0, slots := 0, locals := 43 } s m args below meth c H locs 0 0 Q (F0 m pc ls [.int r.1])) : ∀ (g : Mem) (x1 : Int32) (x2 : Int32) (H : Heap) (locs : List Loc) (ls : Array Slot), WS wM G g A s.heap H locs → lv_has ls 4 [(0, .ref (G.1 0)), (1, .int x1), (2, .int x2)] → sX7_bufferedValue g x1 x2 = some r → W p l e { frames := 2, cells := 0, slots := 0, locals := 43 } s m args below meth c H locs 0 0 Q (F0 m 0 ls []) := by
  have hx := X.1
  have hb := X.2.1
  intro g x1 x2 H locs ls Z hl hm
  unfold sX7_bufferedValue at hm
  refine lv_aload_n hx hb dX7_bufferedValue_0 rfl (lv_at hl 0 rfl) ?_
  refine lv_iload_n hx hb dX7_bufferedValue_1 rfl (lv_at hl 1 rfl) ?_
  obtain ⟨r3, e1, hm⟩ := sBi_some hm
  refine g_callVI (n := 1) (As := [.int x1]) (rest := []) sameM X Z (cX7_isTransaction_c l e1) oX7 rfl (gooV mB708 mB709 mB710 mB614 mB616) rfl (by decide +kernel) rfl ⟨Nat.le_of_ble_eq_true rfl, Nat.le_of_ble_eq_true rfl⟩ ⟨Nat.le_of_ble_eq_true rfl, Nat.le_of_ble_eq_true rfl⟩ hl.1 rfl (Nat.le_of_ble_eq_true rfl) dX7_bufferedValue_2 (fun w2 H locs Z => ?_)
  refine lv_if_eq (tgt := 19) hx hb dX7_bufferedValue_5 (by decide) (fun c4 => ?_) (fun c4 => ?_)
  · replace hm := (if_pos c4).symm.trans hm
    exact bX7_bufferedValue_19 X kI g x1 x2 _ _ _ Z (lv_sub hl [0, 1, 2] rfl) hm
  · replace hm := (if_neg c4).symm.trans hm
    refine lv_iload_n hx hb dX7_bufferedValue_8 rfl (lv_at hl 2 rfl) ?_
    obtain ⟨r7, e5, hm⟩ := sBi_some hm
    refine g_callSI (n := 1) (As := [.int x2]) (rest := []) sameM X Z (cX7_isKey_c l e5) (gooS mB712 mB713 mB614 mB615) rfl (by decide +kernel) rfl ⟨Nat.le_of_ble_eq_true rfl, Nat.le_of_ble_eq_true rfl⟩ ⟨Nat.le_of_ble_eq_true rfl, Nat.le_of_ble_eq_true rfl⟩ hl.1 rfl (Nat.le_of_ble_eq_true rfl) dX7_bufferedValue_9 (fun w6 H locs Z => ?_)
    refine lv_if_eq (tgt := 19) hx hb dX7_bufferedValue_12 (by decide) (fun c8 => ?_) (fun c8 => ?_)
    · replace hm := (if_pos c8).symm.trans hm
      exact bX7_bufferedValue_19 X kI g x1 x2 _ _ _ Z (lv_sub hl [0, 1, 2] rfl) hm
    · replace hm := (if_neg c8).symm.trans hm
      refine lv_iconst (v := 1) hx hb dX7_bufferedValue_15 (by decide) ?_
      refine lv_goto (tgt := 20) hx hb dX7_bufferedValue_16 (by decide) ?_
      refine lv_istore_n (lv' := [(3, .int 1), (0, .ref (G.1 0)), (1, .int x1), (2, .int x2)]) hx hb dX7_bufferedValue_20 rfl hl (by decide) rfl (fun ls hl => ?_)
      refine lv_aload_n hx hb dX7_bufferedValue_21 rfl (lv_at hl 1 rfl) ?_
      refine lv_iload_n hx hb dX7_bufferedValue_22 rfl (lv_at hl 0 rfl) ?_
      refine lv_if_eq (tgt := 30) hx hb dX7_bufferedValue_23 (by decide) (fun c9 => ?_) (fun c9 => ?_)
      · first | exact absurd c9 (by decide) | exact absurd (by decide) c9
      refine lv_iconst (v := 0) hx hb dX7_bufferedValue_26 (by decide) ?_
      refine lv_goto (tgt := 31) hx hb dX7_bufferedValue_27 (by decide) ?_
      obtain ⟨r12, g13, e10, hm⟩ := sBi2_some hm
      refine g_callVI (n := 1) (As := [.int 0]) (rest := []) sameM X Z (cX7_throwsAt_c l e10) oX7 rfl (gooV mB745 mB746 mB747 mB614 mB609) rfl (by decide +kernel) rfl ⟨Nat.le_of_ble_eq_true rfl, Nat.le_of_ble_eq_true rfl⟩ ⟨Nat.le_of_ble_eq_true rfl, Nat.le_of_ble_eq_true rfl⟩ hl.1 rfl (Nat.le_of_ble_eq_true rfl) dX7_bufferedValue_31 (fun w11 H locs Z => ?_)
      refine lv_if_eq (tgt := 41) hx hb dX7_bufferedValue_34 (by decide) (fun c14 => ?_) (fun c14 => ?_)
      · replace hm := (if_pos c14).symm.trans hm
        refine lv_aload_n hx hb dX7_bufferedValue_41 rfl (lv_at hl 1 rfl) ?_
        refine lv_iload_n hx hb dX7_bufferedValue_42 rfl (lv_at hl 2 rfl) ?_
        refine lv_iconst (v := 5) hx hb dX7_bufferedValue_43 (by decide) ?_
        refine lv_iload_n hx hb dX7_bufferedValue_44 rfl (lv_at hl 3 rfl) ?_
        refine lv_iadd hx hb dX7_bufferedValue_45 ?_
        obtain ⟨r17, e15, hm⟩ := sBi_some hm
        refine g_callVI (n := 2) (As := [.int x1, .int ((5 : Int32) + x2)]) (rest := []) sameM X Z (cX7_of_c l e15) oX7 rfl (gooV mB652 mB653 mB654 mB614 mB649) rfl (by decide +kernel) rfl ⟨Nat.le_of_ble_eq_true rfl, Nat.le_of_ble_eq_true rfl⟩ ⟨Nat.le_of_ble_eq_true rfl, Nat.le_of_ble_eq_true rfl⟩ hl.1 rfl (Nat.le_of_ble_eq_true rfl) dX7_bufferedValue_46 (fun w16 H locs Z => ?_)
        obtain rfl := Option.some.inj hm
        exact kI _ _ _ _ dX7_bufferedValue_49 Z (vp_nar_int _)
      · replace hm := (if_neg c14).symm.trans hm
        refine lv_iconst (v := 0) hx hb dX7_bufferedValue_37 (by decide) ?_
        refine lv_goto (tgt := 49) hx hb dX7_bufferedValue_38 (by decide) ?_
        obtain rfl := Option.some.inj hm
        exact kI _ _ _ _ dX7_bufferedValue_49 Z (vp_nar_int _)
theorem cX7_bufferedValue_c (l : Launch) {G : LY} {g : Mem} {x1 : Int32} {x2 : Int32} {r : Int32 × Mem} (hm : sX7_bufferedValue g x1 x2 = some r) : cI l yX7_bufferedValue wmX7_bufferedValue 2 43 .int wM G [.ref (G.1 0), .int x1, .int x2] g r.1 r.2 :=
  mk_cI sameM (by decide +kernel) rfl (Nat.le_of_ble_eq_true rfl) (fun p e s m args below meth c A Q ls X kI hl Z => bX7_bufferedValue_0 X kI g x1 x2 _ _ ls Z hl hm)
abbrev wmX7_recordedTimestamp : List Cond := Cond.code yX7_recordedTimestamp cX7_recordedTimestamp 4 (some .int) :: wA0
set_option maxHeartbeats 4000000 in
set_option maxRecDepth 100000 in
theorem bX7_recordedTimestamp_19 (X : gC p s m args meth c cX7_recordedTimestamp 4 wmX7_recordedTimestamp yX7_recordedTimestamp.cls (some .int) G A) {r : Int32 × Mem} (kI : ∀ (pc : Nat) (ls : Array Slot) (H : Heap) (locs : List Loc), decode cX7_recordedTimestamp pc = .ok (.ireturn, 1) → WS wM G r.2 A s.heap H locs → narrow .int (.int r.1) = .int r.1 → W p l e { frames := 2, cells := 0, slots := 0, locals := 43 } s m args below meth c H locs 0 0 Q (F0 m pc ls [.int r.1])) : ∀ (g : Mem) (x1 : Int32) (x2 : Int32) (H : Heap) (locs : List Loc) (ls : Array Slot), WS wM G g A s.heap H locs → lv_has ls 4 [(0, .ref (G.1 0)), (1, .int x1), (2, .int x2)] → sX7_recordedTimestamp_19 g x1 x2 = some r → W p l e { frames := 2, cells := 0, slots := 0, locals := 43 } s m args below meth c H locs 0 0 Q (F0 m 19 ls []) := by
  have hx := X.1
  have hb := X.2.1
  intro g x1 x2 H locs ls Z hl hm
  unfold sX7_recordedTimestamp_19 at hm
  refine lv_iconst (v := 0) hx hb dX7_recordedTimestamp_19 (by decide) ?_
  refine lv_istore_n (lv' := [(3, .int 0), (0, .ref (G.1 0)), (1, .int x1), (2, .int x2)]) hx hb dX7_recordedTimestamp_20 rfl hl (by decide) rfl (fun ls hl => ?_)
  refine lv_aload_n hx hb dX7_recordedTimestamp_21 rfl (lv_at hl 1 rfl) ?_
  refine lv_iload_n hx hb dX7_recordedTimestamp_22 rfl (lv_at hl 0 rfl) ?_
  refine lv_if_eq (tgt := 30) hx hb dX7_recordedTimestamp_23 (by decide) (fun c1 => ?_) (fun c1 => ?_)
  rotate_left
  · first | exact absurd c1 (by decide) | exact absurd (by decide) c1
  refine lv_iconst (v := 1) hx hb dX7_recordedTimestamp_30 (by decide) ?_
  obtain ⟨r4, g5, e2, hm⟩ := sBi2_some hm
  refine g_callVI (n := 1) (As := [.int 1]) (rest := []) sameM X Z (cX7_throwsAt_c l e2) oX7 rfl (gooV mB745 mB746 mB747 mB614 mB609) rfl (by decide +kernel) rfl ⟨Nat.le_of_ble_eq_true rfl, Nat.le_of_ble_eq_true rfl⟩ ⟨Nat.le_of_ble_eq_true rfl, Nat.le_of_ble_eq_true rfl⟩ hl.1 rfl (Nat.le_of_ble_eq_true rfl) dX7_recordedTimestamp_31 (fun w3 H locs Z => ?_)
  refine lv_if_eq (tgt := 41) hx hb dX7_recordedTimestamp_34 (by decide) (fun c6 => ?_) (fun c6 => ?_)
  · replace hm := (if_pos c6).symm.trans hm
    refine lv_aload_n hx hb dX7_recordedTimestamp_41 rfl (lv_at hl 1 rfl) ?_
    refine lv_iload_n hx hb dX7_recordedTimestamp_42 rfl (lv_at hl 2 rfl) ?_
    refine lv_bipush (v := 13) hx hb dX7_recordedTimestamp_43 (by decide) ?_
    refine lv_iload_n hx hb dX7_recordedTimestamp_45 rfl (lv_at hl 3 rfl) ?_
    refine lv_iadd hx hb dX7_recordedTimestamp_46 ?_
    obtain ⟨r9, e7, hm⟩ := sBi_some hm
    refine g_callVI (n := 2) (As := [.int x1, .int ((13 : Int32) + x2)]) (rest := []) sameM X Z (cX7_of_c l e7) oX7 rfl (gooV mB652 mB653 mB654 mB614 mB649) rfl (by decide +kernel) rfl ⟨Nat.le_of_ble_eq_true rfl, Nat.le_of_ble_eq_true rfl⟩ ⟨Nat.le_of_ble_eq_true rfl, Nat.le_of_ble_eq_true rfl⟩ hl.1 rfl (Nat.le_of_ble_eq_true rfl) dX7_recordedTimestamp_47 (fun w8 H locs Z => ?_)
    obtain rfl := Option.some.inj hm
    exact kI _ _ _ _ dX7_recordedTimestamp_50 Z (vp_nar_int _)
  · replace hm := (if_neg c6).symm.trans hm
    refine lv_iconst (v := 0) hx hb dX7_recordedTimestamp_37 (by decide) ?_
    refine lv_goto (tgt := 50) hx hb dX7_recordedTimestamp_38 (by decide) ?_
    obtain rfl := Option.some.inj hm
    exact kI _ _ _ _ dX7_recordedTimestamp_50 Z (vp_nar_int _)
set_option maxHeartbeats 4000000 in
set_option maxRecDepth 100000 in
theorem bX7_recordedTimestamp_0 (X : gC p s m args meth c cX7_recordedTimestamp 4 wmX7_recordedTimestamp yX7_recordedTimestamp.cls (some .int) G A) {r : Int32 × Mem} (kI : ∀ (pc : Nat) (ls : Array Slot) (H : Heap) (locs : List Loc), decode cX7_recordedTimestamp pc = .ok (.ireturn, 1) → WS wM G r.2 A s.heap H locs → narrow .int (.int r.1) = .int r.1 → W p l e { frames := 2, cells := 0, slots := 0, locals := 43 } s m args below meth c H locs 0 0 Q (F0 m pc ls [.int r.1])) : ∀ (g : Mem) (x1 : Int32) (x2 : Int32) (H : Heap) (locs : List Loc) (ls : Array Slot), WS wM G g A s.heap H locs → lv_has ls 4 [(0, .ref (G.1 0)), (1, .int x1), (2, .int x2)] → sX7_recordedTimestamp g x1 x2 = some r → W p l e { frames := 2, cells := 0, slots := 0, locals := 43 } s m args below meth c H locs 0 0 Q (F0 m 0 ls []) := by
  have hx := X.1
  have hb := X.2.1
  intro g x1 x2 H locs ls Z hl hm
  unfold sX7_recordedTimestamp at hm
  refine lv_aload_n hx hb dX7_recordedTimestamp_0 rfl (lv_at hl 0 rfl) ?_
  refine lv_iload_n hx hb dX7_recordedTimestamp_1 rfl (lv_at hl 1 rfl) ?_
  obtain ⟨r3, e1, hm⟩ := sBi_some hm
  refine g_callVI (n := 1) (As := [.int x1]) (rest := []) sameM X Z (cX7_isTransaction_c l e1) oX7 rfl (gooV mB708 mB709 mB710 mB614 mB616) rfl (by decide +kernel) rfl ⟨Nat.le_of_ble_eq_true rfl, Nat.le_of_ble_eq_true rfl⟩ ⟨Nat.le_of_ble_eq_true rfl, Nat.le_of_ble_eq_true rfl⟩ hl.1 rfl (Nat.le_of_ble_eq_true rfl) dX7_recordedTimestamp_2 (fun w2 H locs Z => ?_)
  refine lv_if_eq (tgt := 19) hx hb dX7_recordedTimestamp_5 (by decide) (fun c4 => ?_) (fun c4 => ?_)
  · replace hm := (if_pos c4).symm.trans hm
    exact bX7_recordedTimestamp_19 X kI g x1 x2 _ _ _ Z (lv_sub hl [0, 1, 2] rfl) hm
  · replace hm := (if_neg c4).symm.trans hm
    refine lv_iload_n hx hb dX7_recordedTimestamp_8 rfl (lv_at hl 2 rfl) ?_
    obtain ⟨r7, e5, hm⟩ := sBi_some hm
    refine g_callSI (n := 1) (As := [.int x2]) (rest := []) sameM X Z (cX7_isKey_c l e5) (gooS mB712 mB713 mB614 mB615) rfl (by decide +kernel) rfl ⟨Nat.le_of_ble_eq_true rfl, Nat.le_of_ble_eq_true rfl⟩ ⟨Nat.le_of_ble_eq_true rfl, Nat.le_of_ble_eq_true rfl⟩ hl.1 rfl (Nat.le_of_ble_eq_true rfl) dX7_recordedTimestamp_9 (fun w6 H locs Z => ?_)
    refine lv_if_eq (tgt := 19) hx hb dX7_recordedTimestamp_12 (by decide) (fun c8 => ?_) (fun c8 => ?_)
    · replace hm := (if_pos c8).symm.trans hm
      exact bX7_recordedTimestamp_19 X kI g x1 x2 _ _ _ Z (lv_sub hl [0, 1, 2] rfl) hm
    · replace hm := (if_neg c8).symm.trans hm
      refine lv_iconst (v := 1) hx hb dX7_recordedTimestamp_15 (by decide) ?_
      refine lv_goto (tgt := 20) hx hb dX7_recordedTimestamp_16 (by decide) ?_
      refine lv_istore_n (lv' := [(3, .int 1), (0, .ref (G.1 0)), (1, .int x1), (2, .int x2)]) hx hb dX7_recordedTimestamp_20 rfl hl (by decide) rfl (fun ls hl => ?_)
      refine lv_aload_n hx hb dX7_recordedTimestamp_21 rfl (lv_at hl 1 rfl) ?_
      refine lv_iload_n hx hb dX7_recordedTimestamp_22 rfl (lv_at hl 0 rfl) ?_
      refine lv_if_eq (tgt := 30) hx hb dX7_recordedTimestamp_23 (by decide) (fun c9 => ?_) (fun c9 => ?_)
      · first | exact absurd c9 (by decide) | exact absurd (by decide) c9
      refine lv_iconst (v := 0) hx hb dX7_recordedTimestamp_26 (by decide) ?_
      refine lv_goto (tgt := 31) hx hb dX7_recordedTimestamp_27 (by decide) ?_
      obtain ⟨r12, g13, e10, hm⟩ := sBi2_some hm
      refine g_callVI (n := 1) (As := [.int 0]) (rest := []) sameM X Z (cX7_throwsAt_c l e10) oX7 rfl (gooV mB745 mB746 mB747 mB614 mB609) rfl (by decide +kernel) rfl ⟨Nat.le_of_ble_eq_true rfl, Nat.le_of_ble_eq_true rfl⟩ ⟨Nat.le_of_ble_eq_true rfl, Nat.le_of_ble_eq_true rfl⟩ hl.1 rfl (Nat.le_of_ble_eq_true rfl) dX7_recordedTimestamp_31 (fun w11 H locs Z => ?_)
      refine lv_if_eq (tgt := 41) hx hb dX7_recordedTimestamp_34 (by decide) (fun c14 => ?_) (fun c14 => ?_)
      · replace hm := (if_pos c14).symm.trans hm
        refine lv_aload_n hx hb dX7_recordedTimestamp_41 rfl (lv_at hl 1 rfl) ?_
        refine lv_iload_n hx hb dX7_recordedTimestamp_42 rfl (lv_at hl 2 rfl) ?_
        refine lv_bipush (v := 13) hx hb dX7_recordedTimestamp_43 (by decide) ?_
        refine lv_iload_n hx hb dX7_recordedTimestamp_45 rfl (lv_at hl 3 rfl) ?_
        refine lv_iadd hx hb dX7_recordedTimestamp_46 ?_
        obtain ⟨r17, e15, hm⟩ := sBi_some hm
        refine g_callVI (n := 2) (As := [.int x1, .int ((13 : Int32) + x2)]) (rest := []) sameM X Z (cX7_of_c l e15) oX7 rfl (gooV mB652 mB653 mB654 mB614 mB649) rfl (by decide +kernel) rfl ⟨Nat.le_of_ble_eq_true rfl, Nat.le_of_ble_eq_true rfl⟩ ⟨Nat.le_of_ble_eq_true rfl, Nat.le_of_ble_eq_true rfl⟩ hl.1 rfl (Nat.le_of_ble_eq_true rfl) dX7_recordedTimestamp_47 (fun w16 H locs Z => ?_)
        obtain rfl := Option.some.inj hm
        exact kI _ _ _ _ dX7_recordedTimestamp_50 Z (vp_nar_int _)
      · replace hm := (if_neg c14).symm.trans hm
        refine lv_iconst (v := 0) hx hb dX7_recordedTimestamp_37 (by decide) ?_
        refine lv_goto (tgt := 50) hx hb dX7_recordedTimestamp_38 (by decide) ?_
        obtain rfl := Option.some.inj hm
        exact kI _ _ _ _ dX7_recordedTimestamp_50 Z (vp_nar_int _)
theorem cX7_recordedTimestamp_c (l : Launch) {G : LY} {g : Mem} {x1 : Int32} {x2 : Int32} {r : Int32 × Mem} (hm : sX7_recordedTimestamp g x1 x2 = some r) : cI l yX7_recordedTimestamp wmX7_recordedTimestamp 2 43 .int wM G [.ref (G.1 0), .int x1, .int x2] g r.1 r.2 :=
  mk_cI sameM (by decide +kernel) rfl (Nat.le_of_ble_eq_true rfl) (fun p e s m args below meth c A Q ls X kI hl Z => bX7_recordedTimestamp_0 X kI g x1 x2 _ _ ls Z hl hm)
abbrev wmX7_ifCommitted : List Cond := Cond.code yX7_ifCommitted cX7_ifCommitted 2 (some .int) :: wA0
set_option maxHeartbeats 4000000 in
set_option maxRecDepth 100000 in
theorem bX7_ifCommitted_0 (X : gC p s m args meth c cX7_ifCommitted 2 wmX7_ifCommitted yX7_ifCommitted.cls (some .int) G A) {n : Nat} {r : Int32 × Mem} (kI : ∀ (pc : Nat) (ls : Array Slot) (H : Heap) (locs : List Loc), decode cX7_ifCommitted pc = .ok (.ireturn, 1) → WS wM G r.2 A s.heap H locs → narrow .int (.int r.1) = .int r.1 → W p l e { frames := 7, cells := 0, slots := 0, locals := 157 } s m args below meth c H locs 0 0 Q (F0 m pc ls [.int r.1])) : ∀ (g : Mem) (x1 : Int32) (H : Heap) (locs : List Loc) (ls : Array Slot), WS wM G g A s.heap H locs → lv_has ls 2 [(0, .ref (G.1 0)), (1, .int x1)] → sX7_ifCommitted n g x1 = some r → W p l e { frames := 7, cells := 0, slots := 0, locals := 157 } s m args below meth c H locs 0 0 Q (F0 m 0 ls []) := by
  have hx := X.1
  have hb := X.2.1
  intro g x1 H locs ls Z hl hm
  unfold sX7_ifCommitted at hm
  refine lv_aload_n hx hb dX7_ifCommitted_0 rfl (lv_at hl 0 rfl) ?_
  refine lv_iload_n hx hb dX7_ifCommitted_1 rfl (lv_at hl 1 rfl) ?_
  obtain ⟨r3, g4, e1, hm⟩ := sBi2_some hm
  refine g_callVI (n := 1) (As := [.int x1]) (rest := []) sameM X Z (cX7_throwsFor_c l e1) oX7 rfl (gooV mB868 mB869 mB870 mB614 mB865) rfl (by decide +kernel) rfl ⟨Nat.le_of_ble_eq_true rfl, Nat.le_of_ble_eq_true rfl⟩ ⟨Nat.le_of_ble_eq_true rfl, Nat.le_of_ble_eq_true rfl⟩ hl.1 rfl (Nat.le_of_ble_eq_true rfl) dX7_ifCommitted_2 (fun w2 H locs Z => ?_)
  refine lv_if_eq (tgt := 12) hx hb dX7_ifCommitted_5 (by decide) (fun c5 => ?_) (fun c5 => ?_)
  · replace hm := (if_pos c5).symm.trans hm
    refine lv_aload_n hx hb dX7_ifCommitted_12 rfl (lv_at hl 0 rfl) ?_
    refine lv_iload_n hx hb dX7_ifCommitted_13 rfl (lv_at hl 1 rfl) ?_
    refine lv_iconst (v := 1) hx hb dX7_ifCommitted_14 (by decide) ?_
    obtain ⟨r8, e6, hm⟩ := sBi_some hm
    refine g_callVI (n := 2) (As := [.int x1, .int 1]) (rest := []) sameM X Z (cX7_of_c l e6) oX7 rfl (gooV mB652 mB653 mB654 mB614 mB649) rfl (by decide +kernel) rfl ⟨Nat.le_of_ble_eq_true rfl, Nat.le_of_ble_eq_true rfl⟩ ⟨Nat.le_of_ble_eq_true rfl, Nat.le_of_ble_eq_true rfl⟩ hl.1 rfl (Nat.le_of_ble_eq_true rfl) dX7_ifCommitted_15 (fun w7 H locs Z => ?_)
    refine lv_if_ne (tgt := 29) hx hb dX7_ifCommitted_18 (by decide) (fun c9 => ?_) (fun c9 => ?_)
    · replace hm := (if_neg c9).symm.trans hm
      refine lv_iconst (v := (-1)) hx hb dX7_ifCommitted_29 (by decide) ?_
      obtain rfl := Option.some.inj hm
      exact kI _ _ _ _ dX7_ifCommitted_30 Z (vp_nar_int _)
    · replace hm := (if_pos c9).symm.trans hm
      refine lv_aload_n hx hb dX7_ifCommitted_21 rfl (lv_at hl 0 rfl) ?_
      refine lv_iload_n hx hb dX7_ifCommitted_22 rfl (lv_at hl 1 rfl) ?_
      obtain ⟨r12, e10, hm⟩ := sBi_some hm
      refine g_callVI (n := 1) (As := [.int x1]) (rest := []) sameM X Z (cX7_outcome_c l e10) oX7 rfl (gooV mB769 mB770 mB771 mB614 mB703) rfl (by decide +kernel) rfl ⟨Nat.le_of_ble_eq_true rfl, Nat.le_of_ble_eq_true rfl⟩ ⟨Nat.le_of_ble_eq_true rfl, Nat.le_of_ble_eq_true rfl⟩ hl.1 rfl (Nat.le_of_ble_eq_true rfl) dX7_ifCommitted_23 (fun w11 H locs Z => ?_)
      refine lv_goto (tgt := 30) hx hb dX7_ifCommitted_26 (by decide) ?_
      obtain rfl := Option.some.inj hm
      exact kI _ _ _ _ dX7_ifCommitted_30 Z (vp_nar_int _)
  · replace hm := (if_neg c5).symm.trans hm
    refine lv_iconst (v := 0) hx hb dX7_ifCommitted_8 (by decide) ?_
    refine lv_goto (tgt := 30) hx hb dX7_ifCommitted_9 (by decide) ?_
    obtain rfl := Option.some.inj hm
    exact kI _ _ _ _ dX7_ifCommitted_30 Z (vp_nar_int _)
theorem cX7_ifCommitted_c (l : Launch) {G : LY} {g : Mem} {n : Nat} {x1 : Int32} {r : Int32 × Mem} (hm : sX7_ifCommitted n g x1 = some r) : cI l yX7_ifCommitted wmX7_ifCommitted 7 157 .int wM G [.ref (G.1 0), .int x1] g r.1 r.2 :=
  mk_cI sameM (by decide +kernel) rfl (Nat.le_of_ble_eq_true rfl) (fun p e s m args below meth c A Q ls X kI hl Z => bX7_ifCommitted_0 X kI g x1 _ _ ls Z hl hm)
abbrev wmX7_ticksToCommit : List Cond := Cond.code yX7_ticksToCommit cX7_ticksToCommit 3 (some .int) :: wA0
set_option maxHeartbeats 4000000 in
set_option maxRecDepth 100000 in
theorem bX7_ticksToCommit_38 (X : gC p s m args meth c cX7_ticksToCommit 3 wmX7_ticksToCommit yX7_ticksToCommit.cls (some .int) G A) {n : Nat} {r : Int32 × Mem} (kI : ∀ (pc : Nat) (ls : Array Slot) (H : Heap) (locs : List Loc), decode cX7_ticksToCommit pc = .ok (.ireturn, 1) → WS wM G r.2 A s.heap H locs → narrow .int (.int r.1) = .int r.1 → W p l e { frames := 3, cells := 0, slots := 0, locals := 66 } s m args below meth c H locs 0 0 Q (F0 m pc ls [.int r.1])) : ∀ (f : Nat), ∀ (g : Mem) (x1 : Int32) (x2 : Int32) (H : Heap) (locs : List Loc) (ls : Array Slot), WS wM G g A s.heap H locs → lv_has ls 3 [(0, .ref (G.1 0)), (1, .int x1), (2, .int x2)] → sX7_ticksToCommit_38 n f g x1 x2 = some r → W p l e { frames := 3, cells := 0, slots := 0, locals := 66 } s m args below meth c H locs 0 0 Q (F0 m 38 ls []) := by
  have hx := X.1
  have hb := X.2.1
  intro f
  induction f with
  | zero =>
    intro g x1 x2 H locs ls Z hl hm
    cases hm
  | succ f ih =>
    intro g x1 x2 H locs ls Z hl hm
    unfold sX7_ticksToCommit_38 at hm
    refine lv_iload_n hx hb dX7_ticksToCommit_38 rfl (lv_at hl 2 rfl) ?_
    refine lv_sipush (v := 10000) hx hb dX7_ticksToCommit_39 (by decide) ?_
    refine lv_icmp_gt (tgt := 80) hx hb dX7_ticksToCommit_42 (by decide) (fun c1 => ?_) (fun c1 => ?_)
    · replace hm := (if_pos c1).symm.trans hm
      refine lv_iconst (v := (-1)) hx hb dX7_ticksToCommit_80 (by decide) ?_
      obtain rfl := Option.some.inj hm
      exact kI _ _ _ _ dX7_ticksToCommit_81 Z (vp_nar_int _)
    · replace hm := (if_neg c1).symm.trans hm
      refine lv_aload_n hx hb dX7_ticksToCommit_45 rfl (lv_at hl 0 rfl) ?_
      refine lv_iload_n hx hb dX7_ticksToCommit_46 rfl (lv_at hl 1 rfl) ?_
      refine lv_iconst (v := 2) hx hb dX7_ticksToCommit_47 (by decide) ?_
      obtain ⟨r4, e2, hm⟩ := sBi_some hm
      refine g_callVI (n := 2) (As := [.int x1, .int 2]) (rest := []) sameM X Z (cX7_of_c l e2) oX7 rfl (gooV mB652 mB653 mB654 mB614 mB649) rfl (by decide +kernel) rfl ⟨Nat.le_of_ble_eq_true rfl, Nat.le_of_ble_eq_true rfl⟩ ⟨Nat.le_of_ble_eq_true rfl, Nat.le_of_ble_eq_true rfl⟩ hl.1 rfl (Nat.le_of_ble_eq_true rfl) dX7_ticksToCommit_48 (fun w3 H locs Z => ?_)
      refine lv_aload_n hx hb dX7_ticksToCommit_51 rfl (lv_at hl 0 rfl) ?_
      refine lv_aload_n hx hb dX7_ticksToCommit_52 rfl (lv_at hl 0 rfl) ?_
      refine lv_iload_n hx hb dX7_ticksToCommit_53 rfl (lv_at hl 1 rfl) ?_
      refine lv_iconst (v := 0) hx hb dX7_ticksToCommit_54 (by decide) ?_
      obtain ⟨r7, e5, hm⟩ := sBi_some hm
      refine g_callVI (n := 2) (As := [.int x1, .int 0]) (rest := [.ref (G.1 0), .int r4]) sameM X Z (cX7_of_c l e5) oX7 rfl (gooV mB652 mB653 mB654 mB614 mB649) rfl (by decide +kernel) rfl ⟨Nat.le_of_ble_eq_true rfl, Nat.le_of_ble_eq_true rfl⟩ ⟨Nat.le_of_ble_eq_true rfl, Nat.le_of_ble_eq_true rfl⟩ hl.1 rfl (Nat.le_of_ble_eq_true rfl) dX7_ticksToCommit_55 (fun w6 H locs Z => ?_)
      refine lv_aload_n hx hb dX7_ticksToCommit_58 rfl (lv_at hl 0 rfl) ?_
      refine g_get (j := 0) (v := .ref (G.1 1)) X Z oX7 (iB7 _) rfl (by decide) rfl (List.mem_cons_of_mem _ mB602) rfl dX7_ticksToCommit_59 ?_
      refine lv_iconst (v := 0) hx hb dX7_ticksToCommit_62 (by decide) ?_
      obtain ⟨b8, hm⟩ := sIdx_some hm
      refine g_iald X Z aM1 b8 dX7_ticksToCommit_63 ?_
      refine lv_iload_n hx hb dX7_ticksToCommit_64 rfl (lv_at hl 2 rfl) ?_
      refine lv_iadd hx hb dX7_ticksToCommit_65 ?_
      obtain ⟨r11, e9, hm⟩ := sBi_some hm
      refine g_callVI (n := 2) (As := [.int r7, .int ((g 1 (0 : Int32).toNatClampNeg) + x2)]) (rest := [.int r4]) sameM X Z (cX7_earliestAt_c l e9) oX7 rfl (gooV mB638 mB639 mB640 mB614 mB630) rfl (by decide +kernel) rfl ⟨Nat.le_of_ble_eq_true rfl, Nat.le_of_ble_eq_true rfl⟩ ⟨Nat.le_of_ble_eq_true rfl, Nat.le_of_ble_eq_true rfl⟩ hl.1 rfl (Nat.le_of_ble_eq_true rfl) dX7_ticksToCommit_66 (fun w10 H locs Z => ?_)
      refine lv_icmp_ge (tgt := 74) hx hb dX7_ticksToCommit_69 (by decide) (fun c12 => ?_) (fun c12 => ?_)
      · replace hm := (if_pos c12).symm.trans hm
        refine lv_iinc (v := (x2 + (1 : Int32))) (lv' := [(2, .int (x2 + (1 : Int32))), (0, .ref (G.1 0)), (1, .int x1)]) hx hb dX7_ticksToCommit_74 hl (k := 2) rfl rfl (by decide) rfl (fun ls hl => ?_)
        refine lv_goto (tgt := 38) hx hb dX7_ticksToCommit_77 (by decide) ?_
        exact ih g x1 (x2 + (1 : Int32)) _ _ _ Z (lv_sub hl [1, 2, 0] rfl) hm
      · replace hm := (if_neg c12).symm.trans hm
        refine lv_iload_n hx hb dX7_ticksToCommit_72 rfl (lv_at hl 2 rfl) ?_
        obtain rfl := Option.some.inj hm
        exact kI _ _ _ _ dX7_ticksToCommit_73 Z (vp_nar_int _)
set_option maxHeartbeats 4000000 in
set_option maxRecDepth 100000 in
theorem bX7_ticksToCommit_0 (X : gC p s m args meth c cX7_ticksToCommit 3 wmX7_ticksToCommit yX7_ticksToCommit.cls (some .int) G A) {n : Nat} {r : Int32 × Mem} (kI : ∀ (pc : Nat) (ls : Array Slot) (H : Heap) (locs : List Loc), decode cX7_ticksToCommit pc = .ok (.ireturn, 1) → WS wM G r.2 A s.heap H locs → narrow .int (.int r.1) = .int r.1 → W p l e { frames := 3, cells := 0, slots := 0, locals := 66 } s m args below meth c H locs 0 0 Q (F0 m pc ls [.int r.1])) : ∀ (g : Mem) (x1 : Int32) (H : Heap) (locs : List Loc) (ls : Array Slot), WS wM G g A s.heap H locs → lv_has ls 3 [(0, .ref (G.1 0)), (1, .int x1)] → sX7_ticksToCommit n g x1 = some r → W p l e { frames := 3, cells := 0, slots := 0, locals := 66 } s m args below meth c H locs 0 0 Q (F0 m 0 ls []) := by
  have hx := X.1
  have hb := X.2.1
  intro g x1 H locs ls Z hl hm
  unfold sX7_ticksToCommit at hm
  refine lv_aload_n hx hb dX7_ticksToCommit_0 rfl (lv_at hl 0 rfl) ?_
  refine lv_iload_n hx hb dX7_ticksToCommit_1 rfl (lv_at hl 1 rfl) ?_
  obtain ⟨r3, g4, e1, hm⟩ := sBi2_some hm
  refine g_callVI (n := 1) (As := [.int x1]) (rest := []) sameM X Z (cX7_throwsFor_c l e1) oX7 rfl (gooV mB868 mB869 mB870 mB614 mB865) rfl (by decide +kernel) rfl ⟨Nat.le_of_ble_eq_true rfl, Nat.le_of_ble_eq_true rfl⟩ ⟨Nat.le_of_ble_eq_true rfl, Nat.le_of_ble_eq_true rfl⟩ hl.1 rfl (Nat.le_of_ble_eq_true rfl) dX7_ticksToCommit_2 (fun w2 H locs Z => ?_)
  refine lv_if_eq (tgt := 10) hx hb dX7_ticksToCommit_5 (by decide) (fun c5 => ?_) (fun c5 => ?_)
  · replace hm := (if_pos c5).symm.trans hm
    refine lv_aload_n hx hb dX7_ticksToCommit_10 rfl (lv_at hl 0 rfl) ?_
    refine lv_iload_n hx hb dX7_ticksToCommit_11 rfl (lv_at hl 1 rfl) ?_
    refine lv_iconst (v := 1) hx hb dX7_ticksToCommit_12 (by decide) ?_
    obtain ⟨r8, e6, hm⟩ := sBi_some hm
    refine g_callVI (n := 2) (As := [.int x1, .int 1]) (rest := []) sameM X Z (cX7_of_c l e6) oX7 rfl (gooV mB652 mB653 mB654 mB614 mB649) rfl (by decide +kernel) rfl ⟨Nat.le_of_ble_eq_true rfl, Nat.le_of_ble_eq_true rfl⟩ ⟨Nat.le_of_ble_eq_true rfl, Nat.le_of_ble_eq_true rfl⟩ hl.1 rfl (Nat.le_of_ble_eq_true rfl) dX7_ticksToCommit_13 (fun w7 H locs Z => ?_)
    refine lv_iconst (v := 1) hx hb dX7_ticksToCommit_16 (by decide) ?_
    refine lv_icmp_eq (tgt := 36) hx hb dX7_ticksToCommit_17 (by decide) (fun c9 => ?_) (fun c9 => ?_)
    · replace hm := (if_pos c9).symm.trans hm
      refine lv_iconst (v := 1) hx hb dX7_ticksToCommit_36 (by decide) ?_
      refine lv_istore_n (lv' := [(2, .int 1), (0, .ref (G.1 0)), (1, .int x1)]) hx hb dX7_ticksToCommit_37 rfl hl (by decide) rfl (fun ls hl => ?_)
      exact bX7_ticksToCommit_38 X kI n g4 x1 (1 : Int32) _ _ _ Z (lv_sub hl [1, 2, 0] rfl) hm
    · replace hm := (if_neg c9).symm.trans hm
      refine lv_aload_n hx hb dX7_ticksToCommit_20 rfl (lv_at hl 0 rfl) ?_
      refine lv_iload_n hx hb dX7_ticksToCommit_21 rfl (lv_at hl 1 rfl) ?_
      refine lv_iconst (v := 1) hx hb dX7_ticksToCommit_22 (by decide) ?_
      obtain ⟨r12, e10, hm⟩ := sBi_some hm
      refine g_callVI (n := 2) (As := [.int x1, .int 1]) (rest := []) sameM X Z (cX7_of_c l e10) oX7 rfl (gooV mB652 mB653 mB654 mB614 mB649) rfl (by decide +kernel) rfl ⟨Nat.le_of_ble_eq_true rfl, Nat.le_of_ble_eq_true rfl⟩ ⟨Nat.le_of_ble_eq_true rfl, Nat.le_of_ble_eq_true rfl⟩ hl.1 rfl (Nat.le_of_ble_eq_true rfl) dX7_ticksToCommit_23 (fun w11 H locs Z => ?_)
      refine lv_iconst (v := 2) hx hb dX7_ticksToCommit_26 (by decide) ?_
      refine lv_icmp_ne (tgt := 34) hx hb dX7_ticksToCommit_27 (by decide) (fun c13 => ?_) (fun c13 => ?_)
      · replace hm := (if_neg c13).symm.trans hm
        refine lv_iconst (v := (-1)) hx hb dX7_ticksToCommit_34 (by decide) ?_
        obtain rfl := Option.some.inj hm
        exact kI _ _ _ _ dX7_ticksToCommit_35 Z (vp_nar_int _)
      · replace hm := (if_pos c13).symm.trans hm
        refine lv_iconst (v := 0) hx hb dX7_ticksToCommit_30 (by decide) ?_
        refine lv_goto (tgt := 35) hx hb dX7_ticksToCommit_31 (by decide) ?_
        obtain rfl := Option.some.inj hm
        exact kI _ _ _ _ dX7_ticksToCommit_35 Z (vp_nar_int _)
  · replace hm := (if_neg c5).symm.trans hm
    refine lv_iconst (v := 0) hx hb dX7_ticksToCommit_8 (by decide) ?_
    obtain rfl := Option.some.inj hm
    exact kI _ _ _ _ dX7_ticksToCommit_9 Z (vp_nar_int _)
theorem cX7_ticksToCommit_c (l : Launch) {G : LY} {g : Mem} {n : Nat} {x1 : Int32} {r : Int32 × Mem} (hm : sX7_ticksToCommit n g x1 = some r) : cI l yX7_ticksToCommit wmX7_ticksToCommit 3 66 .int wM G [.ref (G.1 0), .int x1] g r.1 r.2 :=
  mk_cI sameM (by decide +kernel) rfl (Nat.le_of_ble_eq_true rfl) (fun p e s m args below meth c A Q ls X kI hl Z => bX7_ticksToCommit_0 X kI g x1 _ _ ls Z hl hm)
abbrev wmX7_versions : List Cond := Cond.code yX7_versions cX7_versions 4 (some .int) :: wA0
set_option maxHeartbeats 4000000 in
set_option maxRecDepth 100000 in
theorem bX7_versions_25 (X : gC p s m args meth c cX7_versions 4 wmX7_versions yX7_versions.cls (some .int) G A) {n : Nat} {r : Int32 × Mem} (kI : ∀ (pc : Nat) (ls : Array Slot) (H : Heap) (locs : List Loc), decode cX7_versions pc = .ok (.ireturn, 1) → WS wM G r.2 A s.heap H locs → narrow .int (.int r.1) = .int r.1 → W p l e { frames := 3, cells := 0, slots := 0, locals := 66 } s m args below meth c H locs 0 0 Q (F0 m pc ls [.int r.1])) : ∀ (f : Nat), ∀ (g : Mem) (x1 : Int32) (x2 : Int32) (x3 : Int32) (H : Heap) (locs : List Loc) (ls : Array Slot), WS wM G g A s.heap H locs → lv_has ls 4 [(0, .ref (G.1 0)), (1, .int x1), (2, .int x2), (3, .int x3)] → sX7_versions_25 n f g x1 x2 x3 = some r → W p l e { frames := 3, cells := 0, slots := 0, locals := 66 } s m args below meth c H locs 0 0 Q (F0 m 25 ls []) := by
  have hx := X.1
  have hb := X.2.1
  intro f
  induction f with
  | zero =>
    intro g x1 x2 x3 H locs ls Z hl hm
    cases hm
  | succ f ih =>
    intro g x1 x2 x3 H locs ls Z hl hm
    unfold sX7_versions_25 at hm
    refine lv_iload_n hx hb dX7_versions_25 rfl (lv_at hl 3 rfl) ?_
    refine lv_aload_n hx hb dX7_versions_26 rfl (lv_at hl 0 rfl) ?_
    refine g_get (j := 0) (v := .ref (G.1 1)) X Z oX7 (iB7 _) rfl (by decide) rfl (List.mem_cons_of_mem _ mB602) rfl dX7_versions_27 ?_
    refine lv_iconst (v := 3) hx hb dX7_versions_30 (by decide) ?_
    obtain ⟨b1, hm⟩ := sIdx_some hm
    refine g_iald X Z aM1 b1 dX7_versions_31 ?_
    refine lv_icmp_ge (tgt := 58) hx hb dX7_versions_32 (by decide) (fun c2 => ?_) (fun c2 => ?_)
    · replace hm := (if_pos c2).symm.trans hm
      refine lv_iload_n hx hb dX7_versions_58 rfl (lv_at hl 2 rfl) ?_
      obtain rfl := Option.some.inj hm
      exact kI _ _ _ _ dX7_versions_59 Z (vp_nar_int _)
    · replace hm := (if_neg c2).symm.trans hm
      refine lv_iload_n hx hb dX7_versions_35 rfl (lv_at hl 2 rfl) ?_
      refine lv_aload_n hx hb dX7_versions_36 rfl (lv_at hl 0 rfl) ?_
      refine lv_iload_n hx hb dX7_versions_37 rfl (lv_at hl 3 rfl) ?_
      refine lv_iload_n hx hb dX7_versions_38 rfl (lv_at hl 1 rfl) ?_
      obtain ⟨r5, e3, hm⟩ := sBi_some hm
      refine g_callVI (n := 2) (As := [.int x3, .int x1]) (rest := [.int x2]) sameM X Z (cX7_isVersion_c l e3) oX7 rfl (gooV mB662 mB663 mB664 mB614 mB660) rfl (by decide +kernel) rfl ⟨Nat.le_of_ble_eq_true rfl, Nat.le_of_ble_eq_true rfl⟩ ⟨Nat.le_of_ble_eq_true rfl, Nat.le_of_ble_eq_true rfl⟩ hl.1 rfl (Nat.le_of_ble_eq_true rfl) dX7_versions_39 (fun w4 H locs Z => ?_)
      refine lv_if_eq (tgt := 49) hx hb dX7_versions_42 (by decide) (fun c6 => ?_) (fun c6 => ?_)
      · replace hm := (if_pos c6).symm.trans hm
        refine lv_iconst (v := 0) hx hb dX7_versions_49 (by decide) ?_
        refine lv_iadd hx hb dX7_versions_50 ?_
        refine lv_istore_n (lv' := [(2, .int (x2 + (0 : Int32))), (0, .ref (G.1 0)), (1, .int x1), (3, .int x3)]) hx hb dX7_versions_51 rfl hl (by decide) rfl (fun ls hl => ?_)
        refine lv_iinc (v := (x3 + (1 : Int32))) (lv' := [(3, .int (x3 + (1 : Int32))), (2, .int (x2 + (0 : Int32))), (0, .ref (G.1 0)), (1, .int x1)]) hx hb dX7_versions_52 hl (k := 3) rfl rfl (by decide) rfl (fun ls hl => ?_)
        refine lv_goto (tgt := 25) hx hb dX7_versions_55 (by decide) ?_
        exact ih g x1 (x2 + (0 : Int32)) (x3 + (1 : Int32)) _ _ _ Z (lv_sub hl [2, 3, 1, 0] rfl) hm
      · replace hm := (if_neg c6).symm.trans hm
        refine lv_iconst (v := 1) hx hb dX7_versions_45 (by decide) ?_
        refine lv_goto (tgt := 50) hx hb dX7_versions_46 (by decide) ?_
        refine lv_iadd hx hb dX7_versions_50 ?_
        refine lv_istore_n (lv' := [(2, .int (x2 + (1 : Int32))), (0, .ref (G.1 0)), (1, .int x1), (3, .int x3)]) hx hb dX7_versions_51 rfl hl (by decide) rfl (fun ls hl => ?_)
        refine lv_iinc (v := (x3 + (1 : Int32))) (lv' := [(3, .int (x3 + (1 : Int32))), (2, .int (x2 + (1 : Int32))), (0, .ref (G.1 0)), (1, .int x1)]) hx hb dX7_versions_52 hl (k := 3) rfl rfl (by decide) rfl (fun ls hl => ?_)
        refine lv_goto (tgt := 25) hx hb dX7_versions_55 (by decide) ?_
        exact ih g x1 (x2 + (1 : Int32)) (x3 + (1 : Int32)) _ _ _ Z (lv_sub hl [2, 3, 1, 0] rfl) hm
set_option maxHeartbeats 4000000 in
set_option maxRecDepth 100000 in
theorem bX7_versions_0 (X : gC p s m args meth c cX7_versions 4 wmX7_versions yX7_versions.cls (some .int) G A) {n : Nat} {r : Int32 × Mem} (kI : ∀ (pc : Nat) (ls : Array Slot) (H : Heap) (locs : List Loc), decode cX7_versions pc = .ok (.ireturn, 1) → WS wM G r.2 A s.heap H locs → narrow .int (.int r.1) = .int r.1 → W p l e { frames := 3, cells := 0, slots := 0, locals := 66 } s m args below meth c H locs 0 0 Q (F0 m pc ls [.int r.1])) : ∀ (g : Mem) (x1 : Int32) (H : Heap) (locs : List Loc) (ls : Array Slot), WS wM G g A s.heap H locs → lv_has ls 4 [(0, .ref (G.1 0)), (1, .int x1)] → sX7_versions n g x1 = some r → W p l e { frames := 3, cells := 0, slots := 0, locals := 66 } s m args below meth c H locs 0 0 Q (F0 m 0 ls []) := by
  have hx := X.1
  have hb := X.2.1
  intro g x1 H locs ls Z hl hm
  unfold sX7_versions at hm
  refine lv_aload_n hx hb dX7_versions_0 rfl (lv_at hl 0 rfl) ?_
  refine lv_iload_n hx hb dX7_versions_1 rfl (lv_at hl 1 rfl) ?_
  obtain ⟨r3, e1, hm⟩ := sBi_some hm
  refine g_callSI (n := 1) (As := [.int x1]) (rest := [.ref (G.1 0)]) sameM X Z (cX7_isKey_c l e1) (gooS mB712 mB713 mB614 mB615) rfl (by decide +kernel) rfl ⟨Nat.le_of_ble_eq_true rfl, Nat.le_of_ble_eq_true rfl⟩ ⟨Nat.le_of_ble_eq_true rfl, Nat.le_of_ble_eq_true rfl⟩ hl.1 rfl (Nat.le_of_ble_eq_true rfl) dX7_versions_2 (fun w2 H locs Z => ?_)
  refine lv_if_eq (tgt := 12) hx hb dX7_versions_5 (by decide) (fun c4 => ?_) (fun c4 => ?_)
  · replace hm := (if_pos c4).symm.trans hm
    refine lv_iconst (v := 1) hx hb dX7_versions_12 (by decide) ?_
    obtain ⟨r7, g8, e5, hm⟩ := sBi2_some hm
    refine g_callVI (n := 1) (As := [.int 1]) (rest := []) sameM X Z (cX7_throwsAt_c l e5) oX7 rfl (gooV mB745 mB746 mB747 mB614 mB609) rfl (by decide +kernel) rfl ⟨Nat.le_of_ble_eq_true rfl, Nat.le_of_ble_eq_true rfl⟩ ⟨Nat.le_of_ble_eq_true rfl, Nat.le_of_ble_eq_true rfl⟩ hl.1 rfl (Nat.le_of_ble_eq_true rfl) dX7_versions_13 (fun w6 H locs Z => ?_)
    refine lv_if_eq (tgt := 21) hx hb dX7_versions_16 (by decide) (fun c9 => ?_) (fun c9 => ?_)
    · replace hm := (if_pos c9).symm.trans hm
      refine lv_iconst (v := 1) hx hb dX7_versions_21 (by decide) ?_
      refine lv_istore_n (lv' := [(2, .int 1), (0, .ref (G.1 0)), (1, .int x1)]) hx hb dX7_versions_22 rfl hl (by decide) rfl (fun ls hl => ?_)
      refine lv_iconst (v := 0) hx hb dX7_versions_23 (by decide) ?_
      refine lv_istore_n (lv' := [(3, .int 0), (2, .int 1), (0, .ref (G.1 0)), (1, .int x1)]) hx hb dX7_versions_24 rfl hl (by decide) rfl (fun ls hl => ?_)
      exact bX7_versions_25 X kI n g8 x1 (1 : Int32) (0 : Int32) _ _ _ Z (lv_sub hl [2, 3, 1, 0] rfl) hm
    · replace hm := (if_neg c9).symm.trans hm
      refine lv_iconst (v := 0) hx hb dX7_versions_19 (by decide) ?_
      obtain rfl := Option.some.inj hm
      exact kI _ _ _ _ dX7_versions_20 Z (vp_nar_int _)
  · replace hm := (if_neg c4).symm.trans hm
    refine lv_iconst (v := 0) hx hb dX7_versions_8 (by decide) ?_
    refine lv_goto (tgt := 13) hx hb dX7_versions_9 (by decide) ?_
    obtain ⟨r12, g13, e10, hm⟩ := sBi2_some hm
    refine g_callVI (n := 1) (As := [.int 0]) (rest := []) sameM X Z (cX7_throwsAt_c l e10) oX7 rfl (gooV mB745 mB746 mB747 mB614 mB609) rfl (by decide +kernel) rfl ⟨Nat.le_of_ble_eq_true rfl, Nat.le_of_ble_eq_true rfl⟩ ⟨Nat.le_of_ble_eq_true rfl, Nat.le_of_ble_eq_true rfl⟩ hl.1 rfl (Nat.le_of_ble_eq_true rfl) dX7_versions_13 (fun w11 H locs Z => ?_)
    refine lv_if_eq (tgt := 21) hx hb dX7_versions_16 (by decide) (fun c14 => ?_) (fun c14 => ?_)
    · replace hm := (if_pos c14).symm.trans hm
      refine lv_iconst (v := 1) hx hb dX7_versions_21 (by decide) ?_
      refine lv_istore_n (lv' := [(2, .int 1), (0, .ref (G.1 0)), (1, .int x1)]) hx hb dX7_versions_22 rfl hl (by decide) rfl (fun ls hl => ?_)
      refine lv_iconst (v := 0) hx hb dX7_versions_23 (by decide) ?_
      refine lv_istore_n (lv' := [(3, .int 0), (2, .int 1), (0, .ref (G.1 0)), (1, .int x1)]) hx hb dX7_versions_24 rfl hl (by decide) rfl (fun ls hl => ?_)
      exact bX7_versions_25 X kI n g13 x1 (1 : Int32) (0 : Int32) _ _ _ Z (lv_sub hl [2, 3, 1, 0] rfl) hm
    · replace hm := (if_neg c14).symm.trans hm
      refine lv_iconst (v := 0) hx hb dX7_versions_19 (by decide) ?_
      obtain rfl := Option.some.inj hm
      exact kI _ _ _ _ dX7_versions_20 Z (vp_nar_int _)
theorem cX7_versions_c (l : Launch) {G : LY} {g : Mem} {n : Nat} {x1 : Int32} {r : Int32 × Mem} (hm : sX7_versions n g x1 = some r) : cI l yX7_versions wmX7_versions 3 66 .int wM G [.ref (G.1 0), .int x1] g r.1 r.2 :=
  mk_cI sameM (by decide +kernel) rfl (Nat.le_of_ble_eq_true rfl) (fun p e s m args below meth c A Q ls X kI hl Z => bX7_versions_0 X kI g x1 _ _ ls Z hl hm)
abbrev wmX7_stampAt : List Cond := Cond.code yX7_stampAt cX7_stampAt 6 (some .int) :: wA0
set_option maxHeartbeats 4000000 in
set_option maxRecDepth 100000 in
theorem bX7_stampAt_24 (X : gC p s m args meth c cX7_stampAt 6 wmX7_stampAt yX7_stampAt.cls (some .int) G A) {n : Nat} {g : Mem} {r : Int32} (kI : ∀ (pc : Nat) (ls : Array Slot) (H : Heap) (locs : List Loc), decode cX7_stampAt pc = .ok (.ireturn, 1) → WS wM G g A s.heap H locs → narrow .int (.int r) = .int r → W p l e { frames := 3, cells := 0, slots := 0, locals := 66 } s m args below meth c H locs 0 0 Q (F0 m pc ls [.int r])) {rec8 : Int32 → Int32 → Int32 → Option (Int32)} (h8 : ∀ (x1 : Int32) (x2 : Int32) (x3 : Int32) (H : Heap) (locs : List Loc) (ls : Array Slot), WS wM G g A s.heap H locs → lv_has ls 6 [(0, .ref (G.1 0)), (1, .int x1), (2, .int x2), (3, .int x3)] → rec8 x1 x2 x3 = some r → W p l e { frames := 3, cells := 0, slots := 0, locals := 66 } s m args below meth c H locs 0 0 Q (F0 m 8 ls [])) : ∀ (f : Nat), ∀ (x1 : Int32) (x2 : Int32) (x3 : Int32) (x4 : Int32) (x5 : Int32) (H : Heap) (locs : List Loc) (ls : Array Slot), WS wM G g A s.heap H locs → lv_has ls 6 [(0, .ref (G.1 0)), (1, .int x1), (2, .int x2), (3, .int x3), (4, .int x4), (5, .int x5)] → sX7_stampAt_24 n g rec8 f x1 x2 x3 x4 x5 = some r → W p l e { frames := 3, cells := 0, slots := 0, locals := 66 } s m args below meth c H locs 0 0 Q (F0 m 24 ls []) := by
  have hx := X.1
  have hb := X.2.1
  intro f
  induction f with
  | zero =>
    intro x1 x2 x3 x4 x5 H locs ls Z hl hm
    cases hm
  | succ f ih =>
    intro x1 x2 x3 x4 x5 H locs ls Z hl hm
    unfold sX7_stampAt_24 at hm
    refine lv_iload hx hb dX7_stampAt_24 (lv_at hl 5 rfl) ?_
    refine lv_aload_n hx hb dX7_stampAt_26 rfl (lv_at hl 0 rfl) ?_
    refine g_get (j := 0) (v := .ref (G.1 1)) X Z oX7 (iB7 _) rfl (by decide) rfl (List.mem_cons_of_mem _ mB602) rfl dX7_stampAt_27 ?_
    refine lv_iconst (v := 3) hx hb dX7_stampAt_30 (by decide) ?_
    obtain ⟨b1, hm⟩ := sIdx_some hm
    refine g_iald X Z aM1 b1 dX7_stampAt_31 ?_
    refine lv_icmp_ge (tgt := 77) hx hb dX7_stampAt_32 (by decide) (fun c2 => ?_) (fun c2 => ?_)
    · replace hm := (if_pos c2).symm.trans hm
      refine lv_aload_n hx hb dX7_stampAt_77 rfl (lv_at hl 0 rfl) ?_
      refine lv_iload_n hx hb dX7_stampAt_78 rfl (lv_at hl 3 rfl) ?_
      refine lv_iload_n hx hb dX7_stampAt_79 rfl (lv_at hl 1 rfl) ?_
      obtain ⟨r5, e3, hm⟩ := sBi_some hm
      refine g_callVI (n := 2) (As := [.int x3, .int x1]) (rest := []) sameM X Z (cX7_isVersion_c l e3) oX7 rfl (gooV mB662 mB663 mB664 mB614 mB660) rfl (by decide +kernel) rfl ⟨Nat.le_of_ble_eq_true rfl, Nat.le_of_ble_eq_true rfl⟩ ⟨Nat.le_of_ble_eq_true rfl, Nat.le_of_ble_eq_true rfl⟩ hl.1 rfl (Nat.le_of_ble_eq_true rfl) dX7_stampAt_80 (fun w4 H locs Z => ?_)
      refine lv_if_eq (tgt := 99) hx hb dX7_stampAt_83 (by decide) (fun c6 => ?_) (fun c6 => ?_)
      · replace hm := (if_pos c6).symm.trans hm
        refine lv_iinc (v := (x3 + (1 : Int32))) (lv' := [(3, .int (x3 + (1 : Int32))), (0, .ref (G.1 0)), (1, .int x1), (2, .int x2), (4, .int x4), (5, .int x5)]) hx hb dX7_stampAt_99 hl (k := 3) rfl rfl (by decide) rfl (fun ls hl => ?_)
        refine lv_goto (tgt := 8) hx hb dX7_stampAt_102 (by decide) ?_
        exact h8 x1 x2 (x3 + (1 : Int32)) _ _ _ Z (lv_sub hl [1, 2, 3, 0] rfl) hm
      · replace hm := (if_neg c6).symm.trans hm
        refine lv_iload hx hb dX7_stampAt_86 (lv_at hl 4 rfl) ?_
        refine lv_iload_n hx hb dX7_stampAt_88 rfl (lv_at hl 2 rfl) ?_
        refine lv_icmp_ne (tgt := 99) hx hb dX7_stampAt_89 (by decide) (fun c7 => ?_) (fun c7 => ?_)
        · replace hm := (if_neg c7).symm.trans hm
          refine lv_iinc (v := (x3 + (1 : Int32))) (lv' := [(3, .int (x3 + (1 : Int32))), (0, .ref (G.1 0)), (1, .int x1), (2, .int x2), (4, .int x4), (5, .int x5)]) hx hb dX7_stampAt_99 hl (k := 3) rfl rfl (by decide) rfl (fun ls hl => ?_)
          refine lv_goto (tgt := 8) hx hb dX7_stampAt_102 (by decide) ?_
          exact h8 x1 x2 (x3 + (1 : Int32)) _ _ _ Z (lv_sub hl [1, 2, 3, 0] rfl) hm
        · replace hm := (if_pos c7).symm.trans hm
          refine lv_aload_n hx hb dX7_stampAt_92 rfl (lv_at hl 0 rfl) ?_
          refine lv_iload_n hx hb dX7_stampAt_93 rfl (lv_at hl 3 rfl) ?_
          refine lv_iconst (v := 2) hx hb dX7_stampAt_94 (by decide) ?_
          obtain ⟨r10, e8, hm⟩ := sBi_some hm
          refine g_callVI (n := 2) (As := [.int x3, .int 2]) (rest := []) sameM X Z (cX7_of_c l e8) oX7 rfl (gooV mB652 mB653 mB654 mB614 mB649) rfl (by decide +kernel) rfl ⟨Nat.le_of_ble_eq_true rfl, Nat.le_of_ble_eq_true rfl⟩ ⟨Nat.le_of_ble_eq_true rfl, Nat.le_of_ble_eq_true rfl⟩ hl.1 rfl (Nat.le_of_ble_eq_true rfl) dX7_stampAt_95 (fun w9 H locs Z => ?_)
          obtain rfl := Option.some.inj hm
          exact kI _ _ _ _ dX7_stampAt_98 Z (vp_nar_int _)
    · replace hm := (if_neg c2).symm.trans hm
      refine lv_iload hx hb dX7_stampAt_35 (lv_at hl 4 rfl) ?_
      refine lv_aload_n hx hb dX7_stampAt_37 rfl (lv_at hl 0 rfl) ?_
      refine lv_iload hx hb dX7_stampAt_38 (lv_at hl 5 rfl) ?_
      refine lv_iload_n hx hb dX7_stampAt_40 rfl (lv_at hl 1 rfl) ?_
      obtain ⟨r13, e11, hm⟩ := sBi_some hm
      refine g_callVI (n := 2) (As := [.int x5, .int x1]) (rest := [.int x4]) sameM X Z (cX7_isVersion_c l e11) oX7 rfl (gooV mB662 mB663 mB664 mB614 mB660) rfl (by decide +kernel) rfl ⟨Nat.le_of_ble_eq_true rfl, Nat.le_of_ble_eq_true rfl⟩ ⟨Nat.le_of_ble_eq_true rfl, Nat.le_of_ble_eq_true rfl⟩ hl.1 rfl (Nat.le_of_ble_eq_true rfl) dX7_stampAt_41 (fun w12 H locs Z => ?_)
      refine lv_if_eq (tgt := 67) hx hb dX7_stampAt_44 (by decide) (fun c14 => ?_) (fun c14 => ?_)
      · replace hm := (if_pos c14).symm.trans hm
        refine lv_iconst (v := 0) hx hb dX7_stampAt_67 (by decide) ?_
        refine lv_iadd hx hb dX7_stampAt_68 ?_
        refine lv_istore (lv' := [(4, .int (x4 + (0 : Int32))), (0, .ref (G.1 0)), (1, .int x1), (2, .int x2), (3, .int x3), (5, .int x5)]) hx hb dX7_stampAt_69 hl (by decide) rfl (fun ls hl => ?_)
        refine lv_iinc (v := (x5 + (1 : Int32))) (lv' := [(5, .int (x5 + (1 : Int32))), (4, .int (x4 + (0 : Int32))), (0, .ref (G.1 0)), (1, .int x1), (2, .int x2), (3, .int x3)]) hx hb dX7_stampAt_71 hl (k := 5) rfl rfl (by decide) rfl (fun ls hl => ?_)
        refine lv_goto (tgt := 24) hx hb dX7_stampAt_74 (by decide) ?_
        exact ih x1 x2 x3 (x4 + (0 : Int32)) (x5 + (1 : Int32)) _ _ _ Z (lv_sub hl [2, 3, 4, 5, 1, 0] rfl) hm
      · replace hm := (if_neg c14).symm.trans hm
        refine lv_aload_n hx hb dX7_stampAt_47 rfl (lv_at hl 0 rfl) ?_
        refine lv_iload hx hb dX7_stampAt_48 (lv_at hl 5 rfl) ?_
        refine lv_iconst (v := 2) hx hb dX7_stampAt_50 (by decide) ?_
        obtain ⟨r17, e15, hm⟩ := sBi_some hm
        refine g_callVI (n := 2) (As := [.int x5, .int 2]) (rest := [.int x4]) sameM X Z (cX7_of_c l e15) oX7 rfl (gooV mB652 mB653 mB654 mB614 mB649) rfl (by decide +kernel) rfl ⟨Nat.le_of_ble_eq_true rfl, Nat.le_of_ble_eq_true rfl⟩ ⟨Nat.le_of_ble_eq_true rfl, Nat.le_of_ble_eq_true rfl⟩ hl.1 rfl (Nat.le_of_ble_eq_true rfl) dX7_stampAt_51 (fun w16 H locs Z => ?_)
        refine lv_aload_n hx hb dX7_stampAt_54 rfl (lv_at hl 0 rfl) ?_
        refine lv_iload_n hx hb dX7_stampAt_55 rfl (lv_at hl 3 rfl) ?_
        refine lv_iconst (v := 2) hx hb dX7_stampAt_56 (by decide) ?_
        obtain ⟨r20, e18, hm⟩ := sBi_some hm
        refine g_callVI (n := 2) (As := [.int x3, .int 2]) (rest := [.int r17, .int x4]) sameM X Z (cX7_of_c l e18) oX7 rfl (gooV mB652 mB653 mB654 mB614 mB649) rfl (by decide +kernel) rfl ⟨Nat.le_of_ble_eq_true rfl, Nat.le_of_ble_eq_true rfl⟩ ⟨Nat.le_of_ble_eq_true rfl, Nat.le_of_ble_eq_true rfl⟩ hl.1 rfl (Nat.le_of_ble_eq_true rfl) dX7_stampAt_57 (fun w19 H locs Z => ?_)
        refine lv_icmp_ge (tgt := 67) hx hb dX7_stampAt_60 (by decide) (fun c21 => ?_) (fun c21 => ?_)
        · replace hm := (if_pos c21).symm.trans hm
          refine lv_iconst (v := 0) hx hb dX7_stampAt_67 (by decide) ?_
          refine lv_iadd hx hb dX7_stampAt_68 ?_
          refine lv_istore (lv' := [(4, .int (x4 + (0 : Int32))), (0, .ref (G.1 0)), (1, .int x1), (2, .int x2), (3, .int x3), (5, .int x5)]) hx hb dX7_stampAt_69 hl (by decide) rfl (fun ls hl => ?_)
          refine lv_iinc (v := (x5 + (1 : Int32))) (lv' := [(5, .int (x5 + (1 : Int32))), (4, .int (x4 + (0 : Int32))), (0, .ref (G.1 0)), (1, .int x1), (2, .int x2), (3, .int x3)]) hx hb dX7_stampAt_71 hl (k := 5) rfl rfl (by decide) rfl (fun ls hl => ?_)
          refine lv_goto (tgt := 24) hx hb dX7_stampAt_74 (by decide) ?_
          exact ih x1 x2 x3 (x4 + (0 : Int32)) (x5 + (1 : Int32)) _ _ _ Z (lv_sub hl [2, 3, 4, 5, 1, 0] rfl) hm
        · replace hm := (if_neg c21).symm.trans hm
          refine lv_iconst (v := 1) hx hb dX7_stampAt_63 (by decide) ?_
          refine lv_goto (tgt := 68) hx hb dX7_stampAt_64 (by decide) ?_
          refine lv_iadd hx hb dX7_stampAt_68 ?_
          refine lv_istore (lv' := [(4, .int (x4 + (1 : Int32))), (0, .ref (G.1 0)), (1, .int x1), (2, .int x2), (3, .int x3), (5, .int x5)]) hx hb dX7_stampAt_69 hl (by decide) rfl (fun ls hl => ?_)
          refine lv_iinc (v := (x5 + (1 : Int32))) (lv' := [(5, .int (x5 + (1 : Int32))), (4, .int (x4 + (1 : Int32))), (0, .ref (G.1 0)), (1, .int x1), (2, .int x2), (3, .int x3)]) hx hb dX7_stampAt_71 hl (k := 5) rfl rfl (by decide) rfl (fun ls hl => ?_)
          refine lv_goto (tgt := 24) hx hb dX7_stampAt_74 (by decide) ?_
          exact ih x1 x2 x3 (x4 + (1 : Int32)) (x5 + (1 : Int32)) _ _ _ Z (lv_sub hl [2, 3, 4, 5, 1, 0] rfl) hm
set_option maxHeartbeats 4000000 in
set_option maxRecDepth 100000 in
theorem bX7_stampAt_8 (X : gC p s m args meth c cX7_stampAt 6 wmX7_stampAt yX7_stampAt.cls (some .int) G A) {n : Nat} {g : Mem} {r : Int32} (kI : ∀ (pc : Nat) (ls : Array Slot) (H : Heap) (locs : List Loc), decode cX7_stampAt pc = .ok (.ireturn, 1) → WS wM G g A s.heap H locs → narrow .int (.int r) = .int r → W p l e { frames := 3, cells := 0, slots := 0, locals := 66 } s m args below meth c H locs 0 0 Q (F0 m pc ls [.int r])) : ∀ (f : Nat), ∀ (x1 : Int32) (x2 : Int32) (x3 : Int32) (H : Heap) (locs : List Loc) (ls : Array Slot), WS wM G g A s.heap H locs → lv_has ls 6 [(0, .ref (G.1 0)), (1, .int x1), (2, .int x2), (3, .int x3)] → sX7_stampAt_8 n g f x1 x2 x3 = some r → W p l e { frames := 3, cells := 0, slots := 0, locals := 66 } s m args below meth c H locs 0 0 Q (F0 m 8 ls []) := by
  have hx := X.1
  have hb := X.2.1
  intro f
  induction f with
  | zero =>
    intro x1 x2 x3 H locs ls Z hl hm
    cases hm
  | succ f ih =>
    intro x1 x2 x3 H locs ls Z hl hm
    unfold sX7_stampAt_8 at hm
    refine lv_iload_n hx hb dX7_stampAt_8 rfl (lv_at hl 3 rfl) ?_
    refine lv_aload_n hx hb dX7_stampAt_9 rfl (lv_at hl 0 rfl) ?_
    refine g_get (j := 0) (v := .ref (G.1 1)) X Z oX7 (iB7 _) rfl (by decide) rfl (List.mem_cons_of_mem _ mB602) rfl dX7_stampAt_10 ?_
    refine lv_iconst (v := 3) hx hb dX7_stampAt_13 (by decide) ?_
    obtain ⟨b1, hm⟩ := sIdx_some hm
    refine g_iald X Z aM1 b1 dX7_stampAt_14 ?_
    refine lv_icmp_ge (tgt := 105) hx hb dX7_stampAt_15 (by decide) (fun c2 => ?_) (fun c2 => ?_)
    · replace hm := (if_pos c2).symm.trans hm
      refine lv_iconst (v := (-1)) hx hb dX7_stampAt_105 (by decide) ?_
      obtain rfl := Option.some.inj hm
      exact kI _ _ _ _ dX7_stampAt_106 Z (vp_nar_int _)
    · replace hm := (if_neg c2).symm.trans hm
      refine lv_iconst (v := 1) hx hb dX7_stampAt_18 (by decide) ?_
      refine lv_istore (lv' := [(4, .int 1), (0, .ref (G.1 0)), (1, .int x1), (2, .int x2), (3, .int x3)]) hx hb dX7_stampAt_19 hl (by decide) rfl (fun ls hl => ?_)
      refine lv_iconst (v := 0) hx hb dX7_stampAt_21 (by decide) ?_
      refine lv_istore (lv' := [(5, .int 0), (4, .int 1), (0, .ref (G.1 0)), (1, .int x1), (2, .int x2), (3, .int x3)]) hx hb dX7_stampAt_22 hl (by decide) rfl (fun ls hl => ?_)
      exact bX7_stampAt_24 X kI ih n x1 x2 x3 (1 : Int32) (0 : Int32) _ _ _ Z (lv_sub hl [2, 3, 4, 5, 1, 0] rfl) hm
set_option maxHeartbeats 4000000 in
set_option maxRecDepth 100000 in
theorem bX7_stampAt_0 (X : gC p s m args meth c cX7_stampAt 6 wmX7_stampAt yX7_stampAt.cls (some .int) G A) {n : Nat} {g : Mem} {r : Int32} (kI : ∀ (pc : Nat) (ls : Array Slot) (H : Heap) (locs : List Loc), decode cX7_stampAt pc = .ok (.ireturn, 1) → WS wM G g A s.heap H locs → narrow .int (.int r) = .int r → W p l e { frames := 3, cells := 0, slots := 0, locals := 66 } s m args below meth c H locs 0 0 Q (F0 m pc ls [.int r])) : ∀ (x1 : Int32) (x2 : Int32) (H : Heap) (locs : List Loc) (ls : Array Slot), WS wM G g A s.heap H locs → lv_has ls 6 [(0, .ref (G.1 0)), (1, .int x1), (2, .int x2)] → sX7_stampAt n g x1 x2 = some r → W p l e { frames := 3, cells := 0, slots := 0, locals := 66 } s m args below meth c H locs 0 0 Q (F0 m 0 ls []) := by
  have hx := X.1
  have hb := X.2.1
  intro x1 x2 H locs ls Z hl hm
  unfold sX7_stampAt at hm
  refine lv_iload_n hx hb dX7_stampAt_0 rfl (lv_at hl 2 rfl) ?_
  refine lv_if_ne (tgt := 6) hx hb dX7_stampAt_1 (by decide) (fun c1 => ?_) (fun c1 => ?_)
  · replace hm := (if_neg c1).symm.trans hm
    refine lv_iconst (v := 0) hx hb dX7_stampAt_6 (by decide) ?_
    refine lv_istore_n (lv' := [(3, .int 0), (0, .ref (G.1 0)), (1, .int x1), (2, .int x2)]) hx hb dX7_stampAt_7 rfl hl (by decide) rfl (fun ls hl => ?_)
    exact bX7_stampAt_8 X kI n x1 x2 (0 : Int32) _ _ _ Z (lv_sub hl [1, 2, 3, 0] rfl) hm
  · replace hm := (if_pos c1).symm.trans hm
    refine lv_iconst (v := 0) hx hb dX7_stampAt_4 (by decide) ?_
    obtain rfl := Option.some.inj hm
    exact kI _ _ _ _ dX7_stampAt_5 Z (vp_nar_int _)
theorem cX7_stampAt_c (l : Launch) {G : LY} {g : Mem} {n : Nat} {x1 : Int32} {x2 : Int32} {r : Int32} (hm : sX7_stampAt n g x1 x2 = some r) : cI l yX7_stampAt wmX7_stampAt 3 66 .int wM G [.ref (G.1 0), .int x1, .int x2] g r g :=
  mk_cI sameM (by decide +kernel) rfl (Nat.le_of_ble_eq_true rfl) (fun p e s m args below meth c A Q ls X kI hl Z => bX7_stampAt_0 X kI x1 x2 _ _ ls Z hl hm)
abbrev wmX7_versionTimestamp : List Cond := Cond.code yX7_versionTimestamp cX7_versionTimestamp 4 (some .int) :: wA0
set_option maxHeartbeats 4000000 in
set_option maxRecDepth 100000 in
theorem bX7_versionTimestamp_0 (X : gC p s m args meth c cX7_versionTimestamp 4 wmX7_versionTimestamp yX7_versionTimestamp.cls (some .int) G A) {n : Nat} {r : Int32 × Mem} (kI : ∀ (pc : Nat) (ls : Array Slot) (H : Heap) (locs : List Loc), decode cX7_versionTimestamp pc = .ok (.ireturn, 1) → WS wM G r.2 A s.heap H locs → narrow .int (.int r.1) = .int r.1 → W p l e { frames := 4, cells := 0, slots := 0, locals := 91 } s m args below meth c H locs 0 0 Q (F0 m pc ls [.int r.1])) : ∀ (g : Mem) (x1 : Int32) (x2 : Int32) (H : Heap) (locs : List Loc) (ls : Array Slot), WS wM G g A s.heap H locs → lv_has ls 4 [(0, .ref (G.1 0)), (1, .int x1), (2, .int x2)] → sX7_versionTimestamp n g x1 x2 = some r → W p l e { frames := 4, cells := 0, slots := 0, locals := 91 } s m args below meth c H locs 0 0 Q (F0 m 0 ls []) := by
  have hx := X.1
  have hb := X.2.1
  intro g x1 x2 H locs ls Z hl hm
  unfold sX7_versionTimestamp at hm
  refine lv_iload_n hx hb dX7_versionTimestamp_0 rfl (lv_at hl 1 rfl) ?_
  obtain ⟨r3, e1, hm⟩ := sBi_some hm
  refine g_callSI (n := 1) (As := [.int x1]) (rest := []) sameM X Z (cX7_isKey_c l e1) (gooS mB712 mB713 mB614 mB615) rfl (by decide +kernel) rfl ⟨Nat.le_of_ble_eq_true rfl, Nat.le_of_ble_eq_true rfl⟩ ⟨Nat.le_of_ble_eq_true rfl, Nat.le_of_ble_eq_true rfl⟩ hl.1 rfl (Nat.le_of_ble_eq_true rfl) dX7_versionTimestamp_1 (fun w2 H locs Z => ?_)
  refine lv_if_eq (tgt := 16) hx hb dX7_versionTimestamp_4 (by decide) (fun c4 => ?_) (fun c4 => ?_)
  · replace hm := (if_pos c4).symm.trans hm
    refine lv_iconst (v := (-1)) hx hb dX7_versionTimestamp_16 (by decide) ?_
    refine lv_istore_n (lv' := [(3, .int (-1)), (0, .ref (G.1 0)), (1, .int x1), (2, .int x2)]) hx hb dX7_versionTimestamp_17 rfl hl (by decide) rfl (fun ls hl => ?_)
    refine lv_aload_n hx hb dX7_versionTimestamp_18 rfl (lv_at hl 1 rfl) ?_
    refine lv_iload_n hx hb dX7_versionTimestamp_19 rfl (lv_at hl 0 rfl) ?_
    refine lv_iconst (v := (-1)) hx hb dX7_versionTimestamp_20 (by decide) ?_
    refine lv_icmp_ne (tgt := 28) hx hb dX7_versionTimestamp_21 (by decide) (fun c5 => ?_) (fun c5 => ?_)
    · first | exact absurd c5 (by decide) | exact absurd (by decide) c5
    refine lv_iconst (v := 1) hx hb dX7_versionTimestamp_24 (by decide) ?_
    refine lv_goto (tgt := 29) hx hb dX7_versionTimestamp_25 (by decide) ?_
    obtain ⟨r8, g9, e6, hm⟩ := sBi2_some hm
    refine g_callVI (n := 1) (As := [.int 1]) (rest := []) sameM X Z (cX7_throwsAt_c l e6) oX7 rfl (gooV mB745 mB746 mB747 mB614 mB609) rfl (by decide +kernel) rfl ⟨Nat.le_of_ble_eq_true rfl, Nat.le_of_ble_eq_true rfl⟩ ⟨Nat.le_of_ble_eq_true rfl, Nat.le_of_ble_eq_true rfl⟩ hl.1 rfl (Nat.le_of_ble_eq_true rfl) dX7_versionTimestamp_29 (fun w7 H locs Z => ?_)
    refine lv_if_eq (tgt := 39) hx hb dX7_versionTimestamp_32 (by decide) (fun c10 => ?_) (fun c10 => ?_)
    · replace hm := (if_pos c10).symm.trans hm
      refine lv_iload_n hx hb dX7_versionTimestamp_39 rfl (lv_at hl 0 rfl) ?_
      obtain rfl := Option.some.inj hm
      exact kI _ _ _ _ dX7_versionTimestamp_40 Z (vp_nar_int _)
    · replace hm := (if_neg c10).symm.trans hm
      refine lv_iconst (v := 0) hx hb dX7_versionTimestamp_35 (by decide) ?_
      refine lv_goto (tgt := 40) hx hb dX7_versionTimestamp_36 (by decide) ?_
      obtain rfl := Option.some.inj hm
      exact kI _ _ _ _ dX7_versionTimestamp_40 Z (vp_nar_int _)
  · replace hm := (if_neg c4).symm.trans hm
    refine lv_aload_n hx hb dX7_versionTimestamp_7 rfl (lv_at hl 0 rfl) ?_
    refine lv_iload_n hx hb dX7_versionTimestamp_8 rfl (lv_at hl 1 rfl) ?_
    refine lv_iload_n hx hb dX7_versionTimestamp_9 rfl (lv_at hl 2 rfl) ?_
    obtain ⟨r13, e11, hm⟩ := sBi_some hm
    refine g_callVI (n := 2) (As := [.int x1, .int x2]) (rest := []) sameM X Z (cX7_stampAt_c l e11) oX7 rfl (gooV mB883 mB884 mB885 mB614 mB882) rfl (by decide +kernel) rfl ⟨Nat.le_of_ble_eq_true rfl, Nat.le_of_ble_eq_true rfl⟩ ⟨Nat.le_of_ble_eq_true rfl, Nat.le_of_ble_eq_true rfl⟩ hl.1 rfl (Nat.le_of_ble_eq_true rfl) dX7_versionTimestamp_10 (fun w12 H locs Z => ?_)
    refine lv_goto (tgt := 17) hx hb dX7_versionTimestamp_13 (by decide) ?_
    refine lv_istore_n (lv' := [(3, .int r13), (0, .ref (G.1 0)), (1, .int x1), (2, .int x2)]) hx hb dX7_versionTimestamp_17 rfl hl (by decide) rfl (fun ls hl => ?_)
    refine lv_aload_n hx hb dX7_versionTimestamp_18 rfl (lv_at hl 1 rfl) ?_
    refine lv_iload_n hx hb dX7_versionTimestamp_19 rfl (lv_at hl 0 rfl) ?_
    refine lv_iconst (v := (-1)) hx hb dX7_versionTimestamp_20 (by decide) ?_
    refine lv_icmp_ne (tgt := 28) hx hb dX7_versionTimestamp_21 (by decide) (fun c14 => ?_) (fun c14 => ?_)
    · replace hm := (if_neg c14).symm.trans hm
      refine lv_iconst (v := 0) hx hb dX7_versionTimestamp_28 (by decide) ?_
      obtain ⟨r17, g18, e15, hm⟩ := sBi2_some hm
      refine g_callVI (n := 1) (As := [.int 0]) (rest := []) sameM X Z (cX7_throwsAt_c l e15) oX7 rfl (gooV mB745 mB746 mB747 mB614 mB609) rfl (by decide +kernel) rfl ⟨Nat.le_of_ble_eq_true rfl, Nat.le_of_ble_eq_true rfl⟩ ⟨Nat.le_of_ble_eq_true rfl, Nat.le_of_ble_eq_true rfl⟩ hl.1 rfl (Nat.le_of_ble_eq_true rfl) dX7_versionTimestamp_29 (fun w16 H locs Z => ?_)
      refine lv_if_eq (tgt := 39) hx hb dX7_versionTimestamp_32 (by decide) (fun c19 => ?_) (fun c19 => ?_)
      · replace hm := (if_pos c19).symm.trans hm
        refine lv_iload_n hx hb dX7_versionTimestamp_39 rfl (lv_at hl 0 rfl) ?_
        obtain rfl := Option.some.inj hm
        exact kI _ _ _ _ dX7_versionTimestamp_40 Z (vp_nar_int _)
      · replace hm := (if_neg c19).symm.trans hm
        refine lv_iconst (v := 0) hx hb dX7_versionTimestamp_35 (by decide) ?_
        refine lv_goto (tgt := 40) hx hb dX7_versionTimestamp_36 (by decide) ?_
        obtain rfl := Option.some.inj hm
        exact kI _ _ _ _ dX7_versionTimestamp_40 Z (vp_nar_int _)
    · replace hm := (if_pos c14).symm.trans hm
      refine lv_iconst (v := 1) hx hb dX7_versionTimestamp_24 (by decide) ?_
      refine lv_goto (tgt := 29) hx hb dX7_versionTimestamp_25 (by decide) ?_
      obtain ⟨r22, g23, e20, hm⟩ := sBi2_some hm
      refine g_callVI (n := 1) (As := [.int 1]) (rest := []) sameM X Z (cX7_throwsAt_c l e20) oX7 rfl (gooV mB745 mB746 mB747 mB614 mB609) rfl (by decide +kernel) rfl ⟨Nat.le_of_ble_eq_true rfl, Nat.le_of_ble_eq_true rfl⟩ ⟨Nat.le_of_ble_eq_true rfl, Nat.le_of_ble_eq_true rfl⟩ hl.1 rfl (Nat.le_of_ble_eq_true rfl) dX7_versionTimestamp_29 (fun w21 H locs Z => ?_)
      refine lv_if_eq (tgt := 39) hx hb dX7_versionTimestamp_32 (by decide) (fun c24 => ?_) (fun c24 => ?_)
      · replace hm := (if_pos c24).symm.trans hm
        refine lv_iload_n hx hb dX7_versionTimestamp_39 rfl (lv_at hl 0 rfl) ?_
        obtain rfl := Option.some.inj hm
        exact kI _ _ _ _ dX7_versionTimestamp_40 Z (vp_nar_int _)
      · replace hm := (if_neg c24).symm.trans hm
        refine lv_iconst (v := 0) hx hb dX7_versionTimestamp_35 (by decide) ?_
        refine lv_goto (tgt := 40) hx hb dX7_versionTimestamp_36 (by decide) ?_
        obtain rfl := Option.some.inj hm
        exact kI _ _ _ _ dX7_versionTimestamp_40 Z (vp_nar_int _)
theorem cX7_versionTimestamp_c (l : Launch) {G : LY} {g : Mem} {n : Nat} {x1 : Int32} {x2 : Int32} {r : Int32 × Mem} (hm : sX7_versionTimestamp n g x1 x2 = some r) : cI l yX7_versionTimestamp wmX7_versionTimestamp 4 91 .int wM G [.ref (G.1 0), .int x1, .int x2] g r.1 r.2 :=
  mk_cI sameM (by decide +kernel) rfl (Nat.le_of_ble_eq_true rfl) (fun p e s m args below meth c A Q ls X kI hl Z => bX7_versionTimestamp_0 X kI g x1 x2 _ _ ls Z hl hm)
abbrev wmX7_throwsForValue : List Cond := Cond.code yX7_throwsForValue cX7_throwsForValue 3 (some .boolean) :: wA0
set_option maxHeartbeats 4000000 in
set_option maxRecDepth 100000 in
theorem bX7_throwsForValue_0 (X : gC p s m args meth c cX7_throwsForValue 3 wmX7_throwsForValue yX7_throwsForValue.cls (some .boolean) G A) {r : Int32 × Mem} (kI : ∀ (pc : Nat) (ls : Array Slot) (H : Heap) (locs : List Loc), decode cX7_throwsForValue pc = .ok (.ireturn, 1) → WS wM G r.2 A s.heap H locs → narrow .boolean (.int r.1) = .int r.1 → W p l e { frames := 2, cells := 0, slots := 0, locals := 42 } s m args below meth c H locs 0 0 Q (F0 m pc ls [.int r.1])) : ∀ (g : Mem) (x1 : Int32) (x2 : Int32) (H : Heap) (locs : List Loc) (ls : Array Slot), WS wM G g A s.heap H locs → lv_has ls 3 [(0, .ref (G.1 0)), (1, .int x1), (2, .int x2)] → sX7_throwsForValue g x1 x2 = some r → W p l e { frames := 2, cells := 0, slots := 0, locals := 42 } s m args below meth c H locs 0 0 Q (F0 m 0 ls []) := by
  have hx := X.1
  have hb := X.2.1
  intro g x1 x2 H locs ls Z hl hm
  unfold sX7_throwsForValue at hm
  refine lv_aload_n hx hb dX7_throwsForValue_0 rfl (lv_at hl 0 rfl) ?_
  refine lv_iload_n hx hb dX7_throwsForValue_1 rfl (lv_at hl 1 rfl) ?_
  obtain ⟨r3, e1, hm⟩ := sBi_some hm
  refine g_callSI (n := 1) (As := [.int x1]) (rest := [.ref (G.1 0)]) sameM X Z (cX7_isKey_c l e1) (gooS mB712 mB713 mB614 mB615) rfl (by decide +kernel) rfl ⟨Nat.le_of_ble_eq_true rfl, Nat.le_of_ble_eq_true rfl⟩ ⟨Nat.le_of_ble_eq_true rfl, Nat.le_of_ble_eq_true rfl⟩ hl.1 rfl (Nat.le_of_ble_eq_true rfl) dX7_throwsForValue_2 (fun w2 H locs Z => ?_)
  refine lv_if_ne (tgt := 12) hx hb dX7_throwsForValue_5 (by decide) (fun c4 => ?_) (fun c4 => ?_)
  · replace hm := (if_neg c4).symm.trans hm
    refine lv_iload_n hx hb dX7_throwsForValue_12 rfl (lv_at hl 2 rfl) ?_
    refine lv_if_ge (tgt := 20) hx hb dX7_throwsForValue_13 (by decide) (fun c5 => ?_) (fun c5 => ?_)
    · replace hm := (if_pos c5).symm.trans hm
      refine lv_iconst (v := 0) hx hb dX7_throwsForValue_20 (by decide) ?_
      obtain ⟨r8, g9, e6, hm⟩ := sBi2_some hm
      refine g_callVI (n := 1) (As := [.int 0]) (rest := []) sameM X Z (cX7_throwsAt_c l e6) oX7 rfl (gooV mB745 mB746 mB747 mB614 mB609) rfl (by decide +kernel) rfl ⟨Nat.le_of_ble_eq_true rfl, Nat.le_of_ble_eq_true rfl⟩ ⟨Nat.le_of_ble_eq_true rfl, Nat.le_of_ble_eq_true rfl⟩ hl.1 rfl (Nat.le_of_ble_eq_true rfl) dX7_throwsForValue_21 (fun w7 H locs Z => ?_)
      obtain rfl := Option.some.inj hm
      exact kI _ _ _ _ dX7_throwsForValue_24 Z w7
    · replace hm := (if_neg c5).symm.trans hm
      refine lv_iconst (v := 2) hx hb dX7_throwsForValue_16 (by decide) ?_
      refine lv_goto (tgt := 21) hx hb dX7_throwsForValue_17 (by decide) ?_
      obtain ⟨r12, g13, e10, hm⟩ := sBi2_some hm
      refine g_callVI (n := 1) (As := [.int 2]) (rest := []) sameM X Z (cX7_throwsAt_c l e10) oX7 rfl (gooV mB745 mB746 mB747 mB614 mB609) rfl (by decide +kernel) rfl ⟨Nat.le_of_ble_eq_true rfl, Nat.le_of_ble_eq_true rfl⟩ ⟨Nat.le_of_ble_eq_true rfl, Nat.le_of_ble_eq_true rfl⟩ hl.1 rfl (Nat.le_of_ble_eq_true rfl) dX7_throwsForValue_21 (fun w11 H locs Z => ?_)
      obtain rfl := Option.some.inj hm
      exact kI _ _ _ _ dX7_throwsForValue_24 Z w11
  · replace hm := (if_pos c4).symm.trans hm
    refine lv_iconst (v := 1) hx hb dX7_throwsForValue_8 (by decide) ?_
    refine lv_goto (tgt := 21) hx hb dX7_throwsForValue_9 (by decide) ?_
    obtain ⟨r16, g17, e14, hm⟩ := sBi2_some hm
    refine g_callVI (n := 1) (As := [.int 1]) (rest := []) sameM X Z (cX7_throwsAt_c l e14) oX7 rfl (gooV mB745 mB746 mB747 mB614 mB609) rfl (by decide +kernel) rfl ⟨Nat.le_of_ble_eq_true rfl, Nat.le_of_ble_eq_true rfl⟩ ⟨Nat.le_of_ble_eq_true rfl, Nat.le_of_ble_eq_true rfl⟩ hl.1 rfl (Nat.le_of_ble_eq_true rfl) dX7_throwsForValue_21 (fun w15 H locs Z => ?_)
    obtain rfl := Option.some.inj hm
    exact kI _ _ _ _ dX7_throwsForValue_24 Z w15
theorem cX7_throwsForValue_c (l : Launch) {G : LY} {g : Mem} {x1 : Int32} {x2 : Int32} {r : Int32 × Mem} (hm : sX7_throwsForValue g x1 x2 = some r) : cI l yX7_throwsForValue wmX7_throwsForValue 2 42 .boolean wM G [.ref (G.1 0), .int x1, .int x2] g r.1 r.2 :=
  mk_cI sameM (by decide +kernel) rfl (Nat.le_of_ble_eq_true rfl) (fun p e s m args below meth c A Q ls X kI hl Z => bX7_throwsForValue_0 X kI g x1 x2 _ _ ls Z hl hm)
abbrev wmX7_valueAt : List Cond := Cond.code yX7_valueAt cX7_valueAt 3 (some .int) :: wA0
set_option maxHeartbeats 4000000 in
set_option maxRecDepth 100000 in
theorem bX7_valueAt_0 (X : gC p s m args meth c cX7_valueAt 3 wmX7_valueAt yX7_valueAt.cls (some .int) G A) {n : Nat} {r : Int32 × Mem} (kI : ∀ (pc : Nat) (ls : Array Slot) (H : Heap) (locs : List Loc), decode cX7_valueAt pc = .ok (.ireturn, 1) → WS wM G r.2 A s.heap H locs → narrow .int (.int r.1) = .int r.1 → W p l e { frames := 5, cells := 0, slots := 0, locals := 113 } s m args below meth c H locs 0 0 Q (F0 m pc ls [.int r.1])) : ∀ (g : Mem) (x1 : Int32) (x2 : Int32) (H : Heap) (locs : List Loc) (ls : Array Slot), WS wM G g A s.heap H locs → lv_has ls 3 [(0, .ref (G.1 0)), (1, .int x1), (2, .int x2)] → sX7_valueAt n g x1 x2 = some r → W p l e { frames := 5, cells := 0, slots := 0, locals := 113 } s m args below meth c H locs 0 0 Q (F0 m 0 ls []) := by
  have hx := X.1
  have hb := X.2.1
  intro g x1 x2 H locs ls Z hl hm
  unfold sX7_valueAt at hm
  refine lv_aload_n hx hb dX7_valueAt_0 rfl (lv_at hl 0 rfl) ?_
  refine lv_iload_n hx hb dX7_valueAt_1 rfl (lv_at hl 1 rfl) ?_
  refine lv_iload_n hx hb dX7_valueAt_2 rfl (lv_at hl 2 rfl) ?_
  obtain ⟨r3, g4, e1, hm⟩ := sBi2_some hm
  refine g_callVI (n := 2) (As := [.int x1, .int x2]) (rest := []) sameM X Z (cX7_throwsForValue_c l e1) oX7 rfl (gooV mB888 mB889 mB890 mB614 mB887) rfl (by decide +kernel) rfl ⟨Nat.le_of_ble_eq_true rfl, Nat.le_of_ble_eq_true rfl⟩ ⟨Nat.le_of_ble_eq_true rfl, Nat.le_of_ble_eq_true rfl⟩ hl.1 rfl (Nat.le_of_ble_eq_true rfl) dX7_valueAt_3 (fun w2 H locs Z => ?_)
  refine lv_if_eq (tgt := 13) hx hb dX7_valueAt_6 (by decide) (fun c5 => ?_) (fun c5 => ?_)
  · replace hm := (if_pos c5).symm.trans hm
    refine lv_aload_n hx hb dX7_valueAt_13 rfl (lv_at hl 0 rfl) ?_
    refine lv_iload_n hx hb dX7_valueAt_14 rfl (lv_at hl 1 rfl) ?_
    refine lv_iload_n hx hb dX7_valueAt_15 rfl (lv_at hl 2 rfl) ?_
    obtain ⟨r8, e6, hm⟩ := sBi_some hm
    refine g_callVI (n := 2) (As := [.int x1, .int x2]) (rest := []) sameM X Z (cX7_value_c l e6) oX7 rfl (gooV mB725 mB726 mB727 mB614 mB665) rfl (by decide +kernel) rfl ⟨Nat.le_of_ble_eq_true rfl, Nat.le_of_ble_eq_true rfl⟩ ⟨Nat.le_of_ble_eq_true rfl, Nat.le_of_ble_eq_true rfl⟩ hl.1 rfl (Nat.le_of_ble_eq_true rfl) dX7_valueAt_16 (fun w7 H locs Z => ?_)
    obtain rfl := Option.some.inj hm
    exact kI _ _ _ _ dX7_valueAt_19 Z (vp_nar_int _)
  · replace hm := (if_neg c5).symm.trans hm
    refine lv_iconst (v := 0) hx hb dX7_valueAt_9 (by decide) ?_
    refine lv_goto (tgt := 19) hx hb dX7_valueAt_10 (by decide) ?_
    obtain rfl := Option.some.inj hm
    exact kI _ _ _ _ dX7_valueAt_19 Z (vp_nar_int _)
theorem cX7_valueAt_c (l : Launch) {G : LY} {g : Mem} {n : Nat} {x1 : Int32} {x2 : Int32} {r : Int32 × Mem} (hm : sX7_valueAt n g x1 x2 = some r) : cI l yX7_valueAt wmX7_valueAt 5 113 .int wM G [.ref (G.1 0), .int x1, .int x2] g r.1 r.2 :=
  mk_cI sameM (by decide +kernel) rfl (Nat.le_of_ble_eq_true rfl) (fun p e s m args below meth c A Q ls X kI hl Z => bX7_valueAt_0 X kI g x1 x2 _ _ ls Z hl hm)
abbrev wmX7_nextApplied : List Cond := Cond.code yX7_nextApplied cX7_nextApplied 6 (some .int) :: wA0
set_option maxHeartbeats 4000000 in
set_option maxRecDepth 100000 in
theorem bX7_nextApplied_53 (X : gC p s m args meth c cX7_nextApplied 6 wmX7_nextApplied yX7_nextApplied.cls (some .int) G A) {n : Nat} {g : Mem} {r : Int32} (kI : ∀ (pc : Nat) (ls : Array Slot) (H : Heap) (locs : List Loc), decode cX7_nextApplied pc = .ok (.ireturn, 1) → WS wM G g A s.heap H locs → narrow .int (.int r) = .int r → W p l e { frames := 1, cells := 0, slots := 0, locals := 22 } s m args below meth c H locs 0 0 Q (F0 m pc ls [.int r])) {rec4 : Int32 → Int32 → Int32 → Option (Int32)} (h4 : ∀ (x1 : Int32) (x2 : Int32) (x3 : Int32) (H : Heap) (locs : List Loc) (ls : Array Slot), WS wM G g A s.heap H locs → lv_has ls 6 [(0, .ref (G.1 0)), (1, .int x1), (2, .int x2), (3, .int x3)] → rec4 x1 x2 x3 = some r → W p l e { frames := 1, cells := 0, slots := 0, locals := 22 } s m args below meth c H locs 0 0 Q (F0 m 4 ls [])) : ∀ (x1 : Int32) (x2 : Int32) (x3 : Int32) (H : Heap) (locs : List Loc) (ls : Array Slot), WS wM G g A s.heap H locs → lv_has ls 6 [(0, .ref (G.1 0)), (1, .int x1), (2, .int x2), (3, .int x3)] → sX7_nextApplied_53 n g rec4 x1 x2 x3 = some r → W p l e { frames := 1, cells := 0, slots := 0, locals := 22 } s m args below meth c H locs 0 0 Q (F0 m 53 ls []) := by
  have hx := X.1
  have hb := X.2.1
  intro x1 x2 x3 H locs ls Z hl hm
  unfold sX7_nextApplied_53 at hm
  refine lv_iconst (v := 1) hx hb dX7_nextApplied_53 (by decide) ?_
  refine lv_goto (tgt := 58) hx hb dX7_nextApplied_54 (by decide) ?_
  refine lv_istore (lv' := [(5, .int 1), (0, .ref (G.1 0)), (1, .int x1), (2, .int x2), (3, .int x3)]) hx hb dX7_nextApplied_58 hl (by decide) rfl (fun ls hl => ?_)
  refine lv_aload_n hx hb dX7_nextApplied_60 rfl (lv_at hl 1 rfl) ?_
  refine lv_iload_n hx hb dX7_nextApplied_61 rfl (lv_at hl 4 rfl) ?_
  refine lv_iconst (v := 1) hx hb dX7_nextApplied_62 (by decide) ?_
  obtain ⟨r3, e1, hm⟩ := sBi_some hm
  refine g_callVI (n := 2) (As := [.int x3, .int 1]) (rest := []) sameM X Z (cX7_of_c l e1) oX7 rfl (gooV mB652 mB653 mB654 mB614 mB649) rfl (by decide +kernel) rfl ⟨Nat.le_of_ble_eq_true rfl, Nat.le_of_ble_eq_true rfl⟩ ⟨Nat.le_of_ble_eq_true rfl, Nat.le_of_ble_eq_true rfl⟩ hl.1 rfl (Nat.le_of_ble_eq_true rfl) dX7_nextApplied_63 (fun w2 H locs Z => ?_)
  refine lv_iconst (v := 2) hx hb dX7_nextApplied_66 (by decide) ?_
  refine lv_icmp_ne (tgt := 97) hx hb dX7_nextApplied_67 (by decide) (fun c4 => ?_) (fun c4 => ?_)
  · replace hm := (if_neg c4).symm.trans hm
    refine lv_iinc (v := (x3 + (1 : Int32))) (lv' := [(3, .int (x3 + (1 : Int32))), (5, .int 1), (0, .ref (G.1 0)), (1, .int x1), (2, .int x2)]) hx hb dX7_nextApplied_97 hl (k := 4) rfl rfl (by decide) rfl (fun ls hl => ?_)
    refine lv_goto (tgt := 4) hx hb dX7_nextApplied_100 (by decide) ?_
    exact h4 x1 x2 (x3 + (1 : Int32)) _ _ _ Z (lv_sub hl [2, 3, 4, 0] rfl) hm
  · replace hm := (if_pos c4).symm.trans hm
    refine lv_iload hx hb dX7_nextApplied_70 (lv_at hl 0 rfl) ?_
    refine lv_if_eq (tgt := 97) hx hb dX7_nextApplied_72 (by decide) (fun c5 => ?_) (fun c5 => ?_)
    · first | exact absurd c5 (by decide) | exact absurd (by decide) c5
    refine lv_iload_n hx hb dX7_nextApplied_75 rfl (lv_at hl 3 rfl) ?_
    refine lv_iconst (v := (-1)) hx hb dX7_nextApplied_76 (by decide) ?_
    refine lv_icmp_eq (tgt := 95) hx hb dX7_nextApplied_77 (by decide) (fun c6 => ?_) (fun c6 => ?_)
    · replace hm := (if_pos c6).symm.trans hm
      refine lv_iload_n hx hb dX7_nextApplied_95 rfl (lv_at hl 4 rfl) ?_
      refine lv_istore_n (lv' := [(2, .int x3), (5, .int 1), (0, .ref (G.1 0)), (1, .int x1), (3, .int x3)]) hx hb dX7_nextApplied_96 rfl hl (by decide) rfl (fun ls hl => ?_)
      refine lv_iinc (v := (x3 + (1 : Int32))) (lv' := [(3, .int (x3 + (1 : Int32))), (2, .int x3), (5, .int 1), (0, .ref (G.1 0)), (1, .int x1)]) hx hb dX7_nextApplied_97 hl (k := 4) rfl rfl (by decide) rfl (fun ls hl => ?_)
      refine lv_goto (tgt := 4) hx hb dX7_nextApplied_100 (by decide) ?_
      exact h4 x1 x3 (x3 + (1 : Int32)) _ _ _ Z (lv_sub hl [3, 4, 1, 0] rfl) hm
    · replace hm := (if_neg c6).symm.trans hm
      refine lv_aload_n hx hb dX7_nextApplied_80 rfl (lv_at hl 1 rfl) ?_
      refine lv_iload_n hx hb dX7_nextApplied_81 rfl (lv_at hl 4 rfl) ?_
      refine lv_iconst (v := 2) hx hb dX7_nextApplied_82 (by decide) ?_
      obtain ⟨r9, e7, hm⟩ := sBi_some hm
      refine g_callVI (n := 2) (As := [.int x3, .int 2]) (rest := []) sameM X Z (cX7_of_c l e7) oX7 rfl (gooV mB652 mB653 mB654 mB614 mB649) rfl (by decide +kernel) rfl ⟨Nat.le_of_ble_eq_true rfl, Nat.le_of_ble_eq_true rfl⟩ ⟨Nat.le_of_ble_eq_true rfl, Nat.le_of_ble_eq_true rfl⟩ hl.1 rfl (Nat.le_of_ble_eq_true rfl) dX7_nextApplied_83 (fun w8 H locs Z => ?_)
      refine lv_aload_n hx hb dX7_nextApplied_86 rfl (lv_at hl 1 rfl) ?_
      refine lv_iload_n hx hb dX7_nextApplied_87 rfl (lv_at hl 3 rfl) ?_
      refine lv_iconst (v := 2) hx hb dX7_nextApplied_88 (by decide) ?_
      obtain ⟨r12, e10, hm⟩ := sBi_some hm
      refine g_callVI (n := 2) (As := [.int x2, .int 2]) (rest := [.int r9]) sameM X Z (cX7_of_c l e10) oX7 rfl (gooV mB652 mB653 mB654 mB614 mB649) rfl (by decide +kernel) rfl ⟨Nat.le_of_ble_eq_true rfl, Nat.le_of_ble_eq_true rfl⟩ ⟨Nat.le_of_ble_eq_true rfl, Nat.le_of_ble_eq_true rfl⟩ hl.1 rfl (Nat.le_of_ble_eq_true rfl) dX7_nextApplied_89 (fun w11 H locs Z => ?_)
      refine lv_icmp_ge (tgt := 97) hx hb dX7_nextApplied_92 (by decide) (fun c13 => ?_) (fun c13 => ?_)
      · replace hm := (if_pos c13).symm.trans hm
        refine lv_iinc (v := (x3 + (1 : Int32))) (lv' := [(3, .int (x3 + (1 : Int32))), (5, .int 1), (0, .ref (G.1 0)), (1, .int x1), (2, .int x2)]) hx hb dX7_nextApplied_97 hl (k := 4) rfl rfl (by decide) rfl (fun ls hl => ?_)
        refine lv_goto (tgt := 4) hx hb dX7_nextApplied_100 (by decide) ?_
        exact h4 x1 x2 (x3 + (1 : Int32)) _ _ _ Z (lv_sub hl [2, 3, 4, 0] rfl) hm
      · replace hm := (if_neg c13).symm.trans hm
        refine lv_iload_n hx hb dX7_nextApplied_95 rfl (lv_at hl 4 rfl) ?_
        refine lv_istore_n (lv' := [(2, .int x3), (5, .int 1), (0, .ref (G.1 0)), (1, .int x1), (3, .int x3)]) hx hb dX7_nextApplied_96 rfl hl (by decide) rfl (fun ls hl => ?_)
        refine lv_iinc (v := (x3 + (1 : Int32))) (lv' := [(3, .int (x3 + (1 : Int32))), (2, .int x3), (5, .int 1), (0, .ref (G.1 0)), (1, .int x1)]) hx hb dX7_nextApplied_97 hl (k := 4) rfl rfl (by decide) rfl (fun ls hl => ?_)
        refine lv_goto (tgt := 4) hx hb dX7_nextApplied_100 (by decide) ?_
        exact h4 x1 x3 (x3 + (1 : Int32)) _ _ _ Z (lv_sub hl [3, 4, 1, 0] rfl) hm
set_option maxHeartbeats 4000000 in
set_option maxRecDepth 100000 in
theorem bX7_nextApplied_57 (X : gC p s m args meth c cX7_nextApplied 6 wmX7_nextApplied yX7_nextApplied.cls (some .int) G A) {n : Nat} {g : Mem} {r : Int32} (kI : ∀ (pc : Nat) (ls : Array Slot) (H : Heap) (locs : List Loc), decode cX7_nextApplied pc = .ok (.ireturn, 1) → WS wM G g A s.heap H locs → narrow .int (.int r) = .int r → W p l e { frames := 1, cells := 0, slots := 0, locals := 22 } s m args below meth c H locs 0 0 Q (F0 m pc ls [.int r])) {rec4 : Int32 → Int32 → Int32 → Option (Int32)} (h4 : ∀ (x1 : Int32) (x2 : Int32) (x3 : Int32) (H : Heap) (locs : List Loc) (ls : Array Slot), WS wM G g A s.heap H locs → lv_has ls 6 [(0, .ref (G.1 0)), (1, .int x1), (2, .int x2), (3, .int x3)] → rec4 x1 x2 x3 = some r → W p l e { frames := 1, cells := 0, slots := 0, locals := 22 } s m args below meth c H locs 0 0 Q (F0 m 4 ls [])) : ∀ (x1 : Int32) (x2 : Int32) (x3 : Int32) (H : Heap) (locs : List Loc) (ls : Array Slot), WS wM G g A s.heap H locs → lv_has ls 6 [(0, .ref (G.1 0)), (1, .int x1), (2, .int x2), (3, .int x3)] → sX7_nextApplied_57 n g rec4 x1 x2 x3 = some r → W p l e { frames := 1, cells := 0, slots := 0, locals := 22 } s m args below meth c H locs 0 0 Q (F0 m 57 ls []) := by
  have hx := X.1
  have hb := X.2.1
  intro x1 x2 x3 H locs ls Z hl hm
  unfold sX7_nextApplied_57 at hm
  refine lv_iconst (v := 0) hx hb dX7_nextApplied_57 (by decide) ?_
  refine lv_istore (lv' := [(5, .int 0), (0, .ref (G.1 0)), (1, .int x1), (2, .int x2), (3, .int x3)]) hx hb dX7_nextApplied_58 hl (by decide) rfl (fun ls hl => ?_)
  refine lv_aload_n hx hb dX7_nextApplied_60 rfl (lv_at hl 1 rfl) ?_
  refine lv_iload_n hx hb dX7_nextApplied_61 rfl (lv_at hl 4 rfl) ?_
  refine lv_iconst (v := 1) hx hb dX7_nextApplied_62 (by decide) ?_
  obtain ⟨r3, e1, hm⟩ := sBi_some hm
  refine g_callVI (n := 2) (As := [.int x3, .int 1]) (rest := []) sameM X Z (cX7_of_c l e1) oX7 rfl (gooV mB652 mB653 mB654 mB614 mB649) rfl (by decide +kernel) rfl ⟨Nat.le_of_ble_eq_true rfl, Nat.le_of_ble_eq_true rfl⟩ ⟨Nat.le_of_ble_eq_true rfl, Nat.le_of_ble_eq_true rfl⟩ hl.1 rfl (Nat.le_of_ble_eq_true rfl) dX7_nextApplied_63 (fun w2 H locs Z => ?_)
  refine lv_iconst (v := 2) hx hb dX7_nextApplied_66 (by decide) ?_
  refine lv_icmp_ne (tgt := 97) hx hb dX7_nextApplied_67 (by decide) (fun c4 => ?_) (fun c4 => ?_)
  · replace hm := (if_neg c4).symm.trans hm
    refine lv_iinc (v := (x3 + (1 : Int32))) (lv' := [(3, .int (x3 + (1 : Int32))), (5, .int 0), (0, .ref (G.1 0)), (1, .int x1), (2, .int x2)]) hx hb dX7_nextApplied_97 hl (k := 4) rfl rfl (by decide) rfl (fun ls hl => ?_)
    refine lv_goto (tgt := 4) hx hb dX7_nextApplied_100 (by decide) ?_
    exact h4 x1 x2 (x3 + (1 : Int32)) _ _ _ Z (lv_sub hl [2, 3, 4, 0] rfl) hm
  · replace hm := (if_pos c4).symm.trans hm
    refine lv_iload hx hb dX7_nextApplied_70 (lv_at hl 0 rfl) ?_
    refine lv_if_eq (tgt := 97) hx hb dX7_nextApplied_72 (by decide) (fun c5 => ?_) (fun c5 => ?_)
    rotate_left
    · first | exact absurd c5 (by decide) | exact absurd (by decide) c5
    refine lv_iinc (v := (x3 + (1 : Int32))) (lv' := [(3, .int (x3 + (1 : Int32))), (5, .int 0), (0, .ref (G.1 0)), (1, .int x1), (2, .int x2)]) hx hb dX7_nextApplied_97 hl (k := 4) rfl rfl (by decide) rfl (fun ls hl => ?_)
    refine lv_goto (tgt := 4) hx hb dX7_nextApplied_100 (by decide) ?_
    exact h4 x1 x2 (x3 + (1 : Int32)) _ _ _ Z (lv_sub hl [2, 3, 4, 0] rfl) hm
set_option maxHeartbeats 4000000 in
set_option maxRecDepth 100000 in
theorem bX7_nextApplied_4 (X : gC p s m args meth c cX7_nextApplied 6 wmX7_nextApplied yX7_nextApplied.cls (some .int) G A) {n : Nat} {g : Mem} {r : Int32} (kI : ∀ (pc : Nat) (ls : Array Slot) (H : Heap) (locs : List Loc), decode cX7_nextApplied pc = .ok (.ireturn, 1) → WS wM G g A s.heap H locs → narrow .int (.int r) = .int r → W p l e { frames := 1, cells := 0, slots := 0, locals := 22 } s m args below meth c H locs 0 0 Q (F0 m pc ls [.int r])) : ∀ (f : Nat), ∀ (x1 : Int32) (x2 : Int32) (x3 : Int32) (H : Heap) (locs : List Loc) (ls : Array Slot), WS wM G g A s.heap H locs → lv_has ls 6 [(0, .ref (G.1 0)), (1, .int x1), (2, .int x2), (3, .int x3)] → sX7_nextApplied_4 n g f x1 x2 x3 = some r → W p l e { frames := 1, cells := 0, slots := 0, locals := 22 } s m args below meth c H locs 0 0 Q (F0 m 4 ls []) := by
  have hx := X.1
  have hb := X.2.1
  intro f
  induction f with
  | zero =>
    intro x1 x2 x3 H locs ls Z hl hm
    cases hm
  | succ f ih =>
    intro x1 x2 x3 H locs ls Z hl hm
    unfold sX7_nextApplied_4 at hm
    refine lv_iload_n hx hb dX7_nextApplied_4 rfl (lv_at hl 3 rfl) ?_
    refine lv_aload_n hx hb dX7_nextApplied_5 rfl (lv_at hl 0 rfl) ?_
    refine g_get (j := 0) (v := .ref (G.1 1)) X Z oX7 (iB7 _) rfl (by decide) rfl (List.mem_cons_of_mem _ mB602) rfl dX7_nextApplied_6 ?_
    refine lv_iconst (v := 3) hx hb dX7_nextApplied_9 (by decide) ?_
    obtain ⟨b1, hm⟩ := sIdx_some hm
    refine g_iald X Z aM1 b1 dX7_nextApplied_10 ?_
    refine lv_icmp_ge (tgt := 103) hx hb dX7_nextApplied_11 (by decide) (fun c2 => ?_) (fun c2 => ?_)
    · replace hm := (if_pos c2).symm.trans hm
      refine lv_iload_n hx hb dX7_nextApplied_103 rfl (lv_at hl 2 rfl) ?_
      obtain rfl := Option.some.inj hm
      exact kI _ _ _ _ dX7_nextApplied_104 Z (vp_nar_int _)
    · replace hm := (if_neg c2).symm.trans hm
      refine lv_iload_n hx hb dX7_nextApplied_14 rfl (lv_at hl 1 rfl) ?_
      refine lv_iconst (v := (-1)) hx hb dX7_nextApplied_15 (by decide) ?_
      refine lv_icmp_ne (tgt := 23) hx hb dX7_nextApplied_16 (by decide) (fun c3 => ?_) (fun c3 => ?_)
      · replace hm := (if_neg c3).symm.trans hm
        refine lv_aload_n hx hb dX7_nextApplied_23 rfl (lv_at hl 0 rfl) ?_
        refine lv_iload_n hx hb dX7_nextApplied_24 rfl (lv_at hl 3 rfl) ?_
        refine lv_iconst (v := 2) hx hb dX7_nextApplied_25 (by decide) ?_
        obtain ⟨r6, e4, hm⟩ := sBi_some hm
        refine g_callVI (n := 2) (As := [.int x3, .int 2]) (rest := []) sameM X Z (cX7_of_c l e4) oX7 rfl (gooV mB652 mB653 mB654 mB614 mB649) rfl (by decide +kernel) rfl ⟨Nat.le_of_ble_eq_true rfl, Nat.le_of_ble_eq_true rfl⟩ ⟨Nat.le_of_ble_eq_true rfl, Nat.le_of_ble_eq_true rfl⟩ hl.1 rfl (Nat.le_of_ble_eq_true rfl) dX7_nextApplied_26 (fun w5 H locs Z => ?_)
        refine lv_aload_n hx hb dX7_nextApplied_29 rfl (lv_at hl 0 rfl) ?_
        refine lv_iload_n hx hb dX7_nextApplied_30 rfl (lv_at hl 1 rfl) ?_
        refine lv_iconst (v := 2) hx hb dX7_nextApplied_31 (by decide) ?_
        obtain ⟨r9, e7, hm⟩ := sBi_some hm
        refine g_callVI (n := 2) (As := [.int x1, .int 2]) (rest := [.int r6]) sameM X Z (cX7_of_c l e7) oX7 rfl (gooV mB652 mB653 mB654 mB614 mB649) rfl (by decide +kernel) rfl ⟨Nat.le_of_ble_eq_true rfl, Nat.le_of_ble_eq_true rfl⟩ ⟨Nat.le_of_ble_eq_true rfl, Nat.le_of_ble_eq_true rfl⟩ hl.1 rfl (Nat.le_of_ble_eq_true rfl) dX7_nextApplied_32 (fun w8 H locs Z => ?_)
        refine lv_isub hx hb dX7_nextApplied_35 ?_
        refine lv_istore (lv' := [(4, .int (r6 - r9)), (0, .ref (G.1 0)), (1, .int x1), (2, .int x2), (3, .int x3)]) hx hb dX7_nextApplied_36 hl (by decide) rfl (fun ls hl => ?_)
        refine lv_iload hx hb dX7_nextApplied_38 (lv_at hl 0 rfl) ?_
        refine lv_if_gt (tgt := 53) hx hb dX7_nextApplied_40 (by decide) (fun c10 => ?_) (fun c10 => ?_)
        · replace hm := (if_pos c10).symm.trans hm
          exact bX7_nextApplied_53 X kI ih x1 x2 x3 _ _ _ Z (lv_sub hl [1, 2, 3, 4] rfl) hm
        · replace hm := (if_neg c10).symm.trans hm
          refine lv_iload hx hb dX7_nextApplied_43 (lv_at hl 0 rfl) ?_
          refine lv_if_ne (tgt := 57) hx hb dX7_nextApplied_45 (by decide) (fun c11 => ?_) (fun c11 => ?_)
          · replace hm := (if_neg c11).symm.trans hm
            exact bX7_nextApplied_57 X kI ih x1 x2 x3 _ _ _ Z (lv_sub hl [1, 2, 3, 4] rfl) hm
          · replace hm := (if_pos c11).symm.trans hm
            refine lv_iload_n hx hb dX7_nextApplied_48 rfl (lv_at hl 4 rfl) ?_
            refine lv_iload_n hx hb dX7_nextApplied_49 rfl (lv_at hl 2 rfl) ?_
            refine lv_icmp_le (tgt := 57) hx hb dX7_nextApplied_50 (by decide) (fun c12 => ?_) (fun c12 => ?_)
            · replace hm := (if_pos c12).symm.trans hm
              exact bX7_nextApplied_57 X kI ih x1 x2 x3 _ _ _ Z (lv_sub hl [1, 2, 3, 4] rfl) hm
            · replace hm := (if_neg c12).symm.trans hm
              exact bX7_nextApplied_53 X kI ih x1 x2 x3 _ _ _ Z (lv_sub hl [1, 2, 3, 4] rfl) hm
      · replace hm := (if_pos c3).symm.trans hm
        refine lv_iconst (v := 1) hx hb dX7_nextApplied_19 (by decide) ?_
        refine lv_goto (tgt := 36) hx hb dX7_nextApplied_20 (by decide) ?_
        refine lv_istore (lv' := [(4, .int 1), (0, .ref (G.1 0)), (1, .int x1), (2, .int x2), (3, .int x3)]) hx hb dX7_nextApplied_36 hl (by decide) rfl (fun ls hl => ?_)
        refine lv_iload hx hb dX7_nextApplied_38 (lv_at hl 0 rfl) ?_
        refine lv_if_gt (tgt := 53) hx hb dX7_nextApplied_40 (by decide) (fun c13 => ?_) (fun c13 => ?_)
        rotate_left
        · first | exact absurd c13 (by decide) | exact absurd (by decide) c13
        exact bX7_nextApplied_53 X kI ih x1 x2 x3 _ _ _ Z (lv_sub hl [1, 2, 3, 4] rfl) hm
set_option maxHeartbeats 4000000 in
set_option maxRecDepth 100000 in
theorem bX7_nextApplied_0 (X : gC p s m args meth c cX7_nextApplied 6 wmX7_nextApplied yX7_nextApplied.cls (some .int) G A) {n : Nat} {g : Mem} {r : Int32} (kI : ∀ (pc : Nat) (ls : Array Slot) (H : Heap) (locs : List Loc), decode cX7_nextApplied pc = .ok (.ireturn, 1) → WS wM G g A s.heap H locs → narrow .int (.int r) = .int r → W p l e { frames := 1, cells := 0, slots := 0, locals := 22 } s m args below meth c H locs 0 0 Q (F0 m pc ls [.int r])) : ∀ (x1 : Int32) (H : Heap) (locs : List Loc) (ls : Array Slot), WS wM G g A s.heap H locs → lv_has ls 6 [(0, .ref (G.1 0)), (1, .int x1)] → sX7_nextApplied n g x1 = some r → W p l e { frames := 1, cells := 0, slots := 0, locals := 22 } s m args below meth c H locs 0 0 Q (F0 m 0 ls []) := by
  have hx := X.1
  have hb := X.2.1
  intro x1 H locs ls Z hl hm
  unfold sX7_nextApplied at hm
  refine lv_iconst (v := (-1)) hx hb dX7_nextApplied_0 (by decide) ?_
  refine lv_istore_n (lv' := [(2, .int (-1)), (0, .ref (G.1 0)), (1, .int x1)]) hx hb dX7_nextApplied_1 rfl hl (by decide) rfl (fun ls hl => ?_)
  refine lv_iconst (v := 0) hx hb dX7_nextApplied_2 (by decide) ?_
  refine lv_istore_n (lv' := [(3, .int 0), (2, .int (-1)), (0, .ref (G.1 0)), (1, .int x1)]) hx hb dX7_nextApplied_3 rfl hl (by decide) rfl (fun ls hl => ?_)
  exact bX7_nextApplied_4 X kI n x1 (-1 : Int32) (0 : Int32) _ _ _ Z (lv_sub hl [2, 3, 1, 0] rfl) hm
theorem cX7_nextApplied_c (l : Launch) {G : LY} {g : Mem} {n : Nat} {x1 : Int32} {r : Int32} (hm : sX7_nextApplied n g x1 = some r) : cI l yX7_nextApplied wmX7_nextApplied 1 22 .int wM G [.ref (G.1 0), .int x1] g r g :=
  mk_cI sameM (by decide +kernel) rfl (Nat.le_of_ble_eq_true rfl) (fun p e s m args below meth c A Q ls X kI hl Z => bX7_nextApplied_0 X kI x1 _ _ ls Z hl hm)
abbrev wmX7_replayedValueAt : List Cond := Cond.code yX7_replayedValueAt cX7_replayedValueAt 5 (some .int) :: wA0
set_option maxHeartbeats 4000000 in
set_option maxRecDepth 100000 in
theorem bX7_replayedValueAt_20 (X : gC p s m args meth c cX7_replayedValueAt 5 wmX7_replayedValueAt yX7_replayedValueAt.cls (some .int) G A) {n : Nat} {r : Int32 × Mem} (kI : ∀ (pc : Nat) (ls : Array Slot) (H : Heap) (locs : List Loc), decode cX7_replayedValueAt pc = .ok (.ireturn, 1) → WS wM G r.2 A s.heap H locs → narrow .int (.int r.1) = .int r.1 → W p l e { frames := 3, cells := 0, slots := 0, locals := 64 } s m args below meth c H locs 0 0 Q (F0 m pc ls [.int r.1])) : ∀ (f : Nat), ∀ (g : Mem) (x1 : Int32) (x2 : Int32) (x3 : Int32) (x4 : Int32) (H : Heap) (locs : List Loc) (ls : Array Slot), WS wM G g A s.heap H locs → lv_has ls 5 [(0, .ref (G.1 0)), (1, .int x1), (2, .int x2), (3, .int x3), (4, .int x4)] → sX7_replayedValueAt_20 n f g x1 x2 x3 x4 = some r → W p l e { frames := 3, cells := 0, slots := 0, locals := 64 } s m args below meth c H locs 0 0 Q (F0 m 20 ls []) := by
  have hx := X.1
  have hb := X.2.1
  intro f
  induction f with
  | zero =>
    intro g x1 x2 x3 x4 H locs ls Z hl hm
    cases hm
  | succ f ih =>
    intro g x1 x2 x3 x4 H locs ls Z hl hm
    unfold sX7_replayedValueAt_20 at hm
    refine lv_iload hx hb dX7_replayedValueAt_20 (lv_at hl 4 rfl) ?_
    refine lv_iconst (v := (-1)) hx hb dX7_replayedValueAt_22 (by decide) ?_
    refine lv_icmp_eq (tgt := 72) hx hb dX7_replayedValueAt_23 (by decide) (fun c1 => ?_) (fun c1 => ?_)
    · replace hm := (if_pos c1).symm.trans hm
      refine lv_iload_n hx hb dX7_replayedValueAt_72 rfl (lv_at hl 3 rfl) ?_
      obtain rfl := Option.some.inj hm
      exact kI _ _ _ _ dX7_replayedValueAt_73 Z (vp_nar_int _)
    · replace hm := (if_neg c1).symm.trans hm
      refine lv_aload_n hx hb dX7_replayedValueAt_26 rfl (lv_at hl 0 rfl) ?_
      refine lv_iload hx hb dX7_replayedValueAt_27 (lv_at hl 4 rfl) ?_
      refine lv_iconst (v := 2) hx hb dX7_replayedValueAt_29 (by decide) ?_
      obtain ⟨r4, e2, hm⟩ := sBi_some hm
      refine g_callVI (n := 2) (As := [.int x4, .int 2]) (rest := []) sameM X Z (cX7_of_c l e2) oX7 rfl (gooV mB652 mB653 mB654 mB614 mB649) rfl (by decide +kernel) rfl ⟨Nat.le_of_ble_eq_true rfl, Nat.le_of_ble_eq_true rfl⟩ ⟨Nat.le_of_ble_eq_true rfl, Nat.le_of_ble_eq_true rfl⟩ hl.1 rfl (Nat.le_of_ble_eq_true rfl) dX7_replayedValueAt_30 (fun w3 H locs Z => ?_)
      refine lv_iload_n hx hb dX7_replayedValueAt_33 rfl (lv_at hl 2 rfl) ?_
      refine lv_icmp_gt (tgt := 72) hx hb dX7_replayedValueAt_34 (by decide) (fun c5 => ?_) (fun c5 => ?_)
      · replace hm := (if_pos c5).symm.trans hm
        refine lv_iload_n hx hb dX7_replayedValueAt_72 rfl (lv_at hl 3 rfl) ?_
        obtain rfl := Option.some.inj hm
        exact kI _ _ _ _ dX7_replayedValueAt_73 Z (vp_nar_int _)
      · replace hm := (if_neg c5).symm.trans hm
        refine lv_aload_n hx hb dX7_replayedValueAt_37 rfl (lv_at hl 0 rfl) ?_
        refine lv_iload hx hb dX7_replayedValueAt_38 (lv_at hl 4 rfl) ?_
        refine lv_iload_n hx hb dX7_replayedValueAt_40 rfl (lv_at hl 1 rfl) ?_
        obtain ⟨r8, e6, hm⟩ := sBi_some hm
        refine g_callVI (n := 2) (As := [.int x4, .int x1]) (rest := []) sameM X Z (cX7_hasWritten_c l e6) oX7 rfl (gooV mB657 mB658 mB659 mB614 mB651) rfl (by decide +kernel) rfl ⟨Nat.le_of_ble_eq_true rfl, Nat.le_of_ble_eq_true rfl⟩ ⟨Nat.le_of_ble_eq_true rfl, Nat.le_of_ble_eq_true rfl⟩ hl.1 rfl (Nat.le_of_ble_eq_true rfl) dX7_replayedValueAt_41 (fun w7 H locs Z => ?_)
        refine lv_if_eq (tgt := 59) hx hb dX7_replayedValueAt_44 (by decide) (fun c9 => ?_) (fun c9 => ?_)
        · replace hm := (if_pos c9).symm.trans hm
          refine lv_iload_n hx hb dX7_replayedValueAt_59 rfl (lv_at hl 3 rfl) ?_
          refine lv_istore_n (lv' := [(3, .int x3), (0, .ref (G.1 0)), (1, .int x1), (2, .int x2), (4, .int x4)]) hx hb dX7_replayedValueAt_60 rfl hl (by decide) rfl (fun ls hl => ?_)
          refine lv_aload_n hx hb dX7_replayedValueAt_61 rfl (lv_at hl 1 rfl) ?_
          refine lv_iload hx hb dX7_replayedValueAt_62 (lv_at hl 4 rfl) ?_
          obtain ⟨r12, e10, hm⟩ := sBi_some hm
          refine g_callVI (n := 1) (As := [.int x4]) (rest := []) sameM X Z (cX7_nextApplied_c l e10) oX7 rfl (gooV mB893 mB894 mB895 mB614 mB892) rfl (by decide +kernel) rfl ⟨Nat.le_of_ble_eq_true rfl, Nat.le_of_ble_eq_true rfl⟩ ⟨Nat.le_of_ble_eq_true rfl, Nat.le_of_ble_eq_true rfl⟩ hl.1 rfl (Nat.le_of_ble_eq_true rfl) dX7_replayedValueAt_64 (fun w11 H locs Z => ?_)
          refine lv_istore (lv' := [(4, .int r12), (3, .int x3), (0, .ref (G.1 0)), (1, .int x1), (2, .int x2)]) hx hb dX7_replayedValueAt_67 hl (by decide) rfl (fun ls hl => ?_)
          refine lv_goto (tgt := 20) hx hb dX7_replayedValueAt_69 (by decide) ?_
          exact ih g x1 x2 x3 r12 _ _ _ Z (lv_sub hl [2, 3, 4, 1, 0] rfl) hm
        · replace hm := (if_neg c9).symm.trans hm
          refine lv_aload_n hx hb dX7_replayedValueAt_47 rfl (lv_at hl 0 rfl) ?_
          refine lv_iload hx hb dX7_replayedValueAt_48 (lv_at hl 4 rfl) ?_
          refine lv_iconst (v := 5) hx hb dX7_replayedValueAt_50 (by decide) ?_
          refine lv_iload_n hx hb dX7_replayedValueAt_51 rfl (lv_at hl 1 rfl) ?_
          refine lv_iadd hx hb dX7_replayedValueAt_52 ?_
          obtain ⟨r15, e13, hm⟩ := sBi_some hm
          refine g_callVI (n := 2) (As := [.int x4, .int ((5 : Int32) + x1)]) (rest := []) sameM X Z (cX7_of_c l e13) oX7 rfl (gooV mB652 mB653 mB654 mB614 mB649) rfl (by decide +kernel) rfl ⟨Nat.le_of_ble_eq_true rfl, Nat.le_of_ble_eq_true rfl⟩ ⟨Nat.le_of_ble_eq_true rfl, Nat.le_of_ble_eq_true rfl⟩ hl.1 rfl (Nat.le_of_ble_eq_true rfl) dX7_replayedValueAt_53 (fun w14 H locs Z => ?_)
          refine lv_goto (tgt := 60) hx hb dX7_replayedValueAt_56 (by decide) ?_
          refine lv_istore_n (lv' := [(3, .int r15), (0, .ref (G.1 0)), (1, .int x1), (2, .int x2), (4, .int x4)]) hx hb dX7_replayedValueAt_60 rfl hl (by decide) rfl (fun ls hl => ?_)
          refine lv_aload_n hx hb dX7_replayedValueAt_61 rfl (lv_at hl 1 rfl) ?_
          refine lv_iload hx hb dX7_replayedValueAt_62 (lv_at hl 4 rfl) ?_
          obtain ⟨r18, e16, hm⟩ := sBi_some hm
          refine g_callVI (n := 1) (As := [.int x4]) (rest := []) sameM X Z (cX7_nextApplied_c l e16) oX7 rfl (gooV mB893 mB894 mB895 mB614 mB892) rfl (by decide +kernel) rfl ⟨Nat.le_of_ble_eq_true rfl, Nat.le_of_ble_eq_true rfl⟩ ⟨Nat.le_of_ble_eq_true rfl, Nat.le_of_ble_eq_true rfl⟩ hl.1 rfl (Nat.le_of_ble_eq_true rfl) dX7_replayedValueAt_64 (fun w17 H locs Z => ?_)
          refine lv_istore (lv' := [(4, .int r18), (3, .int r15), (0, .ref (G.1 0)), (1, .int x1), (2, .int x2)]) hx hb dX7_replayedValueAt_67 hl (by decide) rfl (fun ls hl => ?_)
          refine lv_goto (tgt := 20) hx hb dX7_replayedValueAt_69 (by decide) ?_
          exact ih g x1 x2 r15 r18 _ _ _ Z (lv_sub hl [2, 3, 4, 1, 0] rfl) hm
set_option maxHeartbeats 4000000 in
set_option maxRecDepth 100000 in
theorem bX7_replayedValueAt_0 (X : gC p s m args meth c cX7_replayedValueAt 5 wmX7_replayedValueAt yX7_replayedValueAt.cls (some .int) G A) {n : Nat} {r : Int32 × Mem} (kI : ∀ (pc : Nat) (ls : Array Slot) (H : Heap) (locs : List Loc), decode cX7_replayedValueAt pc = .ok (.ireturn, 1) → WS wM G r.2 A s.heap H locs → narrow .int (.int r.1) = .int r.1 → W p l e { frames := 3, cells := 0, slots := 0, locals := 64 } s m args below meth c H locs 0 0 Q (F0 m pc ls [.int r.1])) : ∀ (g : Mem) (x1 : Int32) (x2 : Int32) (H : Heap) (locs : List Loc) (ls : Array Slot), WS wM G g A s.heap H locs → lv_has ls 5 [(0, .ref (G.1 0)), (1, .int x1), (2, .int x2)] → sX7_replayedValueAt n g x1 x2 = some r → W p l e { frames := 3, cells := 0, slots := 0, locals := 64 } s m args below meth c H locs 0 0 Q (F0 m 0 ls []) := by
  have hx := X.1
  have hb := X.2.1
  intro g x1 x2 H locs ls Z hl hm
  unfold sX7_replayedValueAt at hm
  refine lv_aload_n hx hb dX7_replayedValueAt_0 rfl (lv_at hl 0 rfl) ?_
  refine lv_iload_n hx hb dX7_replayedValueAt_1 rfl (lv_at hl 1 rfl) ?_
  refine lv_iload_n hx hb dX7_replayedValueAt_2 rfl (lv_at hl 2 rfl) ?_
  obtain ⟨r3, g4, e1, hm⟩ := sBi2_some hm
  refine g_callVI (n := 2) (As := [.int x1, .int x2]) (rest := []) sameM X Z (cX7_throwsForValue_c l e1) oX7 rfl (gooV mB888 mB889 mB890 mB614 mB887) rfl (by decide +kernel) rfl ⟨Nat.le_of_ble_eq_true rfl, Nat.le_of_ble_eq_true rfl⟩ ⟨Nat.le_of_ble_eq_true rfl, Nat.le_of_ble_eq_true rfl⟩ hl.1 rfl (Nat.le_of_ble_eq_true rfl) dX7_replayedValueAt_3 (fun w2 H locs Z => ?_)
  refine lv_if_eq (tgt := 11) hx hb dX7_replayedValueAt_6 (by decide) (fun c5 => ?_) (fun c5 => ?_)
  · replace hm := (if_pos c5).symm.trans hm
    refine lv_iconst (v := 0) hx hb dX7_replayedValueAt_11 (by decide) ?_
    refine lv_istore_n (lv' := [(3, .int 0), (0, .ref (G.1 0)), (1, .int x1), (2, .int x2)]) hx hb dX7_replayedValueAt_12 rfl hl (by decide) rfl (fun ls hl => ?_)
    refine lv_aload_n hx hb dX7_replayedValueAt_13 rfl (lv_at hl 1 rfl) ?_
    refine lv_iconst (v := (-1)) hx hb dX7_replayedValueAt_14 (by decide) ?_
    obtain ⟨r8, e6, hm⟩ := sBi_some hm
    refine g_callVI (n := 1) (As := [.int (-1)]) (rest := []) sameM X Z (cX7_nextApplied_c l e6) oX7 rfl (gooV mB893 mB894 mB895 mB614 mB892) rfl (by decide +kernel) rfl ⟨Nat.le_of_ble_eq_true rfl, Nat.le_of_ble_eq_true rfl⟩ ⟨Nat.le_of_ble_eq_true rfl, Nat.le_of_ble_eq_true rfl⟩ hl.1 rfl (Nat.le_of_ble_eq_true rfl) dX7_replayedValueAt_15 (fun w7 H locs Z => ?_)
    refine lv_istore (lv' := [(4, .int r8), (3, .int 0), (0, .ref (G.1 0)), (1, .int x1), (2, .int x2)]) hx hb dX7_replayedValueAt_18 hl (by decide) rfl (fun ls hl => ?_)
    exact bX7_replayedValueAt_20 X kI n g4 x1 x2 (0 : Int32) r8 _ _ _ Z (lv_sub hl [2, 3, 4, 1, 0] rfl) hm
  · replace hm := (if_neg c5).symm.trans hm
    refine lv_iconst (v := 0) hx hb dX7_replayedValueAt_9 (by decide) ?_
    obtain rfl := Option.some.inj hm
    exact kI _ _ _ _ dX7_replayedValueAt_10 Z (vp_nar_int _)
theorem cX7_replayedValueAt_c (l : Launch) {G : LY} {g : Mem} {n : Nat} {x1 : Int32} {x2 : Int32} {r : Int32 × Mem} (hm : sX7_replayedValueAt n g x1 x2 = some r) : cI l yX7_replayedValueAt wmX7_replayedValueAt 3 64 .int wM G [.ref (G.1 0), .int x1, .int x2] g r.1 r.2 :=
  mk_cI sameM (by decide +kernel) rfl (Nat.le_of_ble_eq_true rfl) (fun p e s m args below meth c A Q ls X kI hl Z => bX7_replayedValueAt_0 X kI g x1 x2 _ _ ls Z hl hm)
abbrev wmX7_waitingWriter : List Cond := Cond.code yX7_waitingWriter cX7_waitingWriter 3 (some .int) :: wA0
set_option maxHeartbeats 4000000 in
set_option maxRecDepth 100000 in
theorem bX7_waitingWriter_23 (X : gC p s m args meth c cX7_waitingWriter 3 wmX7_waitingWriter yX7_waitingWriter.cls (some .int) G A) {n : Nat} {r : Int32 × Mem} (kI : ∀ (pc : Nat) (ls : Array Slot) (H : Heap) (locs : List Loc), decode cX7_waitingWriter pc = .ok (.ireturn, 1) → WS wM G r.2 A s.heap H locs → narrow .int (.int r.1) = .int r.1 → W p l e { frames := 2, cells := 0, slots := 0, locals := 44 } s m args below meth c H locs 0 0 Q (F0 m pc ls [.int r.1])) : ∀ (f : Nat), ∀ (g : Mem) (x1 : Int32) (x2 : Int32) (H : Heap) (locs : List Loc) (ls : Array Slot), WS wM G g A s.heap H locs → lv_has ls 3 [(0, .ref (G.1 0)), (1, .int x1), (2, .int x2)] → sX7_waitingWriter_23 n f g x1 x2 = some r → W p l e { frames := 2, cells := 0, slots := 0, locals := 44 } s m args below meth c H locs 0 0 Q (F0 m 23 ls []) := by
  have hx := X.1
  have hb := X.2.1
  intro f
  induction f with
  | zero =>
    intro g x1 x2 H locs ls Z hl hm
    cases hm
  | succ f ih =>
    intro g x1 x2 H locs ls Z hl hm
    unfold sX7_waitingWriter_23 at hm
    refine lv_iload_n hx hb dX7_waitingWriter_23 rfl (lv_at hl 2 rfl) ?_
    refine lv_aload_n hx hb dX7_waitingWriter_24 rfl (lv_at hl 0 rfl) ?_
    refine g_get (j := 0) (v := .ref (G.1 1)) X Z oX7 (iB7 _) rfl (by decide) rfl (List.mem_cons_of_mem _ mB602) rfl dX7_waitingWriter_25 ?_
    refine lv_iconst (v := 3) hx hb dX7_waitingWriter_28 (by decide) ?_
    obtain ⟨b1, hm⟩ := sIdx_some hm
    refine g_iald X Z aM1 b1 dX7_waitingWriter_29 ?_
    refine lv_icmp_ge (tgt := 60) hx hb dX7_waitingWriter_30 (by decide) (fun c2 => ?_) (fun c2 => ?_)
    · replace hm := (if_pos c2).symm.trans hm
      refine lv_iconst (v := (-1)) hx hb dX7_waitingWriter_60 (by decide) ?_
      obtain rfl := Option.some.inj hm
      exact kI _ _ _ _ dX7_waitingWriter_61 Z (vp_nar_int _)
    · replace hm := (if_neg c2).symm.trans hm
      refine lv_aload_n hx hb dX7_waitingWriter_33 rfl (lv_at hl 0 rfl) ?_
      refine lv_iload_n hx hb dX7_waitingWriter_34 rfl (lv_at hl 2 rfl) ?_
      refine lv_iconst (v := 1) hx hb dX7_waitingWriter_35 (by decide) ?_
      obtain ⟨r5, e3, hm⟩ := sBi_some hm
      refine g_callVI (n := 2) (As := [.int x2, .int 1]) (rest := []) sameM X Z (cX7_of_c l e3) oX7 rfl (gooV mB652 mB653 mB654 mB614 mB649) rfl (by decide +kernel) rfl ⟨Nat.le_of_ble_eq_true rfl, Nat.le_of_ble_eq_true rfl⟩ ⟨Nat.le_of_ble_eq_true rfl, Nat.le_of_ble_eq_true rfl⟩ hl.1 rfl (Nat.le_of_ble_eq_true rfl) dX7_waitingWriter_36 (fun w4 H locs Z => ?_)
      refine lv_iconst (v := 1) hx hb dX7_waitingWriter_39 (by decide) ?_
      refine lv_icmp_ne (tgt := 54) hx hb dX7_waitingWriter_40 (by decide) (fun c6 => ?_) (fun c6 => ?_)
      · replace hm := (if_neg c6).symm.trans hm
        refine lv_iinc (v := (x2 + (1 : Int32))) (lv' := [(2, .int (x2 + (1 : Int32))), (0, .ref (G.1 0)), (1, .int x1)]) hx hb dX7_waitingWriter_54 hl (k := 2) rfl rfl (by decide) rfl (fun ls hl => ?_)
        refine lv_goto (tgt := 23) hx hb dX7_waitingWriter_57 (by decide) ?_
        exact ih g x1 (x2 + (1 : Int32)) _ _ _ Z (lv_sub hl [1, 2, 0] rfl) hm
      · replace hm := (if_pos c6).symm.trans hm
        refine lv_aload_n hx hb dX7_waitingWriter_43 rfl (lv_at hl 0 rfl) ?_
        refine lv_iload_n hx hb dX7_waitingWriter_44 rfl (lv_at hl 2 rfl) ?_
        refine lv_iload_n hx hb dX7_waitingWriter_45 rfl (lv_at hl 1 rfl) ?_
        obtain ⟨r9, e7, hm⟩ := sBi_some hm
        refine g_callVI (n := 2) (As := [.int x2, .int x1]) (rest := []) sameM X Z (cX7_hasWritten_c l e7) oX7 rfl (gooV mB657 mB658 mB659 mB614 mB651) rfl (by decide +kernel) rfl ⟨Nat.le_of_ble_eq_true rfl, Nat.le_of_ble_eq_true rfl⟩ ⟨Nat.le_of_ble_eq_true rfl, Nat.le_of_ble_eq_true rfl⟩ hl.1 rfl (Nat.le_of_ble_eq_true rfl) dX7_waitingWriter_46 (fun w8 H locs Z => ?_)
        refine lv_if_eq (tgt := 54) hx hb dX7_waitingWriter_49 (by decide) (fun c10 => ?_) (fun c10 => ?_)
        · replace hm := (if_pos c10).symm.trans hm
          refine lv_iinc (v := (x2 + (1 : Int32))) (lv' := [(2, .int (x2 + (1 : Int32))), (0, .ref (G.1 0)), (1, .int x1)]) hx hb dX7_waitingWriter_54 hl (k := 2) rfl rfl (by decide) rfl (fun ls hl => ?_)
          refine lv_goto (tgt := 23) hx hb dX7_waitingWriter_57 (by decide) ?_
          exact ih g x1 (x2 + (1 : Int32)) _ _ _ Z (lv_sub hl [1, 2, 0] rfl) hm
        · replace hm := (if_neg c10).symm.trans hm
          refine lv_iload_n hx hb dX7_waitingWriter_52 rfl (lv_at hl 2 rfl) ?_
          obtain rfl := Option.some.inj hm
          exact kI _ _ _ _ dX7_waitingWriter_53 Z (vp_nar_int _)
set_option maxHeartbeats 4000000 in
set_option maxRecDepth 100000 in
theorem bX7_waitingWriter_0 (X : gC p s m args meth c cX7_waitingWriter 3 wmX7_waitingWriter yX7_waitingWriter.cls (some .int) G A) {n : Nat} {r : Int32 × Mem} (kI : ∀ (pc : Nat) (ls : Array Slot) (H : Heap) (locs : List Loc), decode cX7_waitingWriter pc = .ok (.ireturn, 1) → WS wM G r.2 A s.heap H locs → narrow .int (.int r.1) = .int r.1 → W p l e { frames := 2, cells := 0, slots := 0, locals := 44 } s m args below meth c H locs 0 0 Q (F0 m pc ls [.int r.1])) : ∀ (g : Mem) (x1 : Int32) (H : Heap) (locs : List Loc) (ls : Array Slot), WS wM G g A s.heap H locs → lv_has ls 3 [(0, .ref (G.1 0)), (1, .int x1)] → sX7_waitingWriter n g x1 = some r → W p l e { frames := 2, cells := 0, slots := 0, locals := 44 } s m args below meth c H locs 0 0 Q (F0 m 0 ls []) := by
  have hx := X.1
  have hb := X.2.1
  intro g x1 H locs ls Z hl hm
  unfold sX7_waitingWriter at hm
  refine lv_aload_n hx hb dX7_waitingWriter_0 rfl (lv_at hl 0 rfl) ?_
  refine lv_iload_n hx hb dX7_waitingWriter_1 rfl (lv_at hl 1 rfl) ?_
  obtain ⟨r3, e1, hm⟩ := sBi_some hm
  refine g_callSI (n := 1) (As := [.int x1]) (rest := [.ref (G.1 0)]) sameM X Z (cX7_isKey_c l e1) (gooS mB712 mB713 mB614 mB615) rfl (by decide +kernel) rfl ⟨Nat.le_of_ble_eq_true rfl, Nat.le_of_ble_eq_true rfl⟩ ⟨Nat.le_of_ble_eq_true rfl, Nat.le_of_ble_eq_true rfl⟩ hl.1 rfl (Nat.le_of_ble_eq_true rfl) dX7_waitingWriter_2 (fun w2 H locs Z => ?_)
  refine lv_if_eq (tgt := 12) hx hb dX7_waitingWriter_5 (by decide) (fun c4 => ?_) (fun c4 => ?_)
  · replace hm := (if_pos c4).symm.trans hm
    refine lv_iconst (v := 1) hx hb dX7_waitingWriter_12 (by decide) ?_
    obtain ⟨r7, g8, e5, hm⟩ := sBi2_some hm
    refine g_callVI (n := 1) (As := [.int 1]) (rest := []) sameM X Z (cX7_throwsAt_c l e5) oX7 rfl (gooV mB745 mB746 mB747 mB614 mB609) rfl (by decide +kernel) rfl ⟨Nat.le_of_ble_eq_true rfl, Nat.le_of_ble_eq_true rfl⟩ ⟨Nat.le_of_ble_eq_true rfl, Nat.le_of_ble_eq_true rfl⟩ hl.1 rfl (Nat.le_of_ble_eq_true rfl) dX7_waitingWriter_13 (fun w6 H locs Z => ?_)
    refine lv_if_eq (tgt := 21) hx hb dX7_waitingWriter_16 (by decide) (fun c9 => ?_) (fun c9 => ?_)
    · replace hm := (if_pos c9).symm.trans hm
      refine lv_iconst (v := 0) hx hb dX7_waitingWriter_21 (by decide) ?_
      refine lv_istore_n (lv' := [(2, .int 0), (0, .ref (G.1 0)), (1, .int x1)]) hx hb dX7_waitingWriter_22 rfl hl (by decide) rfl (fun ls hl => ?_)
      exact bX7_waitingWriter_23 X kI n g8 x1 (0 : Int32) _ _ _ Z (lv_sub hl [1, 2, 0] rfl) hm
    · replace hm := (if_neg c9).symm.trans hm
      refine lv_iconst (v := 0) hx hb dX7_waitingWriter_19 (by decide) ?_
      obtain rfl := Option.some.inj hm
      exact kI _ _ _ _ dX7_waitingWriter_20 Z (vp_nar_int _)
  · replace hm := (if_neg c4).symm.trans hm
    refine lv_iconst (v := 0) hx hb dX7_waitingWriter_8 (by decide) ?_
    refine lv_goto (tgt := 13) hx hb dX7_waitingWriter_9 (by decide) ?_
    obtain ⟨r12, g13, e10, hm⟩ := sBi2_some hm
    refine g_callVI (n := 1) (As := [.int 0]) (rest := []) sameM X Z (cX7_throwsAt_c l e10) oX7 rfl (gooV mB745 mB746 mB747 mB614 mB609) rfl (by decide +kernel) rfl ⟨Nat.le_of_ble_eq_true rfl, Nat.le_of_ble_eq_true rfl⟩ ⟨Nat.le_of_ble_eq_true rfl, Nat.le_of_ble_eq_true rfl⟩ hl.1 rfl (Nat.le_of_ble_eq_true rfl) dX7_waitingWriter_13 (fun w11 H locs Z => ?_)
    refine lv_if_eq (tgt := 21) hx hb dX7_waitingWriter_16 (by decide) (fun c14 => ?_) (fun c14 => ?_)
    · replace hm := (if_pos c14).symm.trans hm
      refine lv_iconst (v := 0) hx hb dX7_waitingWriter_21 (by decide) ?_
      refine lv_istore_n (lv' := [(2, .int 0), (0, .ref (G.1 0)), (1, .int x1)]) hx hb dX7_waitingWriter_22 rfl hl (by decide) rfl (fun ls hl => ?_)
      exact bX7_waitingWriter_23 X kI n g13 x1 (0 : Int32) _ _ _ Z (lv_sub hl [1, 2, 0] rfl) hm
    · replace hm := (if_neg c14).symm.trans hm
      refine lv_iconst (v := 0) hx hb dX7_waitingWriter_19 (by decide) ?_
      obtain rfl := Option.some.inj hm
      exact kI _ _ _ _ dX7_waitingWriter_20 Z (vp_nar_int _)
theorem cX7_waitingWriter_c (l : Launch) {G : LY} {g : Mem} {n : Nat} {x1 : Int32} {r : Int32 × Mem} (hm : sX7_waitingWriter n g x1 = some r) : cI l yX7_waitingWriter wmX7_waitingWriter 2 44 .int wM G [.ref (G.1 0), .int x1] g r.1 r.2 :=
  mk_cI sameM (by decide +kernel) rfl (Nat.le_of_ble_eq_true rfl) (fun p e s m args below meth c A Q ls X kI hl Z => bX7_waitingWriter_0 X kI g x1 _ _ ls Z hl hm)
abbrev wmX7_readerMark : List Cond := Cond.code yX7_readerMark cX7_readerMark 2 (some .int) :: wA0
set_option maxHeartbeats 4000000 in
set_option maxRecDepth 100000 in
theorem bX7_readerMark_0 (X : gC p s m args meth c cX7_readerMark 2 wmX7_readerMark yX7_readerMark.cls (some .int) G A) {n : Nat} {r : Int32 × Mem} (kI : ∀ (pc : Nat) (ls : Array Slot) (H : Heap) (locs : List Loc), decode cX7_readerMark pc = .ok (.ireturn, 1) → WS wM G r.2 A s.heap H locs → narrow .int (.int r.1) = .int r.1 → W p l e { frames := 3, cells := 0, slots := 0, locals := 67 } s m args below meth c H locs 0 0 Q (F0 m pc ls [.int r.1])) : ∀ (g : Mem) (x1 : Int32) (H : Heap) (locs : List Loc) (ls : Array Slot), WS wM G g A s.heap H locs → lv_has ls 2 [(0, .ref (G.1 0)), (1, .int x1)] → sX7_readerMark n g x1 = some r → W p l e { frames := 3, cells := 0, slots := 0, locals := 67 } s m args below meth c H locs 0 0 Q (F0 m 0 ls []) := by
  have hx := X.1
  have hb := X.2.1
  intro g x1 H locs ls Z hl hm
  unfold sX7_readerMark at hm
  refine lv_aload_n hx hb dX7_readerMark_0 rfl (lv_at hl 0 rfl) ?_
  refine lv_iload_n hx hb dX7_readerMark_1 rfl (lv_at hl 1 rfl) ?_
  obtain ⟨r3, e1, hm⟩ := sBi_some hm
  refine g_callSI (n := 1) (As := [.int x1]) (rest := [.ref (G.1 0)]) sameM X Z (cX7_isKey_c l e1) (gooS mB712 mB713 mB614 mB615) rfl (by decide +kernel) rfl ⟨Nat.le_of_ble_eq_true rfl, Nat.le_of_ble_eq_true rfl⟩ ⟨Nat.le_of_ble_eq_true rfl, Nat.le_of_ble_eq_true rfl⟩ hl.1 rfl (Nat.le_of_ble_eq_true rfl) dX7_readerMark_2 (fun w2 H locs Z => ?_)
  refine lv_if_eq (tgt := 12) hx hb dX7_readerMark_5 (by decide) (fun c4 => ?_) (fun c4 => ?_)
  · replace hm := (if_pos c4).symm.trans hm
    refine lv_iconst (v := 1) hx hb dX7_readerMark_12 (by decide) ?_
    obtain ⟨r7, g8, e5, hm⟩ := sBi2_some hm
    refine g_callVI (n := 1) (As := [.int 1]) (rest := []) sameM X Z (cX7_throwsAt_c l e5) oX7 rfl (gooV mB745 mB746 mB747 mB614 mB609) rfl (by decide +kernel) rfl ⟨Nat.le_of_ble_eq_true rfl, Nat.le_of_ble_eq_true rfl⟩ ⟨Nat.le_of_ble_eq_true rfl, Nat.le_of_ble_eq_true rfl⟩ hl.1 rfl (Nat.le_of_ble_eq_true rfl) dX7_readerMark_13 (fun w6 H locs Z => ?_)
    refine lv_if_eq (tgt := 23) hx hb dX7_readerMark_16 (by decide) (fun c9 => ?_) (fun c9 => ?_)
    · replace hm := (if_pos c9).symm.trans hm
      refine lv_aload_n hx hb dX7_readerMark_23 rfl (lv_at hl 0 rfl) ?_
      refine lv_iload_n hx hb dX7_readerMark_24 rfl (lv_at hl 1 rfl) ?_
      obtain ⟨r12, e10, hm⟩ := sBi_some hm
      refine g_callVI (n := 1) (As := [.int x1]) (rest := []) sameM X Z (cX7_mark_c l e10) oX7 rfl (gooV mB690 mB691 mB692 mB614 mB671) rfl (by decide +kernel) rfl ⟨Nat.le_of_ble_eq_true rfl, Nat.le_of_ble_eq_true rfl⟩ ⟨Nat.le_of_ble_eq_true rfl, Nat.le_of_ble_eq_true rfl⟩ hl.1 rfl (Nat.le_of_ble_eq_true rfl) dX7_readerMark_25 (fun w11 H locs Z => ?_)
      obtain rfl := Option.some.inj hm
      exact kI _ _ _ _ dX7_readerMark_28 Z (vp_nar_int _)
    · replace hm := (if_neg c9).symm.trans hm
      refine lv_iconst (v := 0) hx hb dX7_readerMark_19 (by decide) ?_
      refine lv_goto (tgt := 28) hx hb dX7_readerMark_20 (by decide) ?_
      obtain rfl := Option.some.inj hm
      exact kI _ _ _ _ dX7_readerMark_28 Z (vp_nar_int _)
  · replace hm := (if_neg c4).symm.trans hm
    refine lv_iconst (v := 0) hx hb dX7_readerMark_8 (by decide) ?_
    refine lv_goto (tgt := 13) hx hb dX7_readerMark_9 (by decide) ?_
    obtain ⟨r15, g16, e13, hm⟩ := sBi2_some hm
    refine g_callVI (n := 1) (As := [.int 0]) (rest := []) sameM X Z (cX7_throwsAt_c l e13) oX7 rfl (gooV mB745 mB746 mB747 mB614 mB609) rfl (by decide +kernel) rfl ⟨Nat.le_of_ble_eq_true rfl, Nat.le_of_ble_eq_true rfl⟩ ⟨Nat.le_of_ble_eq_true rfl, Nat.le_of_ble_eq_true rfl⟩ hl.1 rfl (Nat.le_of_ble_eq_true rfl) dX7_readerMark_13 (fun w14 H locs Z => ?_)
    refine lv_if_eq (tgt := 23) hx hb dX7_readerMark_16 (by decide) (fun c17 => ?_) (fun c17 => ?_)
    · replace hm := (if_pos c17).symm.trans hm
      refine lv_aload_n hx hb dX7_readerMark_23 rfl (lv_at hl 0 rfl) ?_
      refine lv_iload_n hx hb dX7_readerMark_24 rfl (lv_at hl 1 rfl) ?_
      obtain ⟨r20, e18, hm⟩ := sBi_some hm
      refine g_callVI (n := 1) (As := [.int x1]) (rest := []) sameM X Z (cX7_mark_c l e18) oX7 rfl (gooV mB690 mB691 mB692 mB614 mB671) rfl (by decide +kernel) rfl ⟨Nat.le_of_ble_eq_true rfl, Nat.le_of_ble_eq_true rfl⟩ ⟨Nat.le_of_ble_eq_true rfl, Nat.le_of_ble_eq_true rfl⟩ hl.1 rfl (Nat.le_of_ble_eq_true rfl) dX7_readerMark_25 (fun w19 H locs Z => ?_)
      obtain rfl := Option.some.inj hm
      exact kI _ _ _ _ dX7_readerMark_28 Z (vp_nar_int _)
    · replace hm := (if_neg c17).symm.trans hm
      refine lv_iconst (v := 0) hx hb dX7_readerMark_19 (by decide) ?_
      refine lv_goto (tgt := 28) hx hb dX7_readerMark_20 (by decide) ?_
      obtain rfl := Option.some.inj hm
      exact kI _ _ _ _ dX7_readerMark_28 Z (vp_nar_int _)
theorem cX7_readerMark_c (l : Launch) {G : LY} {g : Mem} {n : Nat} {x1 : Int32} {r : Int32 × Mem} (hm : sX7_readerMark n g x1 = some r) : cI l yX7_readerMark wmX7_readerMark 3 67 .int wM G [.ref (G.1 0), .int x1] g r.1 r.2 :=
  mk_cI sameM (by decide +kernel) rfl (Nat.le_of_ble_eq_true rfl) (fun p e s m args below meth c A Q ls X kI hl Z => bX7_readerMark_0 X kI g x1 _ _ ls Z hl hm)
abbrev wmX7_safeTime : List Cond := Cond.code yX7_safeTime cX7_safeTime 1 (some .int) :: wA0
set_option maxHeartbeats 4000000 in
set_option maxRecDepth 100000 in
theorem bX7_safeTime_0 (X : gC p s m args meth c cX7_safeTime 1 wmX7_safeTime yX7_safeTime.cls (some .int) G A) {n : Nat} {r : Int32 × Mem} (kI : ∀ (pc : Nat) (ls : Array Slot) (H : Heap) (locs : List Loc), decode cX7_safeTime pc = .ok (.ireturn, 1) → WS wM G r.2 A s.heap H locs → narrow .int (.int r.1) = .int r.1 → W p l e { frames := 6, cells := 0, slots := 0, locals := 135 } s m args below meth c H locs 0 0 Q (F0 m pc ls [.int r.1])) : ∀ (g : Mem) (H : Heap) (locs : List Loc) (ls : Array Slot), WS wM G g A s.heap H locs → lv_has ls 1 [(0, .ref (G.1 0))] → sX7_safeTime n g = some r → W p l e { frames := 6, cells := 0, slots := 0, locals := 135 } s m args below meth c H locs 0 0 Q (F0 m 0 ls []) := by
  have hx := X.1
  have hb := X.2.1
  intro g H locs ls Z hl hm
  unfold sX7_safeTime at hm
  refine lv_aload_n hx hb dX7_safeTime_0 rfl (lv_at hl 0 rfl) ?_
  refine lv_iconst (v := 0) hx hb dX7_safeTime_1 (by decide) ?_
  obtain ⟨g1, eg1, hm⟩ := sLet_some hm
  refine g_put (j := 7) eg1 X Z oX7 (iB7 _) rfl tyX7_ok nmX7 (by decide) rfl rfl (Nat.le_of_ble_eq_true rfl) (p7_7 G g (0 : Int32)) rfl (List.mem_cons_of_mem _ mB608) dX7_safeTime_2 (fun H locs Z => ?_)
  refine lv_aload_n hx hb dX7_safeTime_5 rfl (lv_at hl 0 rfl) ?_
  obtain ⟨r4, e2, hm⟩ := sBi_some hm
  refine g_callVI (n := 0) (As := []) (rest := []) sameM X Z (cX7_safeNow_c l e2) oX7 rfl (gooV mB798 mB799 mB800 mB614 mB797) rfl (by decide +kernel) rfl ⟨Nat.le_of_ble_eq_true rfl, Nat.le_of_ble_eq_true rfl⟩ ⟨Nat.le_of_ble_eq_true rfl, Nat.le_of_ble_eq_true rfl⟩ hl.1 rfl (Nat.le_of_ble_eq_true rfl) dX7_safeTime_6 (fun w3 H locs Z => ?_)
  obtain rfl := Option.some.inj hm
  exact kI _ _ _ _ dX7_safeTime_9 Z (vp_nar_int _)
theorem cX7_safeTime_c (l : Launch) {G : LY} {g : Mem} {n : Nat} {r : Int32 × Mem} (hm : sX7_safeTime n g = some r) : cI l yX7_safeTime wmX7_safeTime 6 135 .int wM G [.ref (G.1 0)] g r.1 r.2 :=
  mk_cI sameM (by decide +kernel) rfl (Nat.le_of_ble_eq_true rfl) (fun p e s m args below meth c A Q ls X kI hl Z => bX7_safeTime_0 X kI g  _ _ ls Z hl hm)
abbrev wmX7_readFloor : List Cond := Cond.code yX7_readFloor cX7_readFloor 1 (some .int) :: wA0
set_option maxHeartbeats 4000000 in
set_option maxRecDepth 100000 in
theorem bX7_readFloor_0 (X : gC p s m args meth c cX7_readFloor 1 wmX7_readFloor yX7_readFloor.cls (some .int) G A) {r : Int32 × Mem} (kI : ∀ (pc : Nat) (ls : Array Slot) (H : Heap) (locs : List Loc), decode cX7_readFloor pc = .ok (.ireturn, 1) → WS wM G r.2 A s.heap H locs → narrow .int (.int r.1) = .int r.1 → W p l e { frames := 0, cells := 0, slots := 0, locals := 0 } s m args below meth c H locs 0 0 Q (F0 m pc ls [.int r.1])) : ∀ (g : Mem) (H : Heap) (locs : List Loc) (ls : Array Slot), WS wM G g A s.heap H locs → lv_has ls 1 [(0, .ref (G.1 0))] → sX7_readFloor g = some r → W p l e { frames := 0, cells := 0, slots := 0, locals := 0 } s m args below meth c H locs 0 0 Q (F0 m 0 ls []) := by
  have hx := X.1
  have hb := X.2.1
  intro g H locs ls Z hl hm
  unfold sX7_readFloor at hm
  refine lv_aload_n hx hb dX7_readFloor_0 rfl (lv_at hl 0 rfl) ?_
  refine lv_iconst (v := 0) hx hb dX7_readFloor_1 (by decide) ?_
  obtain ⟨g1, eg1, hm⟩ := sLet_some hm
  refine g_put (j := 7) eg1 X Z oX7 (iB7 _) rfl tyX7_ok nmX7 (by decide) rfl rfl (Nat.le_of_ble_eq_true rfl) (p7_7 G g (0 : Int32)) rfl (List.mem_cons_of_mem _ mB608) dX7_readFloor_2 (fun H locs Z => ?_)
  refine lv_aload_n hx hb dX7_readFloor_5 rfl (lv_at hl 0 rfl) ?_
  refine g_get (j := 0) (v := .ref (G.1 1)) X Z oX7 (iB7 _) rfl (by decide) rfl (List.mem_cons_of_mem _ mB602) rfl dX7_readFloor_6 ?_
  refine lv_iconst (v := 1) hx hb dX7_readFloor_9 (by decide) ?_
  obtain ⟨b2, hm⟩ := sIdx_some hm
  refine g_iald X Z aM1 b2 dX7_readFloor_10 ?_
  obtain rfl := Option.some.inj hm
  exact kI _ _ _ _ dX7_readFloor_11 Z (vp_nar_int _)
theorem cX7_readFloor_c (l : Launch) {G : LY} {g : Mem} {r : Int32 × Mem} (hm : sX7_readFloor g = some r) : cI l yX7_readFloor wmX7_readFloor 0 0 .int wM G [.ref (G.1 0)] g r.1 r.2 :=
  mk_cI sameM (by decide +kernel) rfl (Nat.le_of_ble_eq_true rfl) (fun p e s m args below meth c A Q ls X kI hl Z => bX7_readFloor_0 X kI g  _ _ ls Z hl hm)
abbrev wmX7_ticksOfServers : List Cond := Cond.code yX7_ticksOfServers cX7_ticksOfServers 4 (some .int) :: wA0
set_option maxHeartbeats 4000000 in
set_option maxRecDepth 100000 in
theorem bX7_ticksOfServers_2 (X : gC p s m args meth c cX7_ticksOfServers 4 wmX7_ticksOfServers yX7_ticksOfServers.cls (some .int) G A) {n : Nat} {g : Mem} {r : Int32} (kI : ∀ (pc : Nat) (ls : Array Slot) (H : Heap) (locs : List Loc), decode cX7_ticksOfServers pc = .ok (.ireturn, 1) → WS wM G g A s.heap H locs → narrow .int (.int r) = .int r → W p l e { frames := 5, cells := 0, slots := 0, locals := 113 } s m args below meth c H locs 0 0 Q (F0 m pc ls [.int r])) : ∀ (f : Nat), ∀ (x1 : Int32) (x3 : Int32) (H : Heap) (locs : List Loc) (ls : Array Slot), WS wM G g A s.heap H locs → lv_has ls 4 [(0, .ref (G.1 0)), (1, .int x1), (3, .int x3)] → sX7_ticksOfServers_2 n g f x1 x3 = some r → W p l e { frames := 5, cells := 0, slots := 0, locals := 113 } s m args below meth c H locs 0 0 Q (F0 m 2 ls []) := by
  have hx := X.1
  have hb := X.2.1
  intro f
  induction f with
  | zero =>
    intro x1 x3 H locs ls Z hl hm
    cases hm
  | succ f ih =>
    intro x1 x3 H locs ls Z hl hm
    unfold sX7_ticksOfServers_2 at hm
    refine lv_iload_n hx hb dX7_ticksOfServers_2 rfl (lv_at hl 2 rfl) ?_
    refine lv_sipush (v := 10000) hx hb dX7_ticksOfServers_3 (by decide) ?_
    refine lv_icmp_gt (tgt := 33) hx hb dX7_ticksOfServers_6 (by decide) (fun c1 => ?_) (fun c1 => ?_)
    · replace hm := (if_pos c1).symm.trans hm
      refine lv_iconst (v := (-1)) hx hb dX7_ticksOfServers_33 (by decide) ?_
      obtain rfl := Option.some.inj hm
      exact kI _ _ _ _ dX7_ticksOfServers_34 Z (vp_nar_int _)
    · replace hm := (if_neg c1).symm.trans hm
      refine lv_iload_n hx hb dX7_ticksOfServers_9 rfl (lv_at hl 1 rfl) ?_
      refine lv_aload_n hx hb dX7_ticksOfServers_10 rfl (lv_at hl 0 rfl) ?_
      refine lv_aload_n hx hb dX7_ticksOfServers_11 rfl (lv_at hl 0 rfl) ?_
      refine g_get (j := 0) (v := .ref (G.1 1)) X Z oX7 (iB7 _) rfl (by decide) rfl (List.mem_cons_of_mem _ mB602) rfl dX7_ticksOfServers_12 ?_
      refine lv_iconst (v := 0) hx hb dX7_ticksOfServers_15 (by decide) ?_
      obtain ⟨b2, hm⟩ := sIdx_some hm
      refine g_iald X Z aM1 b2 dX7_ticksOfServers_16 ?_
      refine lv_iload_n hx hb dX7_ticksOfServers_17 rfl (lv_at hl 2 rfl) ?_
      refine lv_iadd hx hb dX7_ticksOfServers_18 ?_
      obtain ⟨r5, e3, hm⟩ := sBi_some hm
      refine g_callVI (n := 1) (As := [.int ((g 1 (0 : Int32).toNatClampNeg) + x3)]) (rest := [.int x1]) sameM X Z (cX7_safe_c l e3) oX7 rfl (gooV mB794 mB795 mB796 mB614 mB793) rfl (by decide +kernel) rfl ⟨Nat.le_of_ble_eq_true rfl, Nat.le_of_ble_eq_true rfl⟩ ⟨Nat.le_of_ble_eq_true rfl, Nat.le_of_ble_eq_true rfl⟩ hl.1 rfl (Nat.le_of_ble_eq_true rfl) dX7_ticksOfServers_19 (fun w4 H locs Z => ?_)
      refine lv_icmp_gt (tgt := 27) hx hb dX7_ticksOfServers_22 (by decide) (fun c6 => ?_) (fun c6 => ?_)
      · replace hm := (if_pos c6).symm.trans hm
        refine lv_iinc (v := (x3 + (1 : Int32))) (lv' := [(3, .int (x3 + (1 : Int32))), (0, .ref (G.1 0)), (1, .int x1)]) hx hb dX7_ticksOfServers_27 hl (k := 2) rfl rfl (by decide) rfl (fun ls hl => ?_)
        refine lv_goto (tgt := 2) hx hb dX7_ticksOfServers_30 (by decide) ?_
        exact ih x1 (x3 + (1 : Int32)) _ _ _ Z (lv_sub hl [1, 2, 0] rfl) hm
      · replace hm := (if_neg c6).symm.trans hm
        refine lv_iload_n hx hb dX7_ticksOfServers_25 rfl (lv_at hl 2 rfl) ?_
        obtain rfl := Option.some.inj hm
        exact kI _ _ _ _ dX7_ticksOfServers_26 Z (vp_nar_int _)
set_option maxHeartbeats 4000000 in
set_option maxRecDepth 100000 in
theorem bX7_ticksOfServers_0 (X : gC p s m args meth c cX7_ticksOfServers 4 wmX7_ticksOfServers yX7_ticksOfServers.cls (some .int) G A) {n : Nat} {g : Mem} {r : Int32} (kI : ∀ (pc : Nat) (ls : Array Slot) (H : Heap) (locs : List Loc), decode cX7_ticksOfServers pc = .ok (.ireturn, 1) → WS wM G g A s.heap H locs → narrow .int (.int r) = .int r → W p l e { frames := 5, cells := 0, slots := 0, locals := 113 } s m args below meth c H locs 0 0 Q (F0 m pc ls [.int r])) : ∀ (x1 : Int32) (x2 : Int32) (H : Heap) (locs : List Loc) (ls : Array Slot), WS wM G g A s.heap H locs → lv_has ls 4 [(0, .ref (G.1 0)), (1, .int x1), (2, .int x2)] → sX7_ticksOfServers n g x1 x2 = some r → W p l e { frames := 5, cells := 0, slots := 0, locals := 113 } s m args below meth c H locs 0 0 Q (F0 m 0 ls []) := by
  have hx := X.1
  have hb := X.2.1
  intro x1 x2 H locs ls Z hl hm
  unfold sX7_ticksOfServers at hm
  refine lv_iload_n hx hb dX7_ticksOfServers_0 rfl (lv_at hl 2 rfl) ?_
  refine lv_istore_n (lv' := [(3, .int x2), (0, .ref (G.1 0)), (1, .int x1), (2, .int x2)]) hx hb dX7_ticksOfServers_1 rfl hl (by decide) rfl (fun ls hl => ?_)
  exact bX7_ticksOfServers_2 X kI n x1 x2 _ _ _ Z (lv_sub hl [1, 2, 0] rfl) hm
theorem cX7_ticksOfServers_c (l : Launch) {G : LY} {g : Mem} {n : Nat} {x1 : Int32} {x2 : Int32} {r : Int32} (hm : sX7_ticksOfServers n g x1 x2 = some r) : cI l yX7_ticksOfServers wmX7_ticksOfServers 5 113 .int wM G [.ref (G.1 0), .int x1, .int x2] g r g :=
  mk_cI sameM (by decide +kernel) rfl (Nat.le_of_ble_eq_true rfl) (fun p e s m args below meth c A Q ls X kI hl Z => bX7_ticksOfServers_0 X kI x1 x2 _ _ ls Z hl hm)
abbrev wmX7_ticksOfWaiting : List Cond := Cond.code yX7_ticksOfWaiting cX7_ticksOfWaiting 5 (some .int) :: wA0
set_option maxHeartbeats 4000000 in
set_option maxRecDepth 100000 in
theorem bX7_ticksOfWaiting_39 (X : gC p s m args meth c cX7_ticksOfWaiting 5 wmX7_ticksOfWaiting yX7_ticksOfWaiting.cls (some .int) G A) {n : Nat} {g : Mem} {r : Int32} (kI : ∀ (pc : Nat) (ls : Array Slot) (H : Heap) (locs : List Loc), decode cX7_ticksOfWaiting pc = .ok (.ireturn, 1) → WS wM G g A s.heap H locs → narrow .int (.int r) = .int r → W p l e { frames := 3, cells := 0, slots := 0, locals := 66 } s m args below meth c H locs 0 0 Q (F0 m pc ls [.int r])) {rec4 : Int32 → Int32 → Int32 → Option (Int32)} (h4 : ∀ (x1 : Int32) (x2 : Int32) (x3 : Int32) (H : Heap) (locs : List Loc) (ls : Array Slot), WS wM G g A s.heap H locs → lv_has ls 5 [(0, .ref (G.1 0)), (1, .int x1), (2, .int x2), (3, .int x3)] → rec4 x1 x2 x3 = some r → W p l e { frames := 3, cells := 0, slots := 0, locals := 66 } s m args below meth c H locs 0 0 Q (F0 m 4 ls [])) : ∀ (f : Nat), ∀ (x1 : Int32) (x2 : Int32) (x3 : Int32) (x4 : Int32) (H : Heap) (locs : List Loc) (ls : Array Slot), WS wM G g A s.heap H locs → lv_has ls 5 [(0, .ref (G.1 0)), (1, .int x1), (2, .int x2), (3, .int x3), (4, .int x4)] → sX7_ticksOfWaiting_39 n g rec4 f x1 x2 x3 x4 = some r → W p l e { frames := 3, cells := 0, slots := 0, locals := 66 } s m args below meth c H locs 0 0 Q (F0 m 39 ls []) := by
  have hx := X.1
  have hb := X.2.1
  intro f
  induction f with
  | zero =>
    intro x1 x2 x3 x4 H locs ls Z hl hm
    cases hm
  | succ f ih =>
    intro x1 x2 x3 x4 H locs ls Z hl hm
    unfold sX7_ticksOfWaiting_39 at hm
    refine lv_iload hx hb dX7_ticksOfWaiting_39 (lv_at hl 4 rfl) ?_
    refine lv_sipush (v := 10000) hx hb dX7_ticksOfWaiting_41 (by decide) ?_
    refine lv_icmp_gt (tgt := 81) hx hb dX7_ticksOfWaiting_44 (by decide) (fun c1 => ?_) (fun c1 => ?_)
    · replace hm := (if_pos c1).symm.trans hm
      refine lv_iload_n hx hb dX7_ticksOfWaiting_81 rfl (lv_at hl 2 rfl) ?_
      refine lv_iload hx hb dX7_ticksOfWaiting_82 (lv_at hl 4 rfl) ?_
      obtain ⟨r4, e2, hm⟩ := sBi_some hm
      refine g_callSI (n := 2) (As := [.int x2, .int x4]) (rest := []) sameM X Z (cX7_greater_c l e2) (gooS mB675 mB676 mB614 mB617) rfl (by decide +kernel) rfl ⟨Nat.le_of_ble_eq_true rfl, Nat.le_of_ble_eq_true rfl⟩ ⟨Nat.le_of_ble_eq_true rfl, Nat.le_of_ble_eq_true rfl⟩ hl.1 rfl (Nat.le_of_ble_eq_true rfl) dX7_ticksOfWaiting_84 (fun w3 H locs Z => ?_)
      refine lv_istore_n (lv' := [(2, .int r4), (0, .ref (G.1 0)), (1, .int x1), (3, .int x3), (4, .int x4)]) hx hb dX7_ticksOfWaiting_87 rfl hl (by decide) rfl (fun ls hl => ?_)
      refine lv_iinc (v := (x3 + (1 : Int32))) (lv' := [(3, .int (x3 + (1 : Int32))), (2, .int r4), (0, .ref (G.1 0)), (1, .int x1), (4, .int x4)]) hx hb dX7_ticksOfWaiting_88 hl (k := 3) rfl rfl (by decide) rfl (fun ls hl => ?_)
      refine lv_goto (tgt := 4) hx hb dX7_ticksOfWaiting_91 (by decide) ?_
      exact h4 x1 r4 (x3 + (1 : Int32)) _ _ _ Z (lv_sub hl [2, 3, 1, 0] rfl) hm
    · replace hm := (if_neg c1).symm.trans hm
      refine lv_aload_n hx hb dX7_ticksOfWaiting_47 rfl (lv_at hl 0 rfl) ?_
      refine lv_iload_n hx hb dX7_ticksOfWaiting_48 rfl (lv_at hl 3 rfl) ?_
      refine lv_iconst (v := 2) hx hb dX7_ticksOfWaiting_49 (by decide) ?_
      obtain ⟨r7, e5, hm⟩ := sBi_some hm
      refine g_callVI (n := 2) (As := [.int x3, .int 2]) (rest := []) sameM X Z (cX7_of_c l e5) oX7 rfl (gooV mB652 mB653 mB654 mB614 mB649) rfl (by decide +kernel) rfl ⟨Nat.le_of_ble_eq_true rfl, Nat.le_of_ble_eq_true rfl⟩ ⟨Nat.le_of_ble_eq_true rfl, Nat.le_of_ble_eq_true rfl⟩ hl.1 rfl (Nat.le_of_ble_eq_true rfl) dX7_ticksOfWaiting_50 (fun w6 H locs Z => ?_)
      refine lv_aload_n hx hb dX7_ticksOfWaiting_53 rfl (lv_at hl 0 rfl) ?_
      refine lv_aload_n hx hb dX7_ticksOfWaiting_54 rfl (lv_at hl 0 rfl) ?_
      refine lv_iload_n hx hb dX7_ticksOfWaiting_55 rfl (lv_at hl 3 rfl) ?_
      refine lv_iconst (v := 0) hx hb dX7_ticksOfWaiting_56 (by decide) ?_
      obtain ⟨r10, e8, hm⟩ := sBi_some hm
      refine g_callVI (n := 2) (As := [.int x3, .int 0]) (rest := [.ref (G.1 0), .int r7]) sameM X Z (cX7_of_c l e8) oX7 rfl (gooV mB652 mB653 mB654 mB614 mB649) rfl (by decide +kernel) rfl ⟨Nat.le_of_ble_eq_true rfl, Nat.le_of_ble_eq_true rfl⟩ ⟨Nat.le_of_ble_eq_true rfl, Nat.le_of_ble_eq_true rfl⟩ hl.1 rfl (Nat.le_of_ble_eq_true rfl) dX7_ticksOfWaiting_57 (fun w9 H locs Z => ?_)
      refine lv_aload_n hx hb dX7_ticksOfWaiting_60 rfl (lv_at hl 0 rfl) ?_
      refine g_get (j := 0) (v := .ref (G.1 1)) X Z oX7 (iB7 _) rfl (by decide) rfl (List.mem_cons_of_mem _ mB602) rfl dX7_ticksOfWaiting_61 ?_
      refine lv_iconst (v := 0) hx hb dX7_ticksOfWaiting_64 (by decide) ?_
      obtain ⟨b11, hm⟩ := sIdx_some hm
      refine g_iald X Z aM1 b11 dX7_ticksOfWaiting_65 ?_
      refine lv_iload hx hb dX7_ticksOfWaiting_66 (lv_at hl 4 rfl) ?_
      refine lv_iadd hx hb dX7_ticksOfWaiting_68 ?_
      obtain ⟨r14, e12, hm⟩ := sBi_some hm
      refine g_callVI (n := 2) (As := [.int r10, .int ((g 1 (0 : Int32).toNatClampNeg) + x4)]) (rest := [.int r7]) sameM X Z (cX7_earliestAt_c l e12) oX7 rfl (gooV mB638 mB639 mB640 mB614 mB630) rfl (by decide +kernel) rfl ⟨Nat.le_of_ble_eq_true rfl, Nat.le_of_ble_eq_true rfl⟩ ⟨Nat.le_of_ble_eq_true rfl, Nat.le_of_ble_eq_true rfl⟩ hl.1 rfl (Nat.le_of_ble_eq_true rfl) dX7_ticksOfWaiting_69 (fun w13 H locs Z => ?_)
      refine lv_icmp_lt (tgt := 81) hx hb dX7_ticksOfWaiting_72 (by decide) (fun c15 => ?_) (fun c15 => ?_)
      · replace hm := (if_pos c15).symm.trans hm
        refine lv_iload_n hx hb dX7_ticksOfWaiting_81 rfl (lv_at hl 2 rfl) ?_
        refine lv_iload hx hb dX7_ticksOfWaiting_82 (lv_at hl 4 rfl) ?_
        obtain ⟨r18, e16, hm⟩ := sBi_some hm
        refine g_callSI (n := 2) (As := [.int x2, .int x4]) (rest := []) sameM X Z (cX7_greater_c l e16) (gooS mB675 mB676 mB614 mB617) rfl (by decide +kernel) rfl ⟨Nat.le_of_ble_eq_true rfl, Nat.le_of_ble_eq_true rfl⟩ ⟨Nat.le_of_ble_eq_true rfl, Nat.le_of_ble_eq_true rfl⟩ hl.1 rfl (Nat.le_of_ble_eq_true rfl) dX7_ticksOfWaiting_84 (fun w17 H locs Z => ?_)
        refine lv_istore_n (lv' := [(2, .int r18), (0, .ref (G.1 0)), (1, .int x1), (3, .int x3), (4, .int x4)]) hx hb dX7_ticksOfWaiting_87 rfl hl (by decide) rfl (fun ls hl => ?_)
        refine lv_iinc (v := (x3 + (1 : Int32))) (lv' := [(3, .int (x3 + (1 : Int32))), (2, .int r18), (0, .ref (G.1 0)), (1, .int x1), (4, .int x4)]) hx hb dX7_ticksOfWaiting_88 hl (k := 3) rfl rfl (by decide) rfl (fun ls hl => ?_)
        refine lv_goto (tgt := 4) hx hb dX7_ticksOfWaiting_91 (by decide) ?_
        exact h4 x1 r18 (x3 + (1 : Int32)) _ _ _ Z (lv_sub hl [2, 3, 1, 0] rfl) hm
      · replace hm := (if_neg c15).symm.trans hm
        refine lv_iinc (v := (x4 + (1 : Int32))) (lv' := [(4, .int (x4 + (1 : Int32))), (0, .ref (G.1 0)), (1, .int x1), (2, .int x2), (3, .int x3)]) hx hb dX7_ticksOfWaiting_75 hl (k := 4) rfl rfl (by decide) rfl (fun ls hl => ?_)
        refine lv_goto (tgt := 39) hx hb dX7_ticksOfWaiting_78 (by decide) ?_
        exact ih x1 x2 x3 (x4 + (1 : Int32)) _ _ _ Z (lv_sub hl [1, 2, 3, 4, 0] rfl) hm
set_option maxHeartbeats 4000000 in
set_option maxRecDepth 100000 in
theorem bX7_ticksOfWaiting_4 (X : gC p s m args meth c cX7_ticksOfWaiting 5 wmX7_ticksOfWaiting yX7_ticksOfWaiting.cls (some .int) G A) {n : Nat} {g : Mem} {r : Int32} (kI : ∀ (pc : Nat) (ls : Array Slot) (H : Heap) (locs : List Loc), decode cX7_ticksOfWaiting pc = .ok (.ireturn, 1) → WS wM G g A s.heap H locs → narrow .int (.int r) = .int r → W p l e { frames := 3, cells := 0, slots := 0, locals := 66 } s m args below meth c H locs 0 0 Q (F0 m pc ls [.int r])) : ∀ (f : Nat), ∀ (x1 : Int32) (x2 : Int32) (x3 : Int32) (H : Heap) (locs : List Loc) (ls : Array Slot), WS wM G g A s.heap H locs → lv_has ls 5 [(0, .ref (G.1 0)), (1, .int x1), (2, .int x2), (3, .int x3)] → sX7_ticksOfWaiting_4 n g f x1 x2 x3 = some r → W p l e { frames := 3, cells := 0, slots := 0, locals := 66 } s m args below meth c H locs 0 0 Q (F0 m 4 ls []) := by
  have hx := X.1
  have hb := X.2.1
  intro f
  induction f with
  | zero =>
    intro x1 x2 x3 H locs ls Z hl hm
    cases hm
  | succ f ih =>
    intro x1 x2 x3 H locs ls Z hl hm
    unfold sX7_ticksOfWaiting_4 at hm
    refine lv_iload_n hx hb dX7_ticksOfWaiting_4 rfl (lv_at hl 3 rfl) ?_
    refine lv_aload_n hx hb dX7_ticksOfWaiting_5 rfl (lv_at hl 0 rfl) ?_
    refine g_get (j := 0) (v := .ref (G.1 1)) X Z oX7 (iB7 _) rfl (by decide) rfl (List.mem_cons_of_mem _ mB602) rfl dX7_ticksOfWaiting_6 ?_
    refine lv_iconst (v := 3) hx hb dX7_ticksOfWaiting_9 (by decide) ?_
    obtain ⟨b1, hm⟩ := sIdx_some hm
    refine g_iald X Z aM1 b1 dX7_ticksOfWaiting_10 ?_
    refine lv_icmp_ge (tgt := 94) hx hb dX7_ticksOfWaiting_11 (by decide) (fun c2 => ?_) (fun c2 => ?_)
    · replace hm := (if_pos c2).symm.trans hm
      refine lv_iload_n hx hb dX7_ticksOfWaiting_94 rfl (lv_at hl 2 rfl) ?_
      refine lv_sipush (v := 10000) hx hb dX7_ticksOfWaiting_95 (by decide) ?_
      refine lv_icmp_le (tgt := 105) hx hb dX7_ticksOfWaiting_98 (by decide) (fun c3 => ?_) (fun c3 => ?_)
      · replace hm := (if_pos c3).symm.trans hm
        refine lv_iload_n hx hb dX7_ticksOfWaiting_105 rfl (lv_at hl 2 rfl) ?_
        obtain rfl := Option.some.inj hm
        exact kI _ _ _ _ dX7_ticksOfWaiting_106 Z (vp_nar_int _)
      · replace hm := (if_neg c3).symm.trans hm
        refine lv_iconst (v := (-1)) hx hb dX7_ticksOfWaiting_101 (by decide) ?_
        refine lv_goto (tgt := 106) hx hb dX7_ticksOfWaiting_102 (by decide) ?_
        obtain rfl := Option.some.inj hm
        exact kI _ _ _ _ dX7_ticksOfWaiting_106 Z (vp_nar_int _)
    · replace hm := (if_neg c2).symm.trans hm
      refine lv_aload_n hx hb dX7_ticksOfWaiting_14 rfl (lv_at hl 0 rfl) ?_
      refine lv_iload_n hx hb dX7_ticksOfWaiting_15 rfl (lv_at hl 3 rfl) ?_
      refine lv_iconst (v := 1) hx hb dX7_ticksOfWaiting_16 (by decide) ?_
      obtain ⟨r6, e4, hm⟩ := sBi_some hm
      refine g_callVI (n := 2) (As := [.int x3, .int 1]) (rest := []) sameM X Z (cX7_of_c l e4) oX7 rfl (gooV mB652 mB653 mB654 mB614 mB649) rfl (by decide +kernel) rfl ⟨Nat.le_of_ble_eq_true rfl, Nat.le_of_ble_eq_true rfl⟩ ⟨Nat.le_of_ble_eq_true rfl, Nat.le_of_ble_eq_true rfl⟩ hl.1 rfl (Nat.le_of_ble_eq_true rfl) dX7_ticksOfWaiting_17 (fun w5 H locs Z => ?_)
      refine lv_iconst (v := 1) hx hb dX7_ticksOfWaiting_20 (by decide) ?_
      refine lv_icmp_ne (tgt := 88) hx hb dX7_ticksOfWaiting_21 (by decide) (fun c7 => ?_) (fun c7 => ?_)
      · replace hm := (if_neg c7).symm.trans hm
        refine lv_iinc (v := (x3 + (1 : Int32))) (lv' := [(3, .int (x3 + (1 : Int32))), (0, .ref (G.1 0)), (1, .int x1), (2, .int x2)]) hx hb dX7_ticksOfWaiting_88 hl (k := 3) rfl rfl (by decide) rfl (fun ls hl => ?_)
        refine lv_goto (tgt := 4) hx hb dX7_ticksOfWaiting_91 (by decide) ?_
        exact ih x1 x2 (x3 + (1 : Int32)) _ _ _ Z (lv_sub hl [1, 2, 3, 0] rfl) hm
      · replace hm := (if_pos c7).symm.trans hm
        refine lv_aload_n hx hb dX7_ticksOfWaiting_24 rfl (lv_at hl 0 rfl) ?_
        refine lv_iload_n hx hb dX7_ticksOfWaiting_25 rfl (lv_at hl 3 rfl) ?_
        refine lv_iconst (v := 2) hx hb dX7_ticksOfWaiting_26 (by decide) ?_
        obtain ⟨r10, e8, hm⟩ := sBi_some hm
        refine g_callVI (n := 2) (As := [.int x3, .int 2]) (rest := []) sameM X Z (cX7_of_c l e8) oX7 rfl (gooV mB652 mB653 mB654 mB614 mB649) rfl (by decide +kernel) rfl ⟨Nat.le_of_ble_eq_true rfl, Nat.le_of_ble_eq_true rfl⟩ ⟨Nat.le_of_ble_eq_true rfl, Nat.le_of_ble_eq_true rfl⟩ hl.1 rfl (Nat.le_of_ble_eq_true rfl) dX7_ticksOfWaiting_27 (fun w9 H locs Z => ?_)
        refine lv_iconst (v := 1) hx hb dX7_ticksOfWaiting_30 (by decide) ?_
        refine lv_isub hx hb dX7_ticksOfWaiting_31 ?_
        refine lv_iload_n hx hb dX7_ticksOfWaiting_32 rfl (lv_at hl 1 rfl) ?_
        refine lv_icmp_ge (tgt := 88) hx hb dX7_ticksOfWaiting_33 (by decide) (fun c11 => ?_) (fun c11 => ?_)
        · replace hm := (if_pos c11).symm.trans hm
          refine lv_iinc (v := (x3 + (1 : Int32))) (lv' := [(3, .int (x3 + (1 : Int32))), (0, .ref (G.1 0)), (1, .int x1), (2, .int x2)]) hx hb dX7_ticksOfWaiting_88 hl (k := 3) rfl rfl (by decide) rfl (fun ls hl => ?_)
          refine lv_goto (tgt := 4) hx hb dX7_ticksOfWaiting_91 (by decide) ?_
          exact ih x1 x2 (x3 + (1 : Int32)) _ _ _ Z (lv_sub hl [1, 2, 3, 0] rfl) hm
        · replace hm := (if_neg c11).symm.trans hm
          refine lv_iconst (v := 1) hx hb dX7_ticksOfWaiting_36 (by decide) ?_
          refine lv_istore (lv' := [(4, .int 1), (0, .ref (G.1 0)), (1, .int x1), (2, .int x2), (3, .int x3)]) hx hb dX7_ticksOfWaiting_37 hl (by decide) rfl (fun ls hl => ?_)
          exact bX7_ticksOfWaiting_39 X kI ih n x1 x2 x3 (1 : Int32) _ _ _ Z (lv_sub hl [1, 2, 3, 4, 0] rfl) hm
set_option maxHeartbeats 4000000 in
set_option maxRecDepth 100000 in
theorem bX7_ticksOfWaiting_0 (X : gC p s m args meth c cX7_ticksOfWaiting 5 wmX7_ticksOfWaiting yX7_ticksOfWaiting.cls (some .int) G A) {n : Nat} {g : Mem} {r : Int32} (kI : ∀ (pc : Nat) (ls : Array Slot) (H : Heap) (locs : List Loc), decode cX7_ticksOfWaiting pc = .ok (.ireturn, 1) → WS wM G g A s.heap H locs → narrow .int (.int r) = .int r → W p l e { frames := 3, cells := 0, slots := 0, locals := 66 } s m args below meth c H locs 0 0 Q (F0 m pc ls [.int r])) : ∀ (x1 : Int32) (H : Heap) (locs : List Loc) (ls : Array Slot), WS wM G g A s.heap H locs → lv_has ls 5 [(0, .ref (G.1 0)), (1, .int x1)] → sX7_ticksOfWaiting n g x1 = some r → W p l e { frames := 3, cells := 0, slots := 0, locals := 66 } s m args below meth c H locs 0 0 Q (F0 m 0 ls []) := by
  have hx := X.1
  have hb := X.2.1
  intro x1 H locs ls Z hl hm
  unfold sX7_ticksOfWaiting at hm
  refine lv_iconst (v := 0) hx hb dX7_ticksOfWaiting_0 (by decide) ?_
  refine lv_istore_n (lv' := [(2, .int 0), (0, .ref (G.1 0)), (1, .int x1)]) hx hb dX7_ticksOfWaiting_1 rfl hl (by decide) rfl (fun ls hl => ?_)
  refine lv_iconst (v := 0) hx hb dX7_ticksOfWaiting_2 (by decide) ?_
  refine lv_istore_n (lv' := [(3, .int 0), (2, .int 0), (0, .ref (G.1 0)), (1, .int x1)]) hx hb dX7_ticksOfWaiting_3 rfl hl (by decide) rfl (fun ls hl => ?_)
  exact bX7_ticksOfWaiting_4 X kI n x1 (0 : Int32) (0 : Int32) _ _ _ Z (lv_sub hl [2, 3, 1, 0] rfl) hm
theorem cX7_ticksOfWaiting_c (l : Launch) {G : LY} {g : Mem} {n : Nat} {x1 : Int32} {r : Int32} (hm : sX7_ticksOfWaiting n g x1 = some r) : cI l yX7_ticksOfWaiting wmX7_ticksOfWaiting 3 66 .int wM G [.ref (G.1 0), .int x1] g r g :=
  mk_cI sameM (by decide +kernel) rfl (Nat.le_of_ble_eq_true rfl) (fun p e s m args below meth c A Q ls X kI hl Z => bX7_ticksOfWaiting_0 X kI x1 _ _ ls Z hl hm)
abbrev wmX7_ticksUntilSafe : List Cond := Cond.code yX7_ticksUntilSafe cX7_ticksUntilSafe 3 (some .int) :: wA0
set_option maxHeartbeats 4000000 in
set_option maxRecDepth 100000 in
theorem bX7_ticksUntilSafe_0 (X : gC p s m args meth c cX7_ticksUntilSafe 3 wmX7_ticksUntilSafe yX7_ticksUntilSafe.cls (some .int) G A) {n : Nat} {r : Int32 × Mem} (kI : ∀ (pc : Nat) (ls : Array Slot) (H : Heap) (locs : List Loc), decode cX7_ticksUntilSafe pc = .ok (.ireturn, 1) → WS wM G r.2 A s.heap H locs → narrow .int (.int r.1) = .int r.1 → W p l e { frames := 6, cells := 0, slots := 0, locals := 136 } s m args below meth c H locs 0 0 Q (F0 m pc ls [.int r.1])) : ∀ (g : Mem) (x1 : Int32) (H : Heap) (locs : List Loc) (ls : Array Slot), WS wM G g A s.heap H locs → lv_has ls 3 [(0, .ref (G.1 0)), (1, .int x1)] → sX7_ticksUntilSafe n g x1 = some r → W p l e { frames := 6, cells := 0, slots := 0, locals := 136 } s m args below meth c H locs 0 0 Q (F0 m 0 ls []) := by
  have hx := X.1
  have hb := X.2.1
  intro g x1 H locs ls Z hl hm
  unfold sX7_ticksUntilSafe at hm
  refine lv_aload_n hx hb dX7_ticksUntilSafe_0 rfl (lv_at hl 0 rfl) ?_
  refine lv_iload_n hx hb dX7_ticksUntilSafe_1 rfl (lv_at hl 1 rfl) ?_
  refine lv_if_ge (tgt := 9) hx hb dX7_ticksUntilSafe_2 (by decide) (fun c1 => ?_) (fun c1 => ?_)
  · replace hm := (if_pos c1).symm.trans hm
    refine lv_iconst (v := 0) hx hb dX7_ticksUntilSafe_9 (by decide) ?_
    obtain ⟨r4, g5, e2, hm⟩ := sBi2_some hm
    refine g_callVI (n := 1) (As := [.int 0]) (rest := []) sameM X Z (cX7_throwsAt_c l e2) oX7 rfl (gooV mB745 mB746 mB747 mB614 mB609) rfl (by decide +kernel) rfl ⟨Nat.le_of_ble_eq_true rfl, Nat.le_of_ble_eq_true rfl⟩ ⟨Nat.le_of_ble_eq_true rfl, Nat.le_of_ble_eq_true rfl⟩ hl.1 rfl (Nat.le_of_ble_eq_true rfl) dX7_ticksUntilSafe_10 (fun w3 H locs Z => ?_)
    refine lv_if_eq (tgt := 18) hx hb dX7_ticksUntilSafe_13 (by decide) (fun c6 => ?_) (fun c6 => ?_)
    · replace hm := (if_pos c6).symm.trans hm
      refine lv_aload_n hx hb dX7_ticksUntilSafe_18 rfl (lv_at hl 0 rfl) ?_
      refine lv_iload_n hx hb dX7_ticksUntilSafe_19 rfl (lv_at hl 1 rfl) ?_
      obtain ⟨r9, e7, hm⟩ := sBi_some hm
      refine g_callVI (n := 1) (As := [.int x1]) (rest := []) sameM X Z (cX7_ticksOfWaiting_c l e7) oX7 rfl (gooV mB903 mB904 mB905 mB614 mB902) rfl (by decide +kernel) rfl ⟨Nat.le_of_ble_eq_true rfl, Nat.le_of_ble_eq_true rfl⟩ ⟨Nat.le_of_ble_eq_true rfl, Nat.le_of_ble_eq_true rfl⟩ hl.1 rfl (Nat.le_of_ble_eq_true rfl) dX7_ticksUntilSafe_20 (fun w8 H locs Z => ?_)
      refine lv_istore_n (lv' := [(2, .int r9), (0, .ref (G.1 0)), (1, .int x1)]) hx hb dX7_ticksUntilSafe_23 rfl hl (by decide) rfl (fun ls hl => ?_)
      refine lv_iload_n hx hb dX7_ticksUntilSafe_24 rfl (lv_at hl 0 rfl) ?_
      refine lv_iconst (v := (-1)) hx hb dX7_ticksUntilSafe_25 (by decide) ?_
      refine lv_icmp_ne (tgt := 33) hx hb dX7_ticksUntilSafe_26 (by decide) (fun c10 => ?_) (fun c10 => ?_)
      · replace hm := (if_neg c10).symm.trans hm
        refine lv_aload_n hx hb dX7_ticksUntilSafe_33 rfl (lv_at hl 1 rfl) ?_
        refine lv_iload_n hx hb dX7_ticksUntilSafe_34 rfl (lv_at hl 2 rfl) ?_
        refine lv_iload_n hx hb dX7_ticksUntilSafe_35 rfl (lv_at hl 0 rfl) ?_
        obtain ⟨r13, e11, hm⟩ := sBi_some hm
        refine g_callVI (n := 2) (As := [.int x1, .int r9]) (rest := []) sameM X Z (cX7_ticksOfServers_c l e11) oX7 rfl (gooV mB906 mB907 mB908 mB614 mB901) rfl (by decide +kernel) rfl ⟨Nat.le_of_ble_eq_true rfl, Nat.le_of_ble_eq_true rfl⟩ ⟨Nat.le_of_ble_eq_true rfl, Nat.le_of_ble_eq_true rfl⟩ hl.1 rfl (Nat.le_of_ble_eq_true rfl) dX7_ticksUntilSafe_36 (fun w12 H locs Z => ?_)
        obtain rfl := Option.some.inj hm
        exact kI _ _ _ _ dX7_ticksUntilSafe_39 Z (vp_nar_int _)
      · replace hm := (if_pos c10).symm.trans hm
        refine lv_iconst (v := (-1)) hx hb dX7_ticksUntilSafe_29 (by decide) ?_
        refine lv_goto (tgt := 39) hx hb dX7_ticksUntilSafe_30 (by decide) ?_
        obtain rfl := Option.some.inj hm
        exact kI _ _ _ _ dX7_ticksUntilSafe_39 Z (vp_nar_int _)
    · replace hm := (if_neg c6).symm.trans hm
      refine lv_iconst (v := 0) hx hb dX7_ticksUntilSafe_16 (by decide) ?_
      obtain rfl := Option.some.inj hm
      exact kI _ _ _ _ dX7_ticksUntilSafe_17 Z (vp_nar_int _)
  · replace hm := (if_neg c1).symm.trans hm
    refine lv_iconst (v := 1) hx hb dX7_ticksUntilSafe_5 (by decide) ?_
    refine lv_goto (tgt := 10) hx hb dX7_ticksUntilSafe_6 (by decide) ?_
    obtain ⟨r16, g17, e14, hm⟩ := sBi2_some hm
    refine g_callVI (n := 1) (As := [.int 1]) (rest := []) sameM X Z (cX7_throwsAt_c l e14) oX7 rfl (gooV mB745 mB746 mB747 mB614 mB609) rfl (by decide +kernel) rfl ⟨Nat.le_of_ble_eq_true rfl, Nat.le_of_ble_eq_true rfl⟩ ⟨Nat.le_of_ble_eq_true rfl, Nat.le_of_ble_eq_true rfl⟩ hl.1 rfl (Nat.le_of_ble_eq_true rfl) dX7_ticksUntilSafe_10 (fun w15 H locs Z => ?_)
    refine lv_if_eq (tgt := 18) hx hb dX7_ticksUntilSafe_13 (by decide) (fun c18 => ?_) (fun c18 => ?_)
    · replace hm := (if_pos c18).symm.trans hm
      refine lv_aload_n hx hb dX7_ticksUntilSafe_18 rfl (lv_at hl 0 rfl) ?_
      refine lv_iload_n hx hb dX7_ticksUntilSafe_19 rfl (lv_at hl 1 rfl) ?_
      obtain ⟨r21, e19, hm⟩ := sBi_some hm
      refine g_callVI (n := 1) (As := [.int x1]) (rest := []) sameM X Z (cX7_ticksOfWaiting_c l e19) oX7 rfl (gooV mB903 mB904 mB905 mB614 mB902) rfl (by decide +kernel) rfl ⟨Nat.le_of_ble_eq_true rfl, Nat.le_of_ble_eq_true rfl⟩ ⟨Nat.le_of_ble_eq_true rfl, Nat.le_of_ble_eq_true rfl⟩ hl.1 rfl (Nat.le_of_ble_eq_true rfl) dX7_ticksUntilSafe_20 (fun w20 H locs Z => ?_)
      refine lv_istore_n (lv' := [(2, .int r21), (0, .ref (G.1 0)), (1, .int x1)]) hx hb dX7_ticksUntilSafe_23 rfl hl (by decide) rfl (fun ls hl => ?_)
      refine lv_iload_n hx hb dX7_ticksUntilSafe_24 rfl (lv_at hl 0 rfl) ?_
      refine lv_iconst (v := (-1)) hx hb dX7_ticksUntilSafe_25 (by decide) ?_
      refine lv_icmp_ne (tgt := 33) hx hb dX7_ticksUntilSafe_26 (by decide) (fun c22 => ?_) (fun c22 => ?_)
      · replace hm := (if_neg c22).symm.trans hm
        refine lv_aload_n hx hb dX7_ticksUntilSafe_33 rfl (lv_at hl 1 rfl) ?_
        refine lv_iload_n hx hb dX7_ticksUntilSafe_34 rfl (lv_at hl 2 rfl) ?_
        refine lv_iload_n hx hb dX7_ticksUntilSafe_35 rfl (lv_at hl 0 rfl) ?_
        obtain ⟨r25, e23, hm⟩ := sBi_some hm
        refine g_callVI (n := 2) (As := [.int x1, .int r21]) (rest := []) sameM X Z (cX7_ticksOfServers_c l e23) oX7 rfl (gooV mB906 mB907 mB908 mB614 mB901) rfl (by decide +kernel) rfl ⟨Nat.le_of_ble_eq_true rfl, Nat.le_of_ble_eq_true rfl⟩ ⟨Nat.le_of_ble_eq_true rfl, Nat.le_of_ble_eq_true rfl⟩ hl.1 rfl (Nat.le_of_ble_eq_true rfl) dX7_ticksUntilSafe_36 (fun w24 H locs Z => ?_)
        obtain rfl := Option.some.inj hm
        exact kI _ _ _ _ dX7_ticksUntilSafe_39 Z (vp_nar_int _)
      · replace hm := (if_pos c22).symm.trans hm
        refine lv_iconst (v := (-1)) hx hb dX7_ticksUntilSafe_29 (by decide) ?_
        refine lv_goto (tgt := 39) hx hb dX7_ticksUntilSafe_30 (by decide) ?_
        obtain rfl := Option.some.inj hm
        exact kI _ _ _ _ dX7_ticksUntilSafe_39 Z (vp_nar_int _)
    · replace hm := (if_neg c18).symm.trans hm
      refine lv_iconst (v := 0) hx hb dX7_ticksUntilSafe_16 (by decide) ?_
      obtain rfl := Option.some.inj hm
      exact kI _ _ _ _ dX7_ticksUntilSafe_17 Z (vp_nar_int _)
theorem cX7_ticksUntilSafe_c (l : Launch) {G : LY} {g : Mem} {n : Nat} {x1 : Int32} {r : Int32 × Mem} (hm : sX7_ticksUntilSafe n g x1 = some r) : cI l yX7_ticksUntilSafe wmX7_ticksUntilSafe 6 136 .int wM G [.ref (G.1 0), .int x1] g r.1 r.2 :=
  mk_cI sameM (by decide +kernel) rfl (Nat.le_of_ble_eq_true rfl) (fun p e s m args below meth c A Q ls X kI hl Z => bX7_ticksUntilSafe_0 X kI g x1 _ _ ls Z hl hm)
abbrev wmX7_count : List Cond := Cond.code yX7_count cX7_count 4 (some .int) :: wA0
set_option maxHeartbeats 4000000 in
set_option maxRecDepth 100000 in
theorem bX7_count_4 (X : gC p s m args meth c cX7_count 4 wmX7_count yX7_count.cls (some .int) G A) {n : Nat} {g : Mem} {r : Int32} (kI : ∀ (pc : Nat) (ls : Array Slot) (H : Heap) (locs : List Loc), decode cX7_count pc = .ok (.ireturn, 1) → WS wM G g A s.heap H locs → narrow .int (.int r) = .int r → W p l e { frames := 1, cells := 0, slots := 0, locals := 22 } s m args below meth c H locs 0 0 Q (F0 m pc ls [.int r])) : ∀ (f : Nat), ∀ (x1 : Int32) (x2 : Int32) (x3 : Int32) (H : Heap) (locs : List Loc) (ls : Array Slot), WS wM G g A s.heap H locs → lv_has ls 4 [(0, .ref (G.1 0)), (1, .int x1), (2, .int x2), (3, .int x3)] → sX7_count_4 n g f x1 x2 x3 = some r → W p l e { frames := 1, cells := 0, slots := 0, locals := 22 } s m args below meth c H locs 0 0 Q (F0 m 4 ls []) := by
  have hx := X.1
  have hb := X.2.1
  intro f
  induction f with
  | zero =>
    intro x1 x2 x3 H locs ls Z hl hm
    cases hm
  | succ f ih =>
    intro x1 x2 x3 H locs ls Z hl hm
    unfold sX7_count_4 at hm
    refine lv_iload_n hx hb dX7_count_4 rfl (lv_at hl 3 rfl) ?_
    refine lv_aload_n hx hb dX7_count_5 rfl (lv_at hl 0 rfl) ?_
    refine g_get (j := 0) (v := .ref (G.1 1)) X Z oX7 (iB7 _) rfl (by decide) rfl (List.mem_cons_of_mem _ mB602) rfl dX7_count_6 ?_
    refine lv_iconst (v := 3) hx hb dX7_count_9 (by decide) ?_
    obtain ⟨b1, hm⟩ := sIdx_some hm
    refine g_iald X Z aM1 b1 dX7_count_10 ?_
    refine lv_icmp_ge (tgt := 38) hx hb dX7_count_11 (by decide) (fun c2 => ?_) (fun c2 => ?_)
    · replace hm := (if_pos c2).symm.trans hm
      refine lv_iload_n hx hb dX7_count_38 rfl (lv_at hl 2 rfl) ?_
      obtain rfl := Option.some.inj hm
      exact kI _ _ _ _ dX7_count_39 Z (vp_nar_int _)
    · replace hm := (if_neg c2).symm.trans hm
      refine lv_iload_n hx hb dX7_count_14 rfl (lv_at hl 2 rfl) ?_
      refine lv_aload_n hx hb dX7_count_15 rfl (lv_at hl 0 rfl) ?_
      refine lv_iload_n hx hb dX7_count_16 rfl (lv_at hl 3 rfl) ?_
      refine lv_iconst (v := 1) hx hb dX7_count_17 (by decide) ?_
      obtain ⟨r5, e3, hm⟩ := sBi_some hm
      refine g_callVI (n := 2) (As := [.int x3, .int 1]) (rest := [.int x2]) sameM X Z (cX7_of_c l e3) oX7 rfl (gooV mB652 mB653 mB654 mB614 mB649) rfl (by decide +kernel) rfl ⟨Nat.le_of_ble_eq_true rfl, Nat.le_of_ble_eq_true rfl⟩ ⟨Nat.le_of_ble_eq_true rfl, Nat.le_of_ble_eq_true rfl⟩ hl.1 rfl (Nat.le_of_ble_eq_true rfl) dX7_count_18 (fun w4 H locs Z => ?_)
      refine lv_iload_n hx hb dX7_count_21 rfl (lv_at hl 1 rfl) ?_
      refine lv_icmp_ne (tgt := 29) hx hb dX7_count_22 (by decide) (fun c6 => ?_) (fun c6 => ?_)
      · replace hm := (if_neg c6).symm.trans hm
        refine lv_iconst (v := 0) hx hb dX7_count_29 (by decide) ?_
        refine lv_iadd hx hb dX7_count_30 ?_
        refine lv_istore_n (lv' := [(2, .int (x2 + (0 : Int32))), (0, .ref (G.1 0)), (1, .int x1), (3, .int x3)]) hx hb dX7_count_31 rfl hl (by decide) rfl (fun ls hl => ?_)
        refine lv_iinc (v := (x3 + (1 : Int32))) (lv' := [(3, .int (x3 + (1 : Int32))), (2, .int (x2 + (0 : Int32))), (0, .ref (G.1 0)), (1, .int x1)]) hx hb dX7_count_32 hl (k := 3) rfl rfl (by decide) rfl (fun ls hl => ?_)
        refine lv_goto (tgt := 4) hx hb dX7_count_35 (by decide) ?_
        exact ih x1 (x2 + (0 : Int32)) (x3 + (1 : Int32)) _ _ _ Z (lv_sub hl [2, 3, 1, 0] rfl) hm
      · replace hm := (if_pos c6).symm.trans hm
        refine lv_iconst (v := 1) hx hb dX7_count_25 (by decide) ?_
        refine lv_goto (tgt := 30) hx hb dX7_count_26 (by decide) ?_
        refine lv_iadd hx hb dX7_count_30 ?_
        refine lv_istore_n (lv' := [(2, .int (x2 + (1 : Int32))), (0, .ref (G.1 0)), (1, .int x1), (3, .int x3)]) hx hb dX7_count_31 rfl hl (by decide) rfl (fun ls hl => ?_)
        refine lv_iinc (v := (x3 + (1 : Int32))) (lv' := [(3, .int (x3 + (1 : Int32))), (2, .int (x2 + (1 : Int32))), (0, .ref (G.1 0)), (1, .int x1)]) hx hb dX7_count_32 hl (k := 3) rfl rfl (by decide) rfl (fun ls hl => ?_)
        refine lv_goto (tgt := 4) hx hb dX7_count_35 (by decide) ?_
        exact ih x1 (x2 + (1 : Int32)) (x3 + (1 : Int32)) _ _ _ Z (lv_sub hl [2, 3, 1, 0] rfl) hm
set_option maxHeartbeats 4000000 in
set_option maxRecDepth 100000 in
theorem bX7_count_0 (X : gC p s m args meth c cX7_count 4 wmX7_count yX7_count.cls (some .int) G A) {n : Nat} {g : Mem} {r : Int32} (kI : ∀ (pc : Nat) (ls : Array Slot) (H : Heap) (locs : List Loc), decode cX7_count pc = .ok (.ireturn, 1) → WS wM G g A s.heap H locs → narrow .int (.int r) = .int r → W p l e { frames := 1, cells := 0, slots := 0, locals := 22 } s m args below meth c H locs 0 0 Q (F0 m pc ls [.int r])) : ∀ (x1 : Int32) (H : Heap) (locs : List Loc) (ls : Array Slot), WS wM G g A s.heap H locs → lv_has ls 4 [(0, .ref (G.1 0)), (1, .int x1)] → sX7_count n g x1 = some r → W p l e { frames := 1, cells := 0, slots := 0, locals := 22 } s m args below meth c H locs 0 0 Q (F0 m 0 ls []) := by
  have hx := X.1
  have hb := X.2.1
  intro x1 H locs ls Z hl hm
  unfold sX7_count at hm
  refine lv_iconst (v := 0) hx hb dX7_count_0 (by decide) ?_
  refine lv_istore_n (lv' := [(2, .int 0), (0, .ref (G.1 0)), (1, .int x1)]) hx hb dX7_count_1 rfl hl (by decide) rfl (fun ls hl => ?_)
  refine lv_iconst (v := 0) hx hb dX7_count_2 (by decide) ?_
  refine lv_istore_n (lv' := [(3, .int 0), (2, .int 0), (0, .ref (G.1 0)), (1, .int x1)]) hx hb dX7_count_3 rfl hl (by decide) rfl (fun ls hl => ?_)
  exact bX7_count_4 X kI n x1 (0 : Int32) (0 : Int32) _ _ _ Z (lv_sub hl [2, 3, 1, 0] rfl) hm
theorem cX7_count_c (l : Launch) {G : LY} {g : Mem} {n : Nat} {x1 : Int32} {r : Int32} (hm : sX7_count n g x1 = some r) : cI l yX7_count wmX7_count 1 22 .int wM G [.ref (G.1 0), .int x1] g r g :=
  mk_cI sameM (by decide +kernel) rfl (Nat.le_of_ble_eq_true rfl) (fun p e s m args below meth c A Q ls X kI hl Z => bX7_count_0 X kI x1 _ _ ls Z hl hm)
abbrev wmX7_countInState : List Cond := Cond.code yX7_countInState cX7_countInState 2 (some .int) :: wA0
set_option maxHeartbeats 4000000 in
set_option maxRecDepth 100000 in
theorem bX7_countInState_0 (X : gC p s m args meth c cX7_countInState 2 wmX7_countInState yX7_countInState.cls (some .int) G A) {n : Nat} {r : Int32 × Mem} (kI : ∀ (pc : Nat) (ls : Array Slot) (H : Heap) (locs : List Loc), decode cX7_countInState pc = .ok (.ireturn, 1) → WS wM G r.2 A s.heap H locs → narrow .int (.int r.1) = .int r.1 → W p l e { frames := 2, cells := 0, slots := 0, locals := 45 } s m args below meth c H locs 0 0 Q (F0 m pc ls [.int r.1])) : ∀ (g : Mem) (x1 : Int32) (H : Heap) (locs : List Loc) (ls : Array Slot), WS wM G g A s.heap H locs → lv_has ls 2 [(0, .ref (G.1 0)), (1, .int x1)] → sX7_countInState n g x1 = some r → W p l e { frames := 2, cells := 0, slots := 0, locals := 45 } s m args below meth c H locs 0 0 Q (F0 m 0 ls []) := by
  have hx := X.1
  have hb := X.2.1
  intro g x1 H locs ls Z hl hm
  unfold sX7_countInState at hm
  refine lv_aload_n hx hb dX7_countInState_0 rfl (lv_at hl 0 rfl) ?_
  refine lv_iload_n hx hb dX7_countInState_1 rfl (lv_at hl 1 rfl) ?_
  refine lv_iconst (v := 0) hx hb dX7_countInState_2 (by decide) ?_
  refine lv_iconst (v := 3) hx hb dX7_countInState_3 (by decide) ?_
  obtain ⟨r3, e1, hm⟩ := sBi_some hm
  refine g_callSI (n := 3) (As := [.int x1, .int 0, .int 3]) (rest := [.ref (G.1 0)]) sameM X Z (cX7_in_c l e1) (gooS mB612 mB613 mB614 mB610) rfl (by decide +kernel) rfl ⟨Nat.le_of_ble_eq_true rfl, Nat.le_of_ble_eq_true rfl⟩ ⟨Nat.le_of_ble_eq_true rfl, Nat.le_of_ble_eq_true rfl⟩ hl.1 rfl (Nat.le_of_ble_eq_true rfl) dX7_countInState_4 (fun w2 H locs Z => ?_)
  refine lv_if_eq (tgt := 14) hx hb dX7_countInState_7 (by decide) (fun c4 => ?_) (fun c4 => ?_)
  · replace hm := (if_pos c4).symm.trans hm
    refine lv_iconst (v := 1) hx hb dX7_countInState_14 (by decide) ?_
    obtain ⟨r7, g8, e5, hm⟩ := sBi2_some hm
    refine g_callVI (n := 1) (As := [.int 1]) (rest := []) sameM X Z (cX7_throwsAt_c l e5) oX7 rfl (gooV mB745 mB746 mB747 mB614 mB609) rfl (by decide +kernel) rfl ⟨Nat.le_of_ble_eq_true rfl, Nat.le_of_ble_eq_true rfl⟩ ⟨Nat.le_of_ble_eq_true rfl, Nat.le_of_ble_eq_true rfl⟩ hl.1 rfl (Nat.le_of_ble_eq_true rfl) dX7_countInState_15 (fun w6 H locs Z => ?_)
    refine lv_if_eq (tgt := 25) hx hb dX7_countInState_18 (by decide) (fun c9 => ?_) (fun c9 => ?_)
    · replace hm := (if_pos c9).symm.trans hm
      refine lv_aload_n hx hb dX7_countInState_25 rfl (lv_at hl 0 rfl) ?_
      refine lv_iload_n hx hb dX7_countInState_26 rfl (lv_at hl 1 rfl) ?_
      obtain ⟨r12, e10, hm⟩ := sBi_some hm
      refine g_callVI (n := 1) (As := [.int x1]) (rest := []) sameM X Z (cX7_count_c l e10) oX7 rfl (gooV mB912 mB913 mB914 mB614 mB910) rfl (by decide +kernel) rfl ⟨Nat.le_of_ble_eq_true rfl, Nat.le_of_ble_eq_true rfl⟩ ⟨Nat.le_of_ble_eq_true rfl, Nat.le_of_ble_eq_true rfl⟩ hl.1 rfl (Nat.le_of_ble_eq_true rfl) dX7_countInState_27 (fun w11 H locs Z => ?_)
      obtain rfl := Option.some.inj hm
      exact kI _ _ _ _ dX7_countInState_30 Z (vp_nar_int _)
    · replace hm := (if_neg c9).symm.trans hm
      refine lv_iconst (v := 0) hx hb dX7_countInState_21 (by decide) ?_
      refine lv_goto (tgt := 30) hx hb dX7_countInState_22 (by decide) ?_
      obtain rfl := Option.some.inj hm
      exact kI _ _ _ _ dX7_countInState_30 Z (vp_nar_int _)
  · replace hm := (if_neg c4).symm.trans hm
    refine lv_iconst (v := 0) hx hb dX7_countInState_10 (by decide) ?_
    refine lv_goto (tgt := 15) hx hb dX7_countInState_11 (by decide) ?_
    obtain ⟨r15, g16, e13, hm⟩ := sBi2_some hm
    refine g_callVI (n := 1) (As := [.int 0]) (rest := []) sameM X Z (cX7_throwsAt_c l e13) oX7 rfl (gooV mB745 mB746 mB747 mB614 mB609) rfl (by decide +kernel) rfl ⟨Nat.le_of_ble_eq_true rfl, Nat.le_of_ble_eq_true rfl⟩ ⟨Nat.le_of_ble_eq_true rfl, Nat.le_of_ble_eq_true rfl⟩ hl.1 rfl (Nat.le_of_ble_eq_true rfl) dX7_countInState_15 (fun w14 H locs Z => ?_)
    refine lv_if_eq (tgt := 25) hx hb dX7_countInState_18 (by decide) (fun c17 => ?_) (fun c17 => ?_)
    · replace hm := (if_pos c17).symm.trans hm
      refine lv_aload_n hx hb dX7_countInState_25 rfl (lv_at hl 0 rfl) ?_
      refine lv_iload_n hx hb dX7_countInState_26 rfl (lv_at hl 1 rfl) ?_
      obtain ⟨r20, e18, hm⟩ := sBi_some hm
      refine g_callVI (n := 1) (As := [.int x1]) (rest := []) sameM X Z (cX7_count_c l e18) oX7 rfl (gooV mB912 mB913 mB914 mB614 mB910) rfl (by decide +kernel) rfl ⟨Nat.le_of_ble_eq_true rfl, Nat.le_of_ble_eq_true rfl⟩ ⟨Nat.le_of_ble_eq_true rfl, Nat.le_of_ble_eq_true rfl⟩ hl.1 rfl (Nat.le_of_ble_eq_true rfl) dX7_countInState_27 (fun w19 H locs Z => ?_)
      obtain rfl := Option.some.inj hm
      exact kI _ _ _ _ dX7_countInState_30 Z (vp_nar_int _)
    · replace hm := (if_neg c17).symm.trans hm
      refine lv_iconst (v := 0) hx hb dX7_countInState_21 (by decide) ?_
      refine lv_goto (tgt := 30) hx hb dX7_countInState_22 (by decide) ?_
      obtain rfl := Option.some.inj hm
      exact kI _ _ _ _ dX7_countInState_30 Z (vp_nar_int _)
theorem cX7_countInState_c (l : Launch) {G : LY} {g : Mem} {n : Nat} {x1 : Int32} {r : Int32 × Mem} (hm : sX7_countInState n g x1 = some r) : cI l yX7_countInState wmX7_countInState 2 45 .int wM G [.ref (G.1 0), .int x1] g r.1 r.2 :=
  mk_cI sameM (by decide +kernel) rfl (Nat.le_of_ble_eq_true rfl) (fun p e s m args below meth c A Q ls X kI hl Z => bX7_countInState_0 X kI g x1 _ _ ls Z hl hm)
abbrev wmX7_totalWait : List Cond := Cond.code yX7_totalWait cX7_totalWait 3 (some .int) :: wA0
set_option maxHeartbeats 4000000 in
set_option maxRecDepth 100000 in
theorem bX7_totalWait_9 (X : gC p s m args meth c cX7_totalWait 3 wmX7_totalWait yX7_totalWait.cls (some .int) G A) {n : Nat} {r : Int32 × Mem} (kI : ∀ (pc : Nat) (ls : Array Slot) (H : Heap) (locs : List Loc), decode cX7_totalWait pc = .ok (.ireturn, 1) → WS wM G r.2 A s.heap H locs → narrow .int (.int r.1) = .int r.1 → W p l e { frames := 1, cells := 0, slots := 0, locals := 22 } s m args below meth c H locs 0 0 Q (F0 m pc ls [.int r.1])) : ∀ (f : Nat), ∀ (g : Mem) (x1 : Int32) (x2 : Int32) (H : Heap) (locs : List Loc) (ls : Array Slot), WS wM G g A s.heap H locs → lv_has ls 3 [(0, .ref (G.1 0)), (1, .int x1), (2, .int x2)] → sX7_totalWait_9 n f g x1 x2 = some r → W p l e { frames := 1, cells := 0, slots := 0, locals := 22 } s m args below meth c H locs 0 0 Q (F0 m 9 ls []) := by
  have hx := X.1
  have hb := X.2.1
  intro f
  induction f with
  | zero =>
    intro g x1 x2 H locs ls Z hl hm
    cases hm
  | succ f ih =>
    intro g x1 x2 H locs ls Z hl hm
    unfold sX7_totalWait_9 at hm
    refine lv_iload_n hx hb dX7_totalWait_9 rfl (lv_at hl 2 rfl) ?_
    refine lv_aload_n hx hb dX7_totalWait_10 rfl (lv_at hl 0 rfl) ?_
    refine g_get (j := 0) (v := .ref (G.1 1)) X Z oX7 (iB7 _) rfl (by decide) rfl (List.mem_cons_of_mem _ mB602) rfl dX7_totalWait_11 ?_
    refine lv_iconst (v := 3) hx hb dX7_totalWait_14 (by decide) ?_
    obtain ⟨b1, hm⟩ := sIdx_some hm
    refine g_iald X Z aM1 b1 dX7_totalWait_15 ?_
    refine lv_icmp_ge (tgt := 55) hx hb dX7_totalWait_16 (by decide) (fun c2 => ?_) (fun c2 => ?_)
    · replace hm := (if_pos c2).symm.trans hm
      refine lv_iload_n hx hb dX7_totalWait_55 rfl (lv_at hl 1 rfl) ?_
      obtain rfl := Option.some.inj hm
      exact kI _ _ _ _ dX7_totalWait_56 Z (vp_nar_int _)
    · replace hm := (if_neg c2).symm.trans hm
      refine lv_iload_n hx hb dX7_totalWait_19 rfl (lv_at hl 1 rfl) ?_
      refine lv_aload_n hx hb dX7_totalWait_20 rfl (lv_at hl 0 rfl) ?_
      refine lv_iload_n hx hb dX7_totalWait_21 rfl (lv_at hl 2 rfl) ?_
      refine lv_iconst (v := 1) hx hb dX7_totalWait_22 (by decide) ?_
      obtain ⟨r5, e3, hm⟩ := sBi_some hm
      refine g_callVI (n := 2) (As := [.int x2, .int 1]) (rest := [.int x1]) sameM X Z (cX7_of_c l e3) oX7 rfl (gooV mB652 mB653 mB654 mB614 mB649) rfl (by decide +kernel) rfl ⟨Nat.le_of_ble_eq_true rfl, Nat.le_of_ble_eq_true rfl⟩ ⟨Nat.le_of_ble_eq_true rfl, Nat.le_of_ble_eq_true rfl⟩ hl.1 rfl (Nat.le_of_ble_eq_true rfl) dX7_totalWait_23 (fun w4 H locs Z => ?_)
      refine lv_iconst (v := 2) hx hb dX7_totalWait_26 (by decide) ?_
      refine lv_icmp_ne (tgt := 46) hx hb dX7_totalWait_27 (by decide) (fun c6 => ?_) (fun c6 => ?_)
      · replace hm := (if_neg c6).symm.trans hm
        refine lv_iconst (v := 0) hx hb dX7_totalWait_46 (by decide) ?_
        refine lv_iadd hx hb dX7_totalWait_47 ?_
        refine lv_istore_n (lv' := [(1, .int (x1 + (0 : Int32))), (0, .ref (G.1 0)), (2, .int x2)]) hx hb dX7_totalWait_48 rfl hl (by decide) rfl (fun ls hl => ?_)
        refine lv_iinc (v := (x2 + (1 : Int32))) (lv' := [(2, .int (x2 + (1 : Int32))), (1, .int (x1 + (0 : Int32))), (0, .ref (G.1 0))]) hx hb dX7_totalWait_49 hl (k := 2) rfl rfl (by decide) rfl (fun ls hl => ?_)
        refine lv_goto (tgt := 9) hx hb dX7_totalWait_52 (by decide) ?_
        exact ih g (x1 + (0 : Int32)) (x2 + (1 : Int32)) _ _ _ Z (lv_sub hl [2, 1, 0] rfl) hm
      · replace hm := (if_pos c6).symm.trans hm
        refine lv_aload_n hx hb dX7_totalWait_30 rfl (lv_at hl 0 rfl) ?_
        refine lv_iload_n hx hb dX7_totalWait_31 rfl (lv_at hl 2 rfl) ?_
        refine lv_iconst (v := 4) hx hb dX7_totalWait_32 (by decide) ?_
        obtain ⟨r9, e7, hm⟩ := sBi_some hm
        refine g_callVI (n := 2) (As := [.int x2, .int 4]) (rest := [.int x1]) sameM X Z (cX7_of_c l e7) oX7 rfl (gooV mB652 mB653 mB654 mB614 mB649) rfl (by decide +kernel) rfl ⟨Nat.le_of_ble_eq_true rfl, Nat.le_of_ble_eq_true rfl⟩ ⟨Nat.le_of_ble_eq_true rfl, Nat.le_of_ble_eq_true rfl⟩ hl.1 rfl (Nat.le_of_ble_eq_true rfl) dX7_totalWait_33 (fun w8 H locs Z => ?_)
        refine lv_aload_n hx hb dX7_totalWait_36 rfl (lv_at hl 0 rfl) ?_
        refine lv_iload_n hx hb dX7_totalWait_37 rfl (lv_at hl 2 rfl) ?_
        refine lv_iconst (v := 3) hx hb dX7_totalWait_38 (by decide) ?_
        obtain ⟨r12, e10, hm⟩ := sBi_some hm
        refine g_callVI (n := 2) (As := [.int x2, .int 3]) (rest := [.int r9, .int x1]) sameM X Z (cX7_of_c l e10) oX7 rfl (gooV mB652 mB653 mB654 mB614 mB649) rfl (by decide +kernel) rfl ⟨Nat.le_of_ble_eq_true rfl, Nat.le_of_ble_eq_true rfl⟩ ⟨Nat.le_of_ble_eq_true rfl, Nat.le_of_ble_eq_true rfl⟩ hl.1 rfl (Nat.le_of_ble_eq_true rfl) dX7_totalWait_39 (fun w11 H locs Z => ?_)
        refine lv_isub hx hb dX7_totalWait_42 ?_
        refine lv_goto (tgt := 47) hx hb dX7_totalWait_43 (by decide) ?_
        refine lv_iadd hx hb dX7_totalWait_47 ?_
        refine lv_istore_n (lv' := [(1, .int (x1 + (r9 - r12))), (0, .ref (G.1 0)), (2, .int x2)]) hx hb dX7_totalWait_48 rfl hl (by decide) rfl (fun ls hl => ?_)
        refine lv_iinc (v := (x2 + (1 : Int32))) (lv' := [(2, .int (x2 + (1 : Int32))), (1, .int (x1 + (r9 - r12))), (0, .ref (G.1 0))]) hx hb dX7_totalWait_49 hl (k := 2) rfl rfl (by decide) rfl (fun ls hl => ?_)
        refine lv_goto (tgt := 9) hx hb dX7_totalWait_52 (by decide) ?_
        exact ih g (x1 + (r9 - r12)) (x2 + (1 : Int32)) _ _ _ Z (lv_sub hl [2, 1, 0] rfl) hm
set_option maxHeartbeats 4000000 in
set_option maxRecDepth 100000 in
theorem bX7_totalWait_0 (X : gC p s m args meth c cX7_totalWait 3 wmX7_totalWait yX7_totalWait.cls (some .int) G A) {n : Nat} {r : Int32 × Mem} (kI : ∀ (pc : Nat) (ls : Array Slot) (H : Heap) (locs : List Loc), decode cX7_totalWait pc = .ok (.ireturn, 1) → WS wM G r.2 A s.heap H locs → narrow .int (.int r.1) = .int r.1 → W p l e { frames := 1, cells := 0, slots := 0, locals := 22 } s m args below meth c H locs 0 0 Q (F0 m pc ls [.int r.1])) : ∀ (g : Mem) (H : Heap) (locs : List Loc) (ls : Array Slot), WS wM G g A s.heap H locs → lv_has ls 3 [(0, .ref (G.1 0))] → sX7_totalWait n g = some r → W p l e { frames := 1, cells := 0, slots := 0, locals := 22 } s m args below meth c H locs 0 0 Q (F0 m 0 ls []) := by
  have hx := X.1
  have hb := X.2.1
  intro g H locs ls Z hl hm
  unfold sX7_totalWait at hm
  refine lv_aload_n hx hb dX7_totalWait_0 rfl (lv_at hl 0 rfl) ?_
  refine lv_iconst (v := 0) hx hb dX7_totalWait_1 (by decide) ?_
  obtain ⟨g1, eg1, hm⟩ := sLet_some hm
  refine g_put (j := 7) eg1 X Z oX7 (iB7 _) rfl tyX7_ok nmX7 (by decide) rfl rfl (Nat.le_of_ble_eq_true rfl) (p7_7 G g (0 : Int32)) rfl (List.mem_cons_of_mem _ mB608) dX7_totalWait_2 (fun H locs Z => ?_)
  refine lv_iconst (v := 0) hx hb dX7_totalWait_5 (by decide) ?_
  refine lv_istore_n (lv' := [(1, .int 0), (0, .ref (G.1 0))]) hx hb dX7_totalWait_6 rfl hl (by decide) rfl (fun ls hl => ?_)
  refine lv_iconst (v := 0) hx hb dX7_totalWait_7 (by decide) ?_
  refine lv_istore_n (lv' := [(2, .int 0), (1, .int 0), (0, .ref (G.1 0))]) hx hb dX7_totalWait_8 rfl hl (by decide) rfl (fun ls hl => ?_)
  exact bX7_totalWait_9 X kI n g1 (0 : Int32) (0 : Int32) _ _ _ Z (lv_sub hl [2, 1, 0] rfl) hm
theorem cX7_totalWait_c (l : Launch) {G : LY} {g : Mem} {n : Nat} {r : Int32 × Mem} (hm : sX7_totalWait n g = some r) : cI l yX7_totalWait wmX7_totalWait 1 22 .int wM G [.ref (G.1 0)] g r.1 r.2 :=
  mk_cI sameM (by decide +kernel) rfl (Nat.le_of_ble_eq_true rfl) (fun p e s m args below meth c A Q ls X kI hl Z => bX7_totalWait_0 X kI g  _ _ ls Z hl hm)
abbrev wmX7_unsoundUses : List Cond := Cond.code yX7_unsoundUses cX7_unsoundUses 1 (some .int) :: wA0
set_option maxHeartbeats 4000000 in
set_option maxRecDepth 100000 in
theorem bX7_unsoundUses_0 (X : gC p s m args meth c cX7_unsoundUses 1 wmX7_unsoundUses yX7_unsoundUses.cls (some .int) G A) {r : Int32 × Mem} (kI : ∀ (pc : Nat) (ls : Array Slot) (H : Heap) (locs : List Loc), decode cX7_unsoundUses pc = .ok (.ireturn, 1) → WS wM G r.2 A s.heap H locs → narrow .int (.int r.1) = .int r.1 → W p l e { frames := 0, cells := 0, slots := 0, locals := 0 } s m args below meth c H locs 0 0 Q (F0 m pc ls [.int r.1])) : ∀ (g : Mem) (H : Heap) (locs : List Loc) (ls : Array Slot), WS wM G g A s.heap H locs → lv_has ls 1 [(0, .ref (G.1 0))] → sX7_unsoundUses g = some r → W p l e { frames := 0, cells := 0, slots := 0, locals := 0 } s m args below meth c H locs 0 0 Q (F0 m 0 ls []) := by
  have hx := X.1
  have hb := X.2.1
  intro g H locs ls Z hl hm
  unfold sX7_unsoundUses at hm
  refine lv_aload_n hx hb dX7_unsoundUses_0 rfl (lv_at hl 0 rfl) ?_
  refine lv_iconst (v := 0) hx hb dX7_unsoundUses_1 (by decide) ?_
  obtain ⟨g1, eg1, hm⟩ := sLet_some hm
  refine g_put (j := 7) eg1 X Z oX7 (iB7 _) rfl tyX7_ok nmX7 (by decide) rfl rfl (Nat.le_of_ble_eq_true rfl) (p7_7 G g (0 : Int32)) rfl (List.mem_cons_of_mem _ mB608) dX7_unsoundUses_2 (fun H locs Z => ?_)
  refine lv_aload_n hx hb dX7_unsoundUses_5 rfl (lv_at hl 0 rfl) ?_
  refine g_get (j := 0) (v := .ref (G.1 1)) X Z oX7 (iB7 _) rfl (by decide) rfl (List.mem_cons_of_mem _ mB602) rfl dX7_unsoundUses_6 ?_
  refine lv_iconst (v := 2) hx hb dX7_unsoundUses_9 (by decide) ?_
  obtain ⟨b2, hm⟩ := sIdx_some hm
  refine g_iald X Z aM1 b2 dX7_unsoundUses_10 ?_
  obtain rfl := Option.some.inj hm
  exact kI _ _ _ _ dX7_unsoundUses_11 Z (vp_nar_int _)
theorem cX7_unsoundUses_c (l : Launch) {G : LY} {g : Mem} {r : Int32 × Mem} (hm : sX7_unsoundUses g = some r) : cI l yX7_unsoundUses wmX7_unsoundUses 0 0 .int wM G [.ref (G.1 0)] g r.1 r.2 :=
  mk_cI sameM (by decide +kernel) rfl (Nat.le_of_ble_eq_true rfl) (fun p e s m args below meth c A Q ls X kI hl Z => bX7_unsoundUses_0 X kI g  _ _ ls Z hl hm)
abbrev wmX7_isInverted : List Cond := Cond.code yX7_isInverted cX7_isInverted 4 (some .boolean) :: wA0
set_option maxHeartbeats 4000000 in
set_option maxRecDepth 100000 in
theorem bX7_isInverted_37 (X : gC p s m args meth c cX7_isInverted 4 wmX7_isInverted yX7_isInverted.cls (some .boolean) G A) {g : Mem} {r : Int32} (kI : ∀ (pc : Nat) (ls : Array Slot) (H : Heap) (locs : List Loc), decode cX7_isInverted pc = .ok (.ireturn, 1) → WS wM G g A s.heap H locs → narrow .boolean (.int r) = .int r → W p l e { frames := 2, cells := 0, slots := 0, locals := 43 } s m args below meth c H locs 0 0 Q (F0 m pc ls [.int r])) : ∀ (x1 : Int32) (x2 : Int32) (H : Heap) (locs : List Loc) (ls : Array Slot), WS wM G g A s.heap H locs → lv_has ls 4 [(0, .ref (G.1 0)), (1, .int x1), (2, .int x2)] → sX7_isInverted_37 g x1 x2 = some r → W p l e { frames := 2, cells := 0, slots := 0, locals := 43 } s m args below meth c H locs 0 0 Q (F0 m 37 ls []) := by
  have hx := X.1
  have hb := X.2.1
  intro x1 x2 H locs ls Z hl hm
  unfold sX7_isInverted_37 at hm
  refine lv_iconst (v := 0) hx hb dX7_isInverted_37 (by decide) ?_
  refine lv_istore_n (lv' := [(3, .int 0), (0, .ref (G.1 0)), (1, .int x1), (2, .int x2)]) hx hb dX7_isInverted_38 rfl hl (by decide) rfl (fun ls hl => ?_)
  refine lv_iload_n hx hb dX7_isInverted_39 rfl (lv_at hl 0 rfl) ?_
  refine lv_if_eq (tgt := 62) hx hb dX7_isInverted_40 (by decide) (fun c1 => ?_) (fun c1 => ?_)
  rotate_left
  · first | exact absurd c1 (by decide) | exact absurd (by decide) c1
  refine lv_iconst (v := 0) hx hb dX7_isInverted_62 (by decide) ?_
  obtain rfl := Option.some.inj hm
  exact kI _ _ _ _ dX7_isInverted_63 Z nb0
set_option maxHeartbeats 4000000 in
set_option maxRecDepth 100000 in
theorem bX7_isInverted_0 (X : gC p s m args meth c cX7_isInverted 4 wmX7_isInverted yX7_isInverted.cls (some .boolean) G A) {g : Mem} {r : Int32} (kI : ∀ (pc : Nat) (ls : Array Slot) (H : Heap) (locs : List Loc), decode cX7_isInverted pc = .ok (.ireturn, 1) → WS wM G g A s.heap H locs → narrow .boolean (.int r) = .int r → W p l e { frames := 2, cells := 0, slots := 0, locals := 43 } s m args below meth c H locs 0 0 Q (F0 m pc ls [.int r])) : ∀ (x1 : Int32) (x2 : Int32) (H : Heap) (locs : List Loc) (ls : Array Slot), WS wM G g A s.heap H locs → lv_has ls 4 [(0, .ref (G.1 0)), (1, .int x1), (2, .int x2)] → sX7_isInverted g x1 x2 = some r → W p l e { frames := 2, cells := 0, slots := 0, locals := 43 } s m args below meth c H locs 0 0 Q (F0 m 0 ls []) := by
  have hx := X.1
  have hb := X.2.1
  intro x1 x2 H locs ls Z hl hm
  unfold sX7_isInverted at hm
  refine lv_aload_n hx hb dX7_isInverted_0 rfl (lv_at hl 0 rfl) ?_
  refine lv_iload_n hx hb dX7_isInverted_1 rfl (lv_at hl 1 rfl) ?_
  refine lv_iconst (v := 1) hx hb dX7_isInverted_2 (by decide) ?_
  obtain ⟨r3, e1, hm⟩ := sBi_some hm
  refine g_callVI (n := 2) (As := [.int x1, .int 1]) (rest := []) sameM X Z (cX7_of_c l e1) oX7 rfl (gooV mB652 mB653 mB654 mB614 mB649) rfl (by decide +kernel) rfl ⟨Nat.le_of_ble_eq_true rfl, Nat.le_of_ble_eq_true rfl⟩ ⟨Nat.le_of_ble_eq_true rfl, Nat.le_of_ble_eq_true rfl⟩ hl.1 rfl (Nat.le_of_ble_eq_true rfl) dX7_isInverted_3 (fun w2 H locs Z => ?_)
  refine lv_iconst (v := 2) hx hb dX7_isInverted_6 (by decide) ?_
  refine lv_icmp_ne (tgt := 37) hx hb dX7_isInverted_7 (by decide) (fun c4 => ?_) (fun c4 => ?_)
  · replace hm := (if_neg c4).symm.trans hm
    exact bX7_isInverted_37 X kI x1 x2 _ _ _ Z (lv_sub hl [0, 1, 2] rfl) hm
  · replace hm := (if_pos c4).symm.trans hm
    refine lv_aload_n hx hb dX7_isInverted_10 rfl (lv_at hl 0 rfl) ?_
    refine lv_iload_n hx hb dX7_isInverted_11 rfl (lv_at hl 2 rfl) ?_
    obtain ⟨r7, e5, hm⟩ := sBi_some hm
    refine g_callVI (n := 1) (As := [.int x2]) (rest := []) sameM X Z (cX7_isStamped_c l e5) oX7 rfl (gooV mB871 mB872 mB873 mB614 mB866) rfl (by decide +kernel) rfl ⟨Nat.le_of_ble_eq_true rfl, Nat.le_of_ble_eq_true rfl⟩ ⟨Nat.le_of_ble_eq_true rfl, Nat.le_of_ble_eq_true rfl⟩ hl.1 rfl (Nat.le_of_ble_eq_true rfl) dX7_isInverted_12 (fun w6 H locs Z => ?_)
    refine lv_if_eq (tgt := 37) hx hb dX7_isInverted_15 (by decide) (fun c8 => ?_) (fun c8 => ?_)
    · replace hm := (if_pos c8).symm.trans hm
      exact bX7_isInverted_37 X kI x1 x2 _ _ _ Z (lv_sub hl [0, 1, 2] rfl) hm
    · replace hm := (if_neg c8).symm.trans hm
      refine lv_aload_n hx hb dX7_isInverted_18 rfl (lv_at hl 0 rfl) ?_
      refine lv_iload_n hx hb dX7_isInverted_19 rfl (lv_at hl 1 rfl) ?_
      refine lv_iconst (v := 4) hx hb dX7_isInverted_20 (by decide) ?_
      obtain ⟨r11, e9, hm⟩ := sBi_some hm
      refine g_callVI (n := 2) (As := [.int x1, .int 4]) (rest := []) sameM X Z (cX7_of_c l e9) oX7 rfl (gooV mB652 mB653 mB654 mB614 mB649) rfl (by decide +kernel) rfl ⟨Nat.le_of_ble_eq_true rfl, Nat.le_of_ble_eq_true rfl⟩ ⟨Nat.le_of_ble_eq_true rfl, Nat.le_of_ble_eq_true rfl⟩ hl.1 rfl (Nat.le_of_ble_eq_true rfl) dX7_isInverted_21 (fun w10 H locs Z => ?_)
      refine lv_aload_n hx hb dX7_isInverted_24 rfl (lv_at hl 0 rfl) ?_
      refine lv_iload_n hx hb dX7_isInverted_25 rfl (lv_at hl 2 rfl) ?_
      refine lv_iconst (v := 3) hx hb dX7_isInverted_26 (by decide) ?_
      obtain ⟨r14, e12, hm⟩ := sBi_some hm
      refine g_callVI (n := 2) (As := [.int x2, .int 3]) (rest := [.int r11]) sameM X Z (cX7_of_c l e12) oX7 rfl (gooV mB652 mB653 mB654 mB614 mB649) rfl (by decide +kernel) rfl ⟨Nat.le_of_ble_eq_true rfl, Nat.le_of_ble_eq_true rfl⟩ ⟨Nat.le_of_ble_eq_true rfl, Nat.le_of_ble_eq_true rfl⟩ hl.1 rfl (Nat.le_of_ble_eq_true rfl) dX7_isInverted_27 (fun w13 H locs Z => ?_)
      refine lv_icmp_gt (tgt := 37) hx hb dX7_isInverted_30 (by decide) (fun c15 => ?_) (fun c15 => ?_)
      · replace hm := (if_pos c15).symm.trans hm
        exact bX7_isInverted_37 X kI x1 x2 _ _ _ Z (lv_sub hl [0, 1, 2] rfl) hm
      · replace hm := (if_neg c15).symm.trans hm
        refine lv_iconst (v := 1) hx hb dX7_isInverted_33 (by decide) ?_
        refine lv_goto (tgt := 38) hx hb dX7_isInverted_34 (by decide) ?_
        refine lv_istore_n (lv' := [(3, .int 1), (0, .ref (G.1 0)), (1, .int x1), (2, .int x2)]) hx hb dX7_isInverted_38 rfl hl (by decide) rfl (fun ls hl => ?_)
        refine lv_iload_n hx hb dX7_isInverted_39 rfl (lv_at hl 0 rfl) ?_
        refine lv_if_eq (tgt := 62) hx hb dX7_isInverted_40 (by decide) (fun c16 => ?_) (fun c16 => ?_)
        · first | exact absurd c16 (by decide) | exact absurd (by decide) c16
        refine lv_aload_n hx hb dX7_isInverted_43 rfl (lv_at hl 1 rfl) ?_
        refine lv_iload_n hx hb dX7_isInverted_44 rfl (lv_at hl 2 rfl) ?_
        refine lv_iconst (v := 2) hx hb dX7_isInverted_45 (by decide) ?_
        obtain ⟨r19, e17, hm⟩ := sBi_some hm
        refine g_callVI (n := 2) (As := [.int x1, .int 2]) (rest := []) sameM X Z (cX7_of_c l e17) oX7 rfl (gooV mB652 mB653 mB654 mB614 mB649) rfl (by decide +kernel) rfl ⟨Nat.le_of_ble_eq_true rfl, Nat.le_of_ble_eq_true rfl⟩ ⟨Nat.le_of_ble_eq_true rfl, Nat.le_of_ble_eq_true rfl⟩ hl.1 rfl (Nat.le_of_ble_eq_true rfl) dX7_isInverted_46 (fun w18 H locs Z => ?_)
        refine lv_aload_n hx hb dX7_isInverted_49 rfl (lv_at hl 1 rfl) ?_
        refine lv_iload_n hx hb dX7_isInverted_50 rfl (lv_at hl 3 rfl) ?_
        refine lv_iconst (v := 2) hx hb dX7_isInverted_51 (by decide) ?_
        obtain ⟨r22, e20, hm⟩ := sBi_some hm
        refine g_callVI (n := 2) (As := [.int x2, .int 2]) (rest := [.int r19]) sameM X Z (cX7_of_c l e20) oX7 rfl (gooV mB652 mB653 mB654 mB614 mB649) rfl (by decide +kernel) rfl ⟨Nat.le_of_ble_eq_true rfl, Nat.le_of_ble_eq_true rfl⟩ ⟨Nat.le_of_ble_eq_true rfl, Nat.le_of_ble_eq_true rfl⟩ hl.1 rfl (Nat.le_of_ble_eq_true rfl) dX7_isInverted_52 (fun w21 H locs Z => ?_)
        refine lv_icmp_lt (tgt := 62) hx hb dX7_isInverted_55 (by decide) (fun c23 => ?_) (fun c23 => ?_)
        · replace hm := (if_pos c23).symm.trans hm
          refine lv_iconst (v := 0) hx hb dX7_isInverted_62 (by decide) ?_
          obtain rfl := Option.some.inj hm
          exact kI _ _ _ _ dX7_isInverted_63 Z nb0
        · replace hm := (if_neg c23).symm.trans hm
          refine lv_iconst (v := 1) hx hb dX7_isInverted_58 (by decide) ?_
          refine lv_goto (tgt := 63) hx hb dX7_isInverted_59 (by decide) ?_
          obtain rfl := Option.some.inj hm
          exact kI _ _ _ _ dX7_isInverted_63 Z nb1
theorem cX7_isInverted_c (l : Launch) {G : LY} {g : Mem} {x1 : Int32} {x2 : Int32} {r : Int32} (hm : sX7_isInverted g x1 x2 = some r) : cI l yX7_isInverted wmX7_isInverted 2 43 .boolean wM G [.ref (G.1 0), .int x1, .int x2] g r g :=
  mk_cI sameM (by decide +kernel) rfl (Nat.le_of_ble_eq_true rfl) (fun p e s m args below meth c A Q ls X kI hl Z => bX7_isInverted_0 X kI x1 x2 _ _ ls Z hl hm)
abbrev wmX7_inversions : List Cond := Cond.code yX7_inversions cX7_inversions 4 (some .int) :: wA0
set_option maxHeartbeats 4000000 in
set_option maxRecDepth 100000 in
theorem bX7_inversions_21 (X : gC p s m args meth c cX7_inversions 4 wmX7_inversions yX7_inversions.cls (some .int) G A) {n : Nat} {r : Int32 × Mem} (kI : ∀ (pc : Nat) (ls : Array Slot) (H : Heap) (locs : List Loc), decode cX7_inversions pc = .ok (.ireturn, 1) → WS wM G r.2 A s.heap H locs → narrow .int (.int r.1) = .int r.1 → W p l e { frames := 3, cells := 0, slots := 0, locals := 66 } s m args below meth c H locs 0 0 Q (F0 m pc ls [.int r.1])) {rec9 : Mem → Int32 → Int32 → Option (Int32 × Mem)} (h9 : ∀ (g : Mem) (x1 : Int32) (x2 : Int32) (H : Heap) (locs : List Loc) (ls : Array Slot), WS wM G g A s.heap H locs → lv_has ls 4 [(0, .ref (G.1 0)), (1, .int x1), (2, .int x2)] → rec9 g x1 x2 = some r → W p l e { frames := 3, cells := 0, slots := 0, locals := 66 } s m args below meth c H locs 0 0 Q (F0 m 9 ls [])) : ∀ (f : Nat), ∀ (g : Mem) (x1 : Int32) (x2 : Int32) (x3 : Int32) (H : Heap) (locs : List Loc) (ls : Array Slot), WS wM G g A s.heap H locs → lv_has ls 4 [(0, .ref (G.1 0)), (1, .int x1), (2, .int x2), (3, .int x3)] → sX7_inversions_21 n rec9 f g x1 x2 x3 = some r → W p l e { frames := 3, cells := 0, slots := 0, locals := 66 } s m args below meth c H locs 0 0 Q (F0 m 21 ls []) := by
  have hx := X.1
  have hb := X.2.1
  intro f
  induction f with
  | zero =>
    intro g x1 x2 x3 H locs ls Z hl hm
    cases hm
  | succ f ih =>
    intro g x1 x2 x3 H locs ls Z hl hm
    unfold sX7_inversions_21 at hm
    refine lv_iload_n hx hb dX7_inversions_21 rfl (lv_at hl 3 rfl) ?_
    refine lv_aload_n hx hb dX7_inversions_22 rfl (lv_at hl 0 rfl) ?_
    refine g_get (j := 0) (v := .ref (G.1 1)) X Z oX7 (iB7 _) rfl (by decide) rfl (List.mem_cons_of_mem _ mB602) rfl dX7_inversions_23 ?_
    refine lv_iconst (v := 3) hx hb dX7_inversions_26 (by decide) ?_
    obtain ⟨b1, hm⟩ := sIdx_some hm
    refine g_iald X Z aM1 b1 dX7_inversions_27 ?_
    refine lv_icmp_ge (tgt := 54) hx hb dX7_inversions_28 (by decide) (fun c2 => ?_) (fun c2 => ?_)
    · replace hm := (if_pos c2).symm.trans hm
      refine lv_iinc (v := (x2 + (1 : Int32))) (lv' := [(2, .int (x2 + (1 : Int32))), (0, .ref (G.1 0)), (1, .int x1), (3, .int x3)]) hx hb dX7_inversions_54 hl (k := 2) rfl rfl (by decide) rfl (fun ls hl => ?_)
      refine lv_goto (tgt := 9) hx hb dX7_inversions_57 (by decide) ?_
      exact h9 g x1 (x2 + (1 : Int32)) _ _ _ Z (lv_sub hl [1, 2, 0] rfl) hm
    · replace hm := (if_neg c2).symm.trans hm
      refine lv_iload_n hx hb dX7_inversions_31 rfl (lv_at hl 1 rfl) ?_
      refine lv_aload_n hx hb dX7_inversions_32 rfl (lv_at hl 0 rfl) ?_
      refine lv_iload_n hx hb dX7_inversions_33 rfl (lv_at hl 2 rfl) ?_
      refine lv_iload_n hx hb dX7_inversions_34 rfl (lv_at hl 3 rfl) ?_
      obtain ⟨r5, e3, hm⟩ := sBi_some hm
      refine g_callVI (n := 2) (As := [.int x2, .int x3]) (rest := [.int x1]) sameM X Z (cX7_isInverted_c l e3) oX7 rfl (gooV mB919 mB920 mB921 mB614 mB917) rfl (by decide +kernel) rfl ⟨Nat.le_of_ble_eq_true rfl, Nat.le_of_ble_eq_true rfl⟩ ⟨Nat.le_of_ble_eq_true rfl, Nat.le_of_ble_eq_true rfl⟩ hl.1 rfl (Nat.le_of_ble_eq_true rfl) dX7_inversions_35 (fun w4 H locs Z => ?_)
      refine lv_if_eq (tgt := 45) hx hb dX7_inversions_38 (by decide) (fun c6 => ?_) (fun c6 => ?_)
      · replace hm := (if_pos c6).symm.trans hm
        refine lv_iconst (v := 0) hx hb dX7_inversions_45 (by decide) ?_
        refine lv_iadd hx hb dX7_inversions_46 ?_
        refine lv_istore_n (lv' := [(1, .int (x1 + (0 : Int32))), (0, .ref (G.1 0)), (2, .int x2), (3, .int x3)]) hx hb dX7_inversions_47 rfl hl (by decide) rfl (fun ls hl => ?_)
        refine lv_iinc (v := (x3 + (1 : Int32))) (lv' := [(3, .int (x3 + (1 : Int32))), (1, .int (x1 + (0 : Int32))), (0, .ref (G.1 0)), (2, .int x2)]) hx hb dX7_inversions_48 hl (k := 3) rfl rfl (by decide) rfl (fun ls hl => ?_)
        refine lv_goto (tgt := 21) hx hb dX7_inversions_51 (by decide) ?_
        exact ih g (x1 + (0 : Int32)) x2 (x3 + (1 : Int32)) _ _ _ Z (lv_sub hl [2, 1, 3, 0] rfl) hm
      · replace hm := (if_neg c6).symm.trans hm
        refine lv_iconst (v := 1) hx hb dX7_inversions_41 (by decide) ?_
        refine lv_goto (tgt := 46) hx hb dX7_inversions_42 (by decide) ?_
        refine lv_iadd hx hb dX7_inversions_46 ?_
        refine lv_istore_n (lv' := [(1, .int (x1 + (1 : Int32))), (0, .ref (G.1 0)), (2, .int x2), (3, .int x3)]) hx hb dX7_inversions_47 rfl hl (by decide) rfl (fun ls hl => ?_)
        refine lv_iinc (v := (x3 + (1 : Int32))) (lv' := [(3, .int (x3 + (1 : Int32))), (1, .int (x1 + (1 : Int32))), (0, .ref (G.1 0)), (2, .int x2)]) hx hb dX7_inversions_48 hl (k := 3) rfl rfl (by decide) rfl (fun ls hl => ?_)
        refine lv_goto (tgt := 21) hx hb dX7_inversions_51 (by decide) ?_
        exact ih g (x1 + (1 : Int32)) x2 (x3 + (1 : Int32)) _ _ _ Z (lv_sub hl [2, 1, 3, 0] rfl) hm
set_option maxHeartbeats 4000000 in
set_option maxRecDepth 100000 in
theorem bX7_inversions_9 (X : gC p s m args meth c cX7_inversions 4 wmX7_inversions yX7_inversions.cls (some .int) G A) {n : Nat} {r : Int32 × Mem} (kI : ∀ (pc : Nat) (ls : Array Slot) (H : Heap) (locs : List Loc), decode cX7_inversions pc = .ok (.ireturn, 1) → WS wM G r.2 A s.heap H locs → narrow .int (.int r.1) = .int r.1 → W p l e { frames := 3, cells := 0, slots := 0, locals := 66 } s m args below meth c H locs 0 0 Q (F0 m pc ls [.int r.1])) : ∀ (f : Nat), ∀ (g : Mem) (x1 : Int32) (x2 : Int32) (H : Heap) (locs : List Loc) (ls : Array Slot), WS wM G g A s.heap H locs → lv_has ls 4 [(0, .ref (G.1 0)), (1, .int x1), (2, .int x2)] → sX7_inversions_9 n f g x1 x2 = some r → W p l e { frames := 3, cells := 0, slots := 0, locals := 66 } s m args below meth c H locs 0 0 Q (F0 m 9 ls []) := by
  have hx := X.1
  have hb := X.2.1
  intro f
  induction f with
  | zero =>
    intro g x1 x2 H locs ls Z hl hm
    cases hm
  | succ f ih =>
    intro g x1 x2 H locs ls Z hl hm
    unfold sX7_inversions_9 at hm
    refine lv_iload_n hx hb dX7_inversions_9 rfl (lv_at hl 2 rfl) ?_
    refine lv_aload_n hx hb dX7_inversions_10 rfl (lv_at hl 0 rfl) ?_
    refine g_get (j := 0) (v := .ref (G.1 1)) X Z oX7 (iB7 _) rfl (by decide) rfl (List.mem_cons_of_mem _ mB602) rfl dX7_inversions_11 ?_
    refine lv_iconst (v := 3) hx hb dX7_inversions_14 (by decide) ?_
    obtain ⟨b1, hm⟩ := sIdx_some hm
    refine g_iald X Z aM1 b1 dX7_inversions_15 ?_
    refine lv_icmp_ge (tgt := 60) hx hb dX7_inversions_16 (by decide) (fun c2 => ?_) (fun c2 => ?_)
    · replace hm := (if_pos c2).symm.trans hm
      refine lv_iload_n hx hb dX7_inversions_60 rfl (lv_at hl 1 rfl) ?_
      obtain rfl := Option.some.inj hm
      exact kI _ _ _ _ dX7_inversions_61 Z (vp_nar_int _)
    · replace hm := (if_neg c2).symm.trans hm
      refine lv_iconst (v := 0) hx hb dX7_inversions_19 (by decide) ?_
      refine lv_istore_n (lv' := [(3, .int 0), (0, .ref (G.1 0)), (1, .int x1), (2, .int x2)]) hx hb dX7_inversions_20 rfl hl (by decide) rfl (fun ls hl => ?_)
      exact bX7_inversions_21 X kI ih n g x1 x2 (0 : Int32) _ _ _ Z (lv_sub hl [1, 2, 3, 0] rfl) hm
set_option maxHeartbeats 4000000 in
set_option maxRecDepth 100000 in
theorem bX7_inversions_0 (X : gC p s m args meth c cX7_inversions 4 wmX7_inversions yX7_inversions.cls (some .int) G A) {n : Nat} {r : Int32 × Mem} (kI : ∀ (pc : Nat) (ls : Array Slot) (H : Heap) (locs : List Loc), decode cX7_inversions pc = .ok (.ireturn, 1) → WS wM G r.2 A s.heap H locs → narrow .int (.int r.1) = .int r.1 → W p l e { frames := 3, cells := 0, slots := 0, locals := 66 } s m args below meth c H locs 0 0 Q (F0 m pc ls [.int r.1])) : ∀ (g : Mem) (H : Heap) (locs : List Loc) (ls : Array Slot), WS wM G g A s.heap H locs → lv_has ls 4 [(0, .ref (G.1 0))] → sX7_inversions n g = some r → W p l e { frames := 3, cells := 0, slots := 0, locals := 66 } s m args below meth c H locs 0 0 Q (F0 m 0 ls []) := by
  have hx := X.1
  have hb := X.2.1
  intro g H locs ls Z hl hm
  unfold sX7_inversions at hm
  refine lv_aload_n hx hb dX7_inversions_0 rfl (lv_at hl 0 rfl) ?_
  refine lv_iconst (v := 0) hx hb dX7_inversions_1 (by decide) ?_
  obtain ⟨g1, eg1, hm⟩ := sLet_some hm
  refine g_put (j := 7) eg1 X Z oX7 (iB7 _) rfl tyX7_ok nmX7 (by decide) rfl rfl (Nat.le_of_ble_eq_true rfl) (p7_7 G g (0 : Int32)) rfl (List.mem_cons_of_mem _ mB608) dX7_inversions_2 (fun H locs Z => ?_)
  refine lv_iconst (v := 0) hx hb dX7_inversions_5 (by decide) ?_
  refine lv_istore_n (lv' := [(1, .int 0), (0, .ref (G.1 0))]) hx hb dX7_inversions_6 rfl hl (by decide) rfl (fun ls hl => ?_)
  refine lv_iconst (v := 0) hx hb dX7_inversions_7 (by decide) ?_
  refine lv_istore_n (lv' := [(2, .int 0), (1, .int 0), (0, .ref (G.1 0))]) hx hb dX7_inversions_8 rfl hl (by decide) rfl (fun ls hl => ?_)
  exact bX7_inversions_9 X kI n g1 (0 : Int32) (0 : Int32) _ _ _ Z (lv_sub hl [2, 1, 0] rfl) hm
theorem cX7_inversions_c (l : Launch) {G : LY} {g : Mem} {n : Nat} {r : Int32 × Mem} (hm : sX7_inversions n g = some r) : cI l yX7_inversions wmX7_inversions 3 66 .int wM G [.ref (G.1 0)] g r.1 r.2 :=
  mk_cI sameM (by decide +kernel) rfl (Nat.le_of_ble_eq_true rfl) (fun p e s m args below meth c A Q ls X kI hl Z => bX7_inversions_0 X kI g  _ _ ls Z hl hm)
abbrev wmX7_savedStates : List Cond := Cond.code yX7_savedStates cX7_savedStates 1 (some .int) :: wA0
set_option maxHeartbeats 4000000 in
set_option maxRecDepth 100000 in
theorem bX7_savedStates_0 (X : gC p s m args meth c cX7_savedStates 1 wmX7_savedStates yX7_savedStates.cls (some .int) G A) {r : Int32 × Mem} (kI : ∀ (pc : Nat) (ls : Array Slot) (H : Heap) (locs : List Loc), decode cX7_savedStates pc = .ok (.ireturn, 1) → WS wM G r.2 A s.heap H locs → narrow .int (.int r.1) = .int r.1 → W p l e { frames := 0, cells := 0, slots := 0, locals := 0 } s m args below meth c H locs 0 0 Q (F0 m pc ls [.int r.1])) : ∀ (g : Mem) (H : Heap) (locs : List Loc) (ls : Array Slot), WS wM G g A s.heap H locs → lv_has ls 1 [(0, .ref (G.1 0))] → sX7_savedStates g = some r → W p l e { frames := 0, cells := 0, slots := 0, locals := 0 } s m args below meth c H locs 0 0 Q (F0 m 0 ls []) := by
  have hx := X.1
  have hb := X.2.1
  intro g H locs ls Z hl hm
  unfold sX7_savedStates at hm
  refine lv_aload_n hx hb dX7_savedStates_0 rfl (lv_at hl 0 rfl) ?_
  refine lv_iconst (v := 0) hx hb dX7_savedStates_1 (by decide) ?_
  obtain ⟨g1, eg1, hm⟩ := sLet_some hm
  refine g_put (j := 7) eg1 X Z oX7 (iB7 _) rfl tyX7_ok nmX7 (by decide) rfl rfl (Nat.le_of_ble_eq_true rfl) (p7_7 G g (0 : Int32)) rfl (List.mem_cons_of_mem _ mB608) dX7_savedStates_2 (fun H locs Z => ?_)
  refine lv_aload_n hx hb dX7_savedStates_5 rfl (lv_at hl 0 rfl) ?_
  refine g_get (j := 2) (v := .int (g1 0 2)) X Z oX7 (iB7 _) rfl (by decide) rfl (List.mem_cons_of_mem _ mB619) rfl dX7_savedStates_6 ?_
  obtain rfl := Option.some.inj hm
  exact kI _ _ _ _ dX7_savedStates_9 Z (vp_nar_int _)
theorem cX7_savedStates_c (l : Launch) {G : LY} {g : Mem} {r : Int32 × Mem} (hm : sX7_savedStates g = some r) : cI l yX7_savedStates wmX7_savedStates 0 0 .int wM G [.ref (G.1 0)] g r.1 r.2 :=
  mk_cI sameM (by decide +kernel) rfl (Nat.le_of_ble_eq_true rfl) (fun p e s m args below meth c A Q ls X kI hl Z => bX7_savedStates_0 X kI g  _ _ ls Z hl hm)
abbrev wmX7_textLength : List Cond := Cond.code yX7_textLength cX7_textLength 1 (some .int) :: wA0
set_option maxHeartbeats 4000000 in
set_option maxRecDepth 100000 in
theorem bX7_textLength_0 (X : gC p s m args meth c cX7_textLength 1 wmX7_textLength yX7_textLength.cls (some .int) G A) {r : Int32 × Mem} (kI : ∀ (pc : Nat) (ls : Array Slot) (H : Heap) (locs : List Loc), decode cX7_textLength pc = .ok (.ireturn, 1) → WS wM G r.2 A s.heap H locs → narrow .int (.int r.1) = .int r.1 → W p l e { frames := 0, cells := 0, slots := 0, locals := 0 } s m args below meth c H locs 0 0 Q (F0 m pc ls [.int r.1])) : ∀ (g : Mem) (H : Heap) (locs : List Loc) (ls : Array Slot), WS wM G g A s.heap H locs → lv_has ls 1 [(0, .ref (G.1 0))] → sX7_textLength g = some r → W p l e { frames := 0, cells := 0, slots := 0, locals := 0 } s m args below meth c H locs 0 0 Q (F0 m 0 ls []) := by
  have hx := X.1
  have hb := X.2.1
  intro g H locs ls Z hl hm
  unfold sX7_textLength at hm
  refine lv_aload_n hx hb dX7_textLength_0 rfl (lv_at hl 0 rfl) ?_
  refine lv_iconst (v := 0) hx hb dX7_textLength_1 (by decide) ?_
  obtain ⟨g1, eg1, hm⟩ := sLet_some hm
  refine g_put (j := 7) eg1 X Z oX7 (iB7 _) rfl tyX7_ok nmX7 (by decide) rfl rfl (Nat.le_of_ble_eq_true rfl) (p7_7 G g (0 : Int32)) rfl (List.mem_cons_of_mem _ mB608) dX7_textLength_2 (fun H locs Z => ?_)
  refine lv_aload_n hx hb dX7_textLength_5 rfl (lv_at hl 0 rfl) ?_
  refine g_get (j := 6) (v := .int (g1 0 6)) X Z oX7 (iB7 _) rfl (by decide) rfl (List.mem_cons_of_mem _ mB803) rfl dX7_textLength_6 ?_
  obtain rfl := Option.some.inj hm
  exact kI _ _ _ _ dX7_textLength_9 Z (vp_nar_int _)
theorem cX7_textLength_c (l : Launch) {G : LY} {g : Mem} {r : Int32 × Mem} (hm : sX7_textLength g = some r) : cI l yX7_textLength wmX7_textLength 0 0 .int wM G [.ref (G.1 0)] g r.1 r.2 :=
  mk_cI sameM (by decide +kernel) rfl (Nat.le_of_ble_eq_true rfl) (fun p e s m args below meth c A Q ls X kI hl Z => bX7_textLength_0 X kI g  _ _ ls Z hl hm)
end GW
