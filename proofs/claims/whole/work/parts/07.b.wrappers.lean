section GW
variable {p : Program} {l : Launch} {e : Env} {s : State} {m : MethodId} {args : Array Value} {below : List Frame} {meth : Method} {c : Code} {Q : State → Prop} {G : LY} {A : Nat → Prop} {ret : Option FieldType}
abbrev wmL_begin : List Cond := Cond.codeWith yL_begin cL_begin 4 (some .int) [(0, 9, 12, 13), (0, 9, 15, 15)] :: wA0
set_option maxHeartbeats 4000000 in
set_option maxRecDepth 100000 in
theorem wL_begin_0 (l : Launch) (hst : l.stackTraces = false) {G : LY} {gc : Mem} {ov : Nat → Int64} {n : Nat} {x1 : Int32} {r : Nat × Int32 × Mem} (hm : sX6_begin n gc x1 = some r) (h0 : r.1 = 0) : cLw l yL_begin wmL_begin 8 134 2 12 G [.ref (G.1 160), .int x1, .ref (G.1 170)] (wC G gc ++ [oE G ov]) (wC G r.2.2 ++ [oE G (vp_updL ov (0 : Int32).toNatClampNeg r.2.1.toInt64)]) 0 := by
  refine mk_cLw (by decide +kernel) rfl (Nat.le_of_ble_eq_true rfl) (fun p e s m args below meth c A Q ls X ht kI hl Z => ?_)
  have hx := X.1
  have hb := X.2.1
  refine lv_aload_n hx hb dL_begin_0 rfl (lv_at hl 2 rfl) ?_
  refine lv_iconst (v := 0) hx hb dL_begin_1 (by decide) ?_
  refine lv_aload_n hx hb dL_begin_2 rfl (lv_at hl 0 rfl) ?_
  refine lv_iload_n hx hb dL_begin_3 rfl (lv_at hl 1 rfl) ?_
  refine l_callX (n := 1) (a := []) (As := [.int x1]) (rest := [.int 0, .ref (G.1 170)]) (c1 := 2) (s1 := 12) sameC adC (sG_r G) X Z (cX6_begin_c l hst hm) (oX6 k160) rfl (gooV mB928 mB929 mB930 mB409 mB419) rfl (by decide +kernel) rfl ⟨Nat.le_of_ble_eq_true rfl, Nat.le_of_ble_eq_true rfl⟩ rfl rfl ⟨Nat.le_of_ble_eq_true rfl, Nat.le_of_ble_eq_true rfl⟩ hl.1 rfl (Nat.le_of_ble_eq_true rfl) dL_begin_4 (fun hec H locs q9 ce Z hce hcv hcl => ?_) (fun hec w9 H locs Z => ?_)
  · exact absurd h0 hec
  refine lv_i2l hx hb dL_begin_7 rfl ?_
  refine l_last rfl X Z dL_begin_8 (fun H locs Z => ?_)
  refine lv_goto (tgt := 18) hx hb dL_begin_9 (by decide) ?_
  refine lv_iconst (v := nI 0) hx hb dL_begin_18 (by decide) ?_
  exact kI _ _ _ _ _ _ (Nat.le_of_ble_eq_true rfl) (Nat.le_of_ble_eq_true rfl) dL_begin_19 Z
set_option maxHeartbeats 4000000 in
set_option maxRecDepth 100000 in
theorem wL_begin_1 (l : Launch) (hst : l.stackTraces = false) {G : LY} {gc : Mem} {ov : Nat → Int64} {n : Nat} {x1 : Int32} {r : Nat × Int32 × Mem} (hm : sX6_begin n gc x1 = some r) (hj : r.1 = 1) : cLw l yL_begin wmL_begin 8 134 2 12 G [.ref (G.1 160), .int x1, .ref (G.1 170)] (wC G gc ++ [oE G ov]) (wC G r.2.2 ++ [oE G ov]) 1 := by
  refine mk_cLw (by decide +kernel) rfl (Nat.le_of_ble_eq_true rfl) (fun p e s m args below meth c A Q ls X ht kI hl Z => ?_)
  have hx := X.1
  have hb := X.2.1
  refine lv_aload_n hx hb dL_begin_0 rfl (lv_at hl 2 rfl) ?_
  refine lv_iconst (v := 0) hx hb dL_begin_1 (by decide) ?_
  refine lv_aload_n hx hb dL_begin_2 rfl (lv_at hl 0 rfl) ?_
  refine lv_iload_n hx hb dL_begin_3 rfl (lv_at hl 1 rfl) ?_
  refine l_callX (n := 1) (a := []) (As := [.int x1]) (rest := [.int 0, .ref (G.1 170)]) (c1 := 2) (s1 := 12) sameC adC (sG_r G) X Z (cX6_begin_c l hst hm) (oX6 k160) rfl (gooV mB928 mB929 mB930 mB409 mB419) rfl (by decide +kernel) rfl ⟨Nat.le_of_ble_eq_true rfl, Nat.le_of_ble_eq_true rfl⟩ rfl rfl ⟨Nat.le_of_ble_eq_true rfl, Nat.le_of_ble_eq_true rfl⟩ hl.1 rfl (Nat.le_of_ble_eq_true rfl) dL_begin_4 (fun hec H locs q9 ce Z hce hcv hcl => ?_) (fun hec w9 H locs Z => ?_)
  · rw [hj] at hcl
    refine l_catch (pre := []) (suf := [(0, 9, 15, 15)]) (x := (0, 9, 12, 13)) (ec := 1) (pcx := 12) X Z.2.2 ht rfl (fun _ h => absurd h List.not_mem_nil) (by decide) (by decide) (List.mem_cons_of_mem _ mB926) (by decide) hce hcv hcl rfl ?_
    refine lv_astore_n (lv' := [(3, .ref q9), (0, .ref (G.1 160)), (1, .int x1), (2, .ref (G.1 170))]) hx hb dL_begin_12 rfl hl (by decide) rfl (fun ls hl => ?_)
    refine lv_iconst (v := nI 1) hx hb dL_begin_13 (by decide) ?_
    exact kI _ _ _ _ _ _ (Nat.le_of_ble_eq_true rfl) (Nat.le_of_ble_eq_true rfl) dL_begin_14 Z
  · rw [hj] at hec
    exact absurd hec (by decide)
set_option maxHeartbeats 4000000 in
set_option maxRecDepth 100000 in
theorem wL_begin_2 (l : Launch) (hst : l.stackTraces = false) {G : LY} {gc : Mem} {ov : Nat → Int64} {n : Nat} {x1 : Int32} {r : Nat × Int32 × Mem} (hm : sX6_begin n gc x1 = some r) (hj : r.1 = 3) : cLw l yL_begin wmL_begin 8 134 2 12 G [.ref (G.1 160), .int x1, .ref (G.1 170)] (wC G gc ++ [oE G ov]) (wC G r.2.2 ++ [oE G ov]) 2 := by
  refine mk_cLw (by decide +kernel) rfl (Nat.le_of_ble_eq_true rfl) (fun p e s m args below meth c A Q ls X ht kI hl Z => ?_)
  have hx := X.1
  have hb := X.2.1
  refine lv_aload_n hx hb dL_begin_0 rfl (lv_at hl 2 rfl) ?_
  refine lv_iconst (v := 0) hx hb dL_begin_1 (by decide) ?_
  refine lv_aload_n hx hb dL_begin_2 rfl (lv_at hl 0 rfl) ?_
  refine lv_iload_n hx hb dL_begin_3 rfl (lv_at hl 1 rfl) ?_
  refine l_callX (n := 1) (a := []) (As := [.int x1]) (rest := [.int 0, .ref (G.1 170)]) (c1 := 2) (s1 := 12) sameC adC (sG_r G) X Z (cX6_begin_c l hst hm) (oX6 k160) rfl (gooV mB928 mB929 mB930 mB409 mB419) rfl (by decide +kernel) rfl ⟨Nat.le_of_ble_eq_true rfl, Nat.le_of_ble_eq_true rfl⟩ rfl rfl ⟨Nat.le_of_ble_eq_true rfl, Nat.le_of_ble_eq_true rfl⟩ hl.1 rfl (Nat.le_of_ble_eq_true rfl) dL_begin_4 (fun hec H locs q9 ce Z hce hcv hcl => ?_) (fun hec w9 H locs Z => ?_)
  · rw [hj] at hcl
    refine l_catch (pre := [(0, 9, 12, 13)]) (suf := []) (x := (0, 9, 15, 15)) (ec := 3) (pcx := 15) X Z.2.2 ht rfl (List.forall_mem_cons.mpr ⟨⟨by decide, "java/lang/IndexOutOfBoundsException", List.mem_cons_of_mem _ mB926, by decide⟩, (fun _ h => absurd h List.not_mem_nil)⟩) (by decide) (by decide) (List.mem_cons_of_mem _ mB927) (by decide) hce hcv hcl rfl ?_
    refine lv_astore_n (lv' := [(3, .ref q9), (0, .ref (G.1 160)), (1, .int x1), (2, .ref (G.1 170))]) hx hb dL_begin_15 rfl hl (by decide) rfl (fun ls hl => ?_)
    refine lv_iconst (v := nI 2) hx hb dL_begin_16 (by decide) ?_
    exact kI _ _ _ _ _ _ (Nat.le_of_ble_eq_true rfl) (Nat.le_of_ble_eq_true rfl) dL_begin_17 Z
  · rw [hj] at hec
    exact absurd hec (by decide)
abbrev wmL_read : List Cond := Cond.codeWith yL_read cL_read 5 (some .int) [(0, 10, 13, 13), (0, 10, 17, 15)] :: wA0
set_option maxHeartbeats 4000000 in
set_option maxRecDepth 100000 in
theorem wL_read_0 (l : Launch) (hst : l.stackTraces = false) {G : LY} {gc : Mem} {ov : Nat → Int64} {n : Nat} {x1 : Int32} {x2 : Int32} {r : Nat × Int32 × Mem} (hm : sX6_read n gc x1 x2 = some r) (h0 : r.1 = 0) : cLw l yL_read wmL_read 8 135 3 18 G [.ref (G.1 160), .int x1, .int x2, .ref (G.1 170)] (wC G gc ++ [oE G ov]) (wC G r.2.2 ++ [oE G (vp_updL ov (0 : Int32).toNatClampNeg r.2.1.toInt64)]) 0 := by
  refine mk_cLw (by decide +kernel) rfl (Nat.le_of_ble_eq_true rfl) (fun p e s m args below meth c A Q ls X ht kI hl Z => ?_)
  have hx := X.1
  have hb := X.2.1
  refine lv_aload_n hx hb dL_read_0 rfl (lv_at hl 3 rfl) ?_
  refine lv_iconst (v := 0) hx hb dL_read_1 (by decide) ?_
  refine lv_aload_n hx hb dL_read_2 rfl (lv_at hl 0 rfl) ?_
  refine lv_iload_n hx hb dL_read_3 rfl (lv_at hl 1 rfl) ?_
  refine lv_iload_n hx hb dL_read_4 rfl (lv_at hl 2 rfl) ?_
  refine l_callX (n := 2) (a := []) (As := [.int x1, .int x2]) (rest := [.int 0, .ref (G.1 170)]) (c1 := 3) (s1 := 18) sameC adC (sG_r G) X Z (cX6_read_c l hst hm) (oX6 k160) rfl (gooV mB932 mB933 mB934 mB409 mB440) rfl (by decide +kernel) rfl ⟨Nat.le_of_ble_eq_true rfl, Nat.le_of_ble_eq_true rfl⟩ rfl rfl ⟨Nat.le_of_ble_eq_true rfl, Nat.le_of_ble_eq_true rfl⟩ hl.1 rfl (Nat.le_of_ble_eq_true rfl) dL_read_5 (fun hec H locs q9 ce Z hce hcv hcl => ?_) (fun hec w9 H locs Z => ?_)
  · exact absurd h0 hec
  refine lv_i2l hx hb dL_read_8 rfl ?_
  refine l_last rfl X Z dL_read_9 (fun H locs Z => ?_)
  refine lv_goto (tgt := 21) hx hb dL_read_10 (by decide) ?_
  refine lv_iconst (v := nI 0) hx hb dL_read_21 (by decide) ?_
  exact kI _ _ _ _ _ _ (Nat.le_of_ble_eq_true rfl) (Nat.le_of_ble_eq_true rfl) dL_read_22 Z
set_option maxHeartbeats 4000000 in
set_option maxRecDepth 100000 in
theorem wL_read_1 (l : Launch) (hst : l.stackTraces = false) {G : LY} {gc : Mem} {ov : Nat → Int64} {n : Nat} {x1 : Int32} {x2 : Int32} {r : Nat × Int32 × Mem} (hm : sX6_read n gc x1 x2 = some r) (hj : r.1 = 1) : cLw l yL_read wmL_read 8 135 3 18 G [.ref (G.1 160), .int x1, .int x2, .ref (G.1 170)] (wC G gc ++ [oE G ov]) (wC G r.2.2 ++ [oE G ov]) 1 := by
  refine mk_cLw (by decide +kernel) rfl (Nat.le_of_ble_eq_true rfl) (fun p e s m args below meth c A Q ls X ht kI hl Z => ?_)
  have hx := X.1
  have hb := X.2.1
  refine lv_aload_n hx hb dL_read_0 rfl (lv_at hl 3 rfl) ?_
  refine lv_iconst (v := 0) hx hb dL_read_1 (by decide) ?_
  refine lv_aload_n hx hb dL_read_2 rfl (lv_at hl 0 rfl) ?_
  refine lv_iload_n hx hb dL_read_3 rfl (lv_at hl 1 rfl) ?_
  refine lv_iload_n hx hb dL_read_4 rfl (lv_at hl 2 rfl) ?_
  refine l_callX (n := 2) (a := []) (As := [.int x1, .int x2]) (rest := [.int 0, .ref (G.1 170)]) (c1 := 3) (s1 := 18) sameC adC (sG_r G) X Z (cX6_read_c l hst hm) (oX6 k160) rfl (gooV mB932 mB933 mB934 mB409 mB440) rfl (by decide +kernel) rfl ⟨Nat.le_of_ble_eq_true rfl, Nat.le_of_ble_eq_true rfl⟩ rfl rfl ⟨Nat.le_of_ble_eq_true rfl, Nat.le_of_ble_eq_true rfl⟩ hl.1 rfl (Nat.le_of_ble_eq_true rfl) dL_read_5 (fun hec H locs q9 ce Z hce hcv hcl => ?_) (fun hec w9 H locs Z => ?_)
  · rw [hj] at hcl
    refine l_catch (pre := []) (suf := [(0, 10, 17, 15)]) (x := (0, 10, 13, 13)) (ec := 1) (pcx := 13) X Z.2.2 ht rfl (fun _ h => absurd h List.not_mem_nil) (by decide) (by decide) (List.mem_cons_of_mem _ mB926) (by decide) hce hcv hcl rfl ?_
    refine lv_astore (lv' := [(4, .ref q9), (0, .ref (G.1 160)), (1, .int x1), (2, .int x2), (3, .ref (G.1 170))]) hx hb dL_read_13 hl (by decide) rfl (fun ls hl => ?_)
    refine lv_iconst (v := nI 1) hx hb dL_read_15 (by decide) ?_
    exact kI _ _ _ _ _ _ (Nat.le_of_ble_eq_true rfl) (Nat.le_of_ble_eq_true rfl) dL_read_16 Z
  · rw [hj] at hec
    exact absurd hec (by decide)
set_option maxHeartbeats 4000000 in
set_option maxRecDepth 100000 in
theorem wL_read_2 (l : Launch) (hst : l.stackTraces = false) {G : LY} {gc : Mem} {ov : Nat → Int64} {n : Nat} {x1 : Int32} {x2 : Int32} {r : Nat × Int32 × Mem} (hm : sX6_read n gc x1 x2 = some r) (hj : r.1 = 3) : cLw l yL_read wmL_read 8 135 3 18 G [.ref (G.1 160), .int x1, .int x2, .ref (G.1 170)] (wC G gc ++ [oE G ov]) (wC G r.2.2 ++ [oE G ov]) 2 := by
  refine mk_cLw (by decide +kernel) rfl (Nat.le_of_ble_eq_true rfl) (fun p e s m args below meth c A Q ls X ht kI hl Z => ?_)
  have hx := X.1
  have hb := X.2.1
  refine lv_aload_n hx hb dL_read_0 rfl (lv_at hl 3 rfl) ?_
  refine lv_iconst (v := 0) hx hb dL_read_1 (by decide) ?_
  refine lv_aload_n hx hb dL_read_2 rfl (lv_at hl 0 rfl) ?_
  refine lv_iload_n hx hb dL_read_3 rfl (lv_at hl 1 rfl) ?_
  refine lv_iload_n hx hb dL_read_4 rfl (lv_at hl 2 rfl) ?_
  refine l_callX (n := 2) (a := []) (As := [.int x1, .int x2]) (rest := [.int 0, .ref (G.1 170)]) (c1 := 3) (s1 := 18) sameC adC (sG_r G) X Z (cX6_read_c l hst hm) (oX6 k160) rfl (gooV mB932 mB933 mB934 mB409 mB440) rfl (by decide +kernel) rfl ⟨Nat.le_of_ble_eq_true rfl, Nat.le_of_ble_eq_true rfl⟩ rfl rfl ⟨Nat.le_of_ble_eq_true rfl, Nat.le_of_ble_eq_true rfl⟩ hl.1 rfl (Nat.le_of_ble_eq_true rfl) dL_read_5 (fun hec H locs q9 ce Z hce hcv hcl => ?_) (fun hec w9 H locs Z => ?_)
  · rw [hj] at hcl
    refine l_catch (pre := [(0, 10, 13, 13)]) (suf := []) (x := (0, 10, 17, 15)) (ec := 3) (pcx := 17) X Z.2.2 ht rfl (List.forall_mem_cons.mpr ⟨⟨by decide, "java/lang/IndexOutOfBoundsException", List.mem_cons_of_mem _ mB926, by decide⟩, (fun _ h => absurd h List.not_mem_nil)⟩) (by decide) (by decide) (List.mem_cons_of_mem _ mB927) (by decide) hce hcv hcl rfl ?_
    refine lv_astore (lv' := [(4, .ref q9), (0, .ref (G.1 160)), (1, .int x1), (2, .int x2), (3, .ref (G.1 170))]) hx hb dL_read_17 hl (by decide) rfl (fun ls hl => ?_)
    refine lv_iconst (v := nI 2) hx hb dL_read_19 (by decide) ?_
    exact kI _ _ _ _ _ _ (Nat.le_of_ble_eq_true rfl) (Nat.le_of_ble_eq_true rfl) dL_read_20 Z
  · rw [hj] at hec
    exact absurd hec (by decide)
abbrev wmL_write : List Cond := Cond.codeWith yL_write cL_write 6 (some .int) [(0, 12, 15, 13), (0, 12, 19, 25), (0, 12, 23, 15)] :: wA0
set_option maxHeartbeats 4000000 in
set_option maxRecDepth 100000 in
theorem wL_write_0 (l : Launch) (hst : l.stackTraces = false) {G : LY} {gc : Mem} {ov : Nat → Int64} {n : Nat} {x1 : Int32} {x2 : Int32} {x3 : Int32} {r : Nat × Int32 × Mem} (hm : sX6_write n gc x1 x2 x3 = some r) (h0 : r.1 = 0) : cLw l yL_write wmL_write 8 136 4 24 G [.ref (G.1 160), .int x1, .int x2, .int x3, .ref (G.1 170)] (wC G gc ++ [oE G ov]) (wC G r.2.2 ++ [oE G (vp_updL ov (0 : Int32).toNatClampNeg r.2.1.toInt64)]) 0 := by
  refine mk_cLw (by decide +kernel) rfl (Nat.le_of_ble_eq_true rfl) (fun p e s m args below meth c A Q ls X ht kI hl Z => ?_)
  have hx := X.1
  have hb := X.2.1
  refine lv_aload hx hb dL_write_0 (lv_at hl 4 rfl) ?_
  refine lv_iconst (v := 0) hx hb dL_write_2 (by decide) ?_
  refine lv_aload_n hx hb dL_write_3 rfl (lv_at hl 0 rfl) ?_
  refine lv_iload_n hx hb dL_write_4 rfl (lv_at hl 1 rfl) ?_
  refine lv_iload_n hx hb dL_write_5 rfl (lv_at hl 2 rfl) ?_
  refine lv_iload_n hx hb dL_write_6 rfl (lv_at hl 3 rfl) ?_
  refine l_callX (n := 3) (a := []) (As := [.int x1, .int x2, .int x3]) (rest := [.int 0, .ref (G.1 170)]) (c1 := 4) (s1 := 24) sameC adC (sG_r G) X Z (cX6_write_c l hst hm) (oX6 k160) rfl (gooV mB937 mB938 mB939 mB409 mB450) rfl (by decide +kernel) rfl ⟨Nat.le_of_ble_eq_true rfl, Nat.le_of_ble_eq_true rfl⟩ rfl rfl ⟨Nat.le_of_ble_eq_true rfl, Nat.le_of_ble_eq_true rfl⟩ hl.1 rfl (Nat.le_of_ble_eq_true rfl) dL_write_7 (fun hec H locs q9 ce Z hce hcv hcl => ?_) (fun hec w9 H locs Z => ?_)
  · exact absurd h0 hec
  refine lv_i2l hx hb dL_write_10 rfl ?_
  refine l_last rfl X Z dL_write_11 (fun H locs Z => ?_)
  refine lv_goto (tgt := 27) hx hb dL_write_12 (by decide) ?_
  refine lv_iconst (v := nI 0) hx hb dL_write_27 (by decide) ?_
  exact kI _ _ _ _ _ _ (Nat.le_of_ble_eq_true rfl) (Nat.le_of_ble_eq_true rfl) dL_write_28 Z
set_option maxHeartbeats 4000000 in
set_option maxRecDepth 100000 in
theorem wL_write_1 (l : Launch) (hst : l.stackTraces = false) {G : LY} {gc : Mem} {ov : Nat → Int64} {n : Nat} {x1 : Int32} {x2 : Int32} {x3 : Int32} {r : Nat × Int32 × Mem} (hm : sX6_write n gc x1 x2 x3 = some r) (hj : r.1 = 1) : cLw l yL_write wmL_write 8 136 4 24 G [.ref (G.1 160), .int x1, .int x2, .int x3, .ref (G.1 170)] (wC G gc ++ [oE G ov]) (wC G r.2.2 ++ [oE G ov]) 1 := by
  refine mk_cLw (by decide +kernel) rfl (Nat.le_of_ble_eq_true rfl) (fun p e s m args below meth c A Q ls X ht kI hl Z => ?_)
  have hx := X.1
  have hb := X.2.1
  refine lv_aload hx hb dL_write_0 (lv_at hl 4 rfl) ?_
  refine lv_iconst (v := 0) hx hb dL_write_2 (by decide) ?_
  refine lv_aload_n hx hb dL_write_3 rfl (lv_at hl 0 rfl) ?_
  refine lv_iload_n hx hb dL_write_4 rfl (lv_at hl 1 rfl) ?_
  refine lv_iload_n hx hb dL_write_5 rfl (lv_at hl 2 rfl) ?_
  refine lv_iload_n hx hb dL_write_6 rfl (lv_at hl 3 rfl) ?_
  refine l_callX (n := 3) (a := []) (As := [.int x1, .int x2, .int x3]) (rest := [.int 0, .ref (G.1 170)]) (c1 := 4) (s1 := 24) sameC adC (sG_r G) X Z (cX6_write_c l hst hm) (oX6 k160) rfl (gooV mB937 mB938 mB939 mB409 mB450) rfl (by decide +kernel) rfl ⟨Nat.le_of_ble_eq_true rfl, Nat.le_of_ble_eq_true rfl⟩ rfl rfl ⟨Nat.le_of_ble_eq_true rfl, Nat.le_of_ble_eq_true rfl⟩ hl.1 rfl (Nat.le_of_ble_eq_true rfl) dL_write_7 (fun hec H locs q9 ce Z hce hcv hcl => ?_) (fun hec w9 H locs Z => ?_)
  · rw [hj] at hcl
    refine l_catch (pre := []) (suf := [(0, 12, 19, 25), (0, 12, 23, 15)]) (x := (0, 12, 15, 13)) (ec := 1) (pcx := 15) X Z.2.2 ht rfl (fun _ h => absurd h List.not_mem_nil) (by decide) (by decide) (List.mem_cons_of_mem _ mB926) (by decide) hce hcv hcl rfl ?_
    refine lv_astore (lv' := [(5, .ref q9), (0, .ref (G.1 160)), (1, .int x1), (2, .int x2), (3, .int x3), (4, .ref (G.1 170))]) hx hb dL_write_15 hl (by decide) rfl (fun ls hl => ?_)
    refine lv_iconst (v := nI 1) hx hb dL_write_17 (by decide) ?_
    exact kI _ _ _ _ _ _ (Nat.le_of_ble_eq_true rfl) (Nat.le_of_ble_eq_true rfl) dL_write_18 Z
  · rw [hj] at hec
    exact absurd hec (by decide)
set_option maxHeartbeats 4000000 in
set_option maxRecDepth 100000 in
theorem wL_write_2 (l : Launch) (hst : l.stackTraces = false) {G : LY} {gc : Mem} {ov : Nat → Int64} {n : Nat} {x1 : Int32} {x2 : Int32} {x3 : Int32} {r : Nat × Int32 × Mem} (hm : sX6_write n gc x1 x2 x3 = some r) (hj : r.1 = 2) : cLw l yL_write wmL_write 8 136 4 24 G [.ref (G.1 160), .int x1, .int x2, .int x3, .ref (G.1 170)] (wC G gc ++ [oE G ov]) (wC G r.2.2 ++ [oE G ov]) 2 := by
  refine mk_cLw (by decide +kernel) rfl (Nat.le_of_ble_eq_true rfl) (fun p e s m args below meth c A Q ls X ht kI hl Z => ?_)
  have hx := X.1
  have hb := X.2.1
  refine lv_aload hx hb dL_write_0 (lv_at hl 4 rfl) ?_
  refine lv_iconst (v := 0) hx hb dL_write_2 (by decide) ?_
  refine lv_aload_n hx hb dL_write_3 rfl (lv_at hl 0 rfl) ?_
  refine lv_iload_n hx hb dL_write_4 rfl (lv_at hl 1 rfl) ?_
  refine lv_iload_n hx hb dL_write_5 rfl (lv_at hl 2 rfl) ?_
  refine lv_iload_n hx hb dL_write_6 rfl (lv_at hl 3 rfl) ?_
  refine l_callX (n := 3) (a := []) (As := [.int x1, .int x2, .int x3]) (rest := [.int 0, .ref (G.1 170)]) (c1 := 4) (s1 := 24) sameC adC (sG_r G) X Z (cX6_write_c l hst hm) (oX6 k160) rfl (gooV mB937 mB938 mB939 mB409 mB450) rfl (by decide +kernel) rfl ⟨Nat.le_of_ble_eq_true rfl, Nat.le_of_ble_eq_true rfl⟩ rfl rfl ⟨Nat.le_of_ble_eq_true rfl, Nat.le_of_ble_eq_true rfl⟩ hl.1 rfl (Nat.le_of_ble_eq_true rfl) dL_write_7 (fun hec H locs q9 ce Z hce hcv hcl => ?_) (fun hec w9 H locs Z => ?_)
  · rw [hj] at hcl
    refine l_catch (pre := [(0, 12, 15, 13)]) (suf := [(0, 12, 23, 15)]) (x := (0, 12, 19, 25)) (ec := 2) (pcx := 19) X Z.2.2 ht rfl (List.forall_mem_cons.mpr ⟨⟨by decide, "java/lang/IndexOutOfBoundsException", List.mem_cons_of_mem _ mB926, by decide⟩, (fun _ h => absurd h List.not_mem_nil)⟩) (by decide) (by decide) (List.mem_cons_of_mem _ mB936) (by decide) hce hcv hcl rfl ?_
    refine lv_astore (lv' := [(5, .ref q9), (0, .ref (G.1 160)), (1, .int x1), (2, .int x2), (3, .int x3), (4, .ref (G.1 170))]) hx hb dL_write_19 hl (by decide) rfl (fun ls hl => ?_)
    refine lv_iconst (v := nI 2) hx hb dL_write_21 (by decide) ?_
    exact kI _ _ _ _ _ _ (Nat.le_of_ble_eq_true rfl) (Nat.le_of_ble_eq_true rfl) dL_write_22 Z
  · rw [hj] at hec
    exact absurd hec (by decide)
set_option maxHeartbeats 4000000 in
set_option maxRecDepth 100000 in
theorem wL_write_3 (l : Launch) (hst : l.stackTraces = false) {G : LY} {gc : Mem} {ov : Nat → Int64} {n : Nat} {x1 : Int32} {x2 : Int32} {x3 : Int32} {r : Nat × Int32 × Mem} (hm : sX6_write n gc x1 x2 x3 = some r) (hj : r.1 = 3) : cLw l yL_write wmL_write 8 136 4 24 G [.ref (G.1 160), .int x1, .int x2, .int x3, .ref (G.1 170)] (wC G gc ++ [oE G ov]) (wC G r.2.2 ++ [oE G ov]) 3 := by
  refine mk_cLw (by decide +kernel) rfl (Nat.le_of_ble_eq_true rfl) (fun p e s m args below meth c A Q ls X ht kI hl Z => ?_)
  have hx := X.1
  have hb := X.2.1
  refine lv_aload hx hb dL_write_0 (lv_at hl 4 rfl) ?_
  refine lv_iconst (v := 0) hx hb dL_write_2 (by decide) ?_
  refine lv_aload_n hx hb dL_write_3 rfl (lv_at hl 0 rfl) ?_
  refine lv_iload_n hx hb dL_write_4 rfl (lv_at hl 1 rfl) ?_
  refine lv_iload_n hx hb dL_write_5 rfl (lv_at hl 2 rfl) ?_
  refine lv_iload_n hx hb dL_write_6 rfl (lv_at hl 3 rfl) ?_
  refine l_callX (n := 3) (a := []) (As := [.int x1, .int x2, .int x3]) (rest := [.int 0, .ref (G.1 170)]) (c1 := 4) (s1 := 24) sameC adC (sG_r G) X Z (cX6_write_c l hst hm) (oX6 k160) rfl (gooV mB937 mB938 mB939 mB409 mB450) rfl (by decide +kernel) rfl ⟨Nat.le_of_ble_eq_true rfl, Nat.le_of_ble_eq_true rfl⟩ rfl rfl ⟨Nat.le_of_ble_eq_true rfl, Nat.le_of_ble_eq_true rfl⟩ hl.1 rfl (Nat.le_of_ble_eq_true rfl) dL_write_7 (fun hec H locs q9 ce Z hce hcv hcl => ?_) (fun hec w9 H locs Z => ?_)
  · rw [hj] at hcl
    refine l_catch (pre := [(0, 12, 15, 13), (0, 12, 19, 25)]) (suf := []) (x := (0, 12, 23, 15)) (ec := 3) (pcx := 23) X Z.2.2 ht rfl (List.forall_mem_cons.mpr ⟨⟨by decide, "java/lang/IndexOutOfBoundsException", List.mem_cons_of_mem _ mB926, by decide⟩, (List.forall_mem_cons.mpr ⟨⟨by decide, "java/lang/IllegalArgumentException", List.mem_cons_of_mem _ mB936, by decide⟩, (fun _ h => absurd h List.not_mem_nil)⟩)⟩) (by decide) (by decide) (List.mem_cons_of_mem _ mB927) (by decide) hce hcv hcl rfl ?_
    refine lv_astore (lv' := [(5, .ref q9), (0, .ref (G.1 160)), (1, .int x1), (2, .int x2), (3, .int x3), (4, .ref (G.1 170))]) hx hb dL_write_23 hl (by decide) rfl (fun ls hl => ?_)
    refine lv_iconst (v := nI 3) hx hb dL_write_25 (by decide) ?_
    exact kI _ _ _ _ _ _ (Nat.le_of_ble_eq_true rfl) (Nat.le_of_ble_eq_true rfl) dL_write_26 Z
  · rw [hj] at hec
    exact absurd hec (by decide)
abbrev wmL_commit : List Cond := Cond.codeWith yL_commit cL_commit 4 (some .int) [(0, 9, 12, 13), (0, 9, 15, 15)] :: wA0
set_option maxHeartbeats 4000000 in
set_option maxRecDepth 100000 in
theorem wL_commit_0 (l : Launch) (hst : l.stackTraces = false) {G : LY} {gc : Mem} {ov : Nat → Int64} {n : Nat} {x1 : Int32} {r : Nat × Int32 × Mem} (hm : sX6_commit n gc x1 = some r) (h0 : r.1 = 0) : cLw l yL_commit wmL_commit 8 135 2 12 G [.ref (G.1 160), .int x1, .ref (G.1 170)] (wC G gc ++ [oE G ov]) (wC G r.2.2 ++ [oE G (vp_updL ov (0 : Int32).toNatClampNeg r.2.1.toInt64)]) 0 := by
  refine mk_cLw (by decide +kernel) rfl (Nat.le_of_ble_eq_true rfl) (fun p e s m args below meth c A Q ls X ht kI hl Z => ?_)
  have hx := X.1
  have hb := X.2.1
  refine lv_aload_n hx hb dL_commit_0 rfl (lv_at hl 2 rfl) ?_
  refine lv_iconst (v := 0) hx hb dL_commit_1 (by decide) ?_
  refine lv_aload_n hx hb dL_commit_2 rfl (lv_at hl 0 rfl) ?_
  refine lv_iload_n hx hb dL_commit_3 rfl (lv_at hl 1 rfl) ?_
  refine l_callX (n := 1) (a := []) (As := [.int x1]) (rest := [.int 0, .ref (G.1 170)]) (c1 := 2) (s1 := 12) sameC adC (sG_r G) X Z (cX6_commit_c l hst hm) (oX6 k160) rfl (gooV mB941 mB942 mB943 mB409 mB457) rfl (by decide +kernel) rfl ⟨Nat.le_of_ble_eq_true rfl, Nat.le_of_ble_eq_true rfl⟩ rfl rfl ⟨Nat.le_of_ble_eq_true rfl, Nat.le_of_ble_eq_true rfl⟩ hl.1 rfl (Nat.le_of_ble_eq_true rfl) dL_commit_4 (fun hec H locs q9 ce Z hce hcv hcl => ?_) (fun hec w9 H locs Z => ?_)
  · exact absurd h0 hec
  refine lv_i2l hx hb dL_commit_7 rfl ?_
  refine l_last rfl X Z dL_commit_8 (fun H locs Z => ?_)
  refine lv_goto (tgt := 18) hx hb dL_commit_9 (by decide) ?_
  refine lv_iconst (v := nI 0) hx hb dL_commit_18 (by decide) ?_
  exact kI _ _ _ _ _ _ (Nat.le_of_ble_eq_true rfl) (Nat.le_of_ble_eq_true rfl) dL_commit_19 Z
set_option maxHeartbeats 4000000 in
set_option maxRecDepth 100000 in
theorem wL_commit_1 (l : Launch) (hst : l.stackTraces = false) {G : LY} {gc : Mem} {ov : Nat → Int64} {n : Nat} {x1 : Int32} {r : Nat × Int32 × Mem} (hm : sX6_commit n gc x1 = some r) (hj : r.1 = 1) : cLw l yL_commit wmL_commit 8 135 2 12 G [.ref (G.1 160), .int x1, .ref (G.1 170)] (wC G gc ++ [oE G ov]) (wC G r.2.2 ++ [oE G ov]) 1 := by
  refine mk_cLw (by decide +kernel) rfl (Nat.le_of_ble_eq_true rfl) (fun p e s m args below meth c A Q ls X ht kI hl Z => ?_)
  have hx := X.1
  have hb := X.2.1
  refine lv_aload_n hx hb dL_commit_0 rfl (lv_at hl 2 rfl) ?_
  refine lv_iconst (v := 0) hx hb dL_commit_1 (by decide) ?_
  refine lv_aload_n hx hb dL_commit_2 rfl (lv_at hl 0 rfl) ?_
  refine lv_iload_n hx hb dL_commit_3 rfl (lv_at hl 1 rfl) ?_
  refine l_callX (n := 1) (a := []) (As := [.int x1]) (rest := [.int 0, .ref (G.1 170)]) (c1 := 2) (s1 := 12) sameC adC (sG_r G) X Z (cX6_commit_c l hst hm) (oX6 k160) rfl (gooV mB941 mB942 mB943 mB409 mB457) rfl (by decide +kernel) rfl ⟨Nat.le_of_ble_eq_true rfl, Nat.le_of_ble_eq_true rfl⟩ rfl rfl ⟨Nat.le_of_ble_eq_true rfl, Nat.le_of_ble_eq_true rfl⟩ hl.1 rfl (Nat.le_of_ble_eq_true rfl) dL_commit_4 (fun hec H locs q9 ce Z hce hcv hcl => ?_) (fun hec w9 H locs Z => ?_)
  · rw [hj] at hcl
    refine l_catch (pre := []) (suf := [(0, 9, 15, 15)]) (x := (0, 9, 12, 13)) (ec := 1) (pcx := 12) X Z.2.2 ht rfl (fun _ h => absurd h List.not_mem_nil) (by decide) (by decide) (List.mem_cons_of_mem _ mB926) (by decide) hce hcv hcl rfl ?_
    refine lv_astore_n (lv' := [(3, .ref q9), (0, .ref (G.1 160)), (1, .int x1), (2, .ref (G.1 170))]) hx hb dL_commit_12 rfl hl (by decide) rfl (fun ls hl => ?_)
    refine lv_iconst (v := nI 1) hx hb dL_commit_13 (by decide) ?_
    exact kI _ _ _ _ _ _ (Nat.le_of_ble_eq_true rfl) (Nat.le_of_ble_eq_true rfl) dL_commit_14 Z
  · rw [hj] at hec
    exact absurd hec (by decide)
set_option maxHeartbeats 4000000 in
set_option maxRecDepth 100000 in
theorem wL_commit_2 (l : Launch) (hst : l.stackTraces = false) {G : LY} {gc : Mem} {ov : Nat → Int64} {n : Nat} {x1 : Int32} {r : Nat × Int32 × Mem} (hm : sX6_commit n gc x1 = some r) (hj : r.1 = 3) : cLw l yL_commit wmL_commit 8 135 2 12 G [.ref (G.1 160), .int x1, .ref (G.1 170)] (wC G gc ++ [oE G ov]) (wC G r.2.2 ++ [oE G ov]) 2 := by
  refine mk_cLw (by decide +kernel) rfl (Nat.le_of_ble_eq_true rfl) (fun p e s m args below meth c A Q ls X ht kI hl Z => ?_)
  have hx := X.1
  have hb := X.2.1
  refine lv_aload_n hx hb dL_commit_0 rfl (lv_at hl 2 rfl) ?_
  refine lv_iconst (v := 0) hx hb dL_commit_1 (by decide) ?_
  refine lv_aload_n hx hb dL_commit_2 rfl (lv_at hl 0 rfl) ?_
  refine lv_iload_n hx hb dL_commit_3 rfl (lv_at hl 1 rfl) ?_
  refine l_callX (n := 1) (a := []) (As := [.int x1]) (rest := [.int 0, .ref (G.1 170)]) (c1 := 2) (s1 := 12) sameC adC (sG_r G) X Z (cX6_commit_c l hst hm) (oX6 k160) rfl (gooV mB941 mB942 mB943 mB409 mB457) rfl (by decide +kernel) rfl ⟨Nat.le_of_ble_eq_true rfl, Nat.le_of_ble_eq_true rfl⟩ rfl rfl ⟨Nat.le_of_ble_eq_true rfl, Nat.le_of_ble_eq_true rfl⟩ hl.1 rfl (Nat.le_of_ble_eq_true rfl) dL_commit_4 (fun hec H locs q9 ce Z hce hcv hcl => ?_) (fun hec w9 H locs Z => ?_)
  · rw [hj] at hcl
    refine l_catch (pre := [(0, 9, 12, 13)]) (suf := []) (x := (0, 9, 15, 15)) (ec := 3) (pcx := 15) X Z.2.2 ht rfl (List.forall_mem_cons.mpr ⟨⟨by decide, "java/lang/IndexOutOfBoundsException", List.mem_cons_of_mem _ mB926, by decide⟩, (fun _ h => absurd h List.not_mem_nil)⟩) (by decide) (by decide) (List.mem_cons_of_mem _ mB927) (by decide) hce hcv hcl rfl ?_
    refine lv_astore_n (lv' := [(3, .ref q9), (0, .ref (G.1 160)), (1, .int x1), (2, .ref (G.1 170))]) hx hb dL_commit_15 rfl hl (by decide) rfl (fun ls hl => ?_)
    refine lv_iconst (v := nI 2) hx hb dL_commit_16 (by decide) ?_
    exact kI _ _ _ _ _ _ (Nat.le_of_ble_eq_true rfl) (Nat.le_of_ble_eq_true rfl) dL_commit_17 Z
  · rw [hj] at hec
    exact absurd hec (by decide)
abbrev wmL_abort : List Cond := Cond.codeWith yL_abort cL_abort 4 (some .int) [(0, 9, 12, 13), (0, 9, 15, 15)] :: wA0
set_option maxHeartbeats 4000000 in
set_option maxRecDepth 100000 in
theorem wL_abort_0 (l : Launch) (hst : l.stackTraces = false) {G : LY} {gc : Mem} {ov : Nat → Int64} {n : Nat} {x1 : Int32} {r : Nat × Int32 × Mem} (hm : sX6_abort n gc x1 = some r) (h0 : r.1 = 0) : cLw l yL_abort wmL_abort 8 134 2 12 G [.ref (G.1 160), .int x1, .ref (G.1 170)] (wC G gc ++ [oE G ov]) (wC G r.2.2 ++ [oE G (vp_updL ov (0 : Int32).toNatClampNeg r.2.1.toInt64)]) 0 := by
  refine mk_cLw (by decide +kernel) rfl (Nat.le_of_ble_eq_true rfl) (fun p e s m args below meth c A Q ls X ht kI hl Z => ?_)
  have hx := X.1
  have hb := X.2.1
  refine lv_aload_n hx hb dL_abort_0 rfl (lv_at hl 2 rfl) ?_
  refine lv_iconst (v := 0) hx hb dL_abort_1 (by decide) ?_
  refine lv_aload_n hx hb dL_abort_2 rfl (lv_at hl 0 rfl) ?_
  refine lv_iload_n hx hb dL_abort_3 rfl (lv_at hl 1 rfl) ?_
  refine l_callX (n := 1) (a := []) (As := [.int x1]) (rest := [.int 0, .ref (G.1 170)]) (c1 := 2) (s1 := 12) sameC adC (sG_r G) X Z (cX6_abort_c l hst hm) (oX6 k160) rfl (gooV mB945 mB946 mB947 mB409 mB459) rfl (by decide +kernel) rfl ⟨Nat.le_of_ble_eq_true rfl, Nat.le_of_ble_eq_true rfl⟩ rfl rfl ⟨Nat.le_of_ble_eq_true rfl, Nat.le_of_ble_eq_true rfl⟩ hl.1 rfl (Nat.le_of_ble_eq_true rfl) dL_abort_4 (fun hec H locs q9 ce Z hce hcv hcl => ?_) (fun hec w9 H locs Z => ?_)
  · exact absurd h0 hec
  refine lv_i2l hx hb dL_abort_7 rfl ?_
  refine l_last rfl X Z dL_abort_8 (fun H locs Z => ?_)
  refine lv_goto (tgt := 18) hx hb dL_abort_9 (by decide) ?_
  refine lv_iconst (v := nI 0) hx hb dL_abort_18 (by decide) ?_
  exact kI _ _ _ _ _ _ (Nat.le_of_ble_eq_true rfl) (Nat.le_of_ble_eq_true rfl) dL_abort_19 Z
set_option maxHeartbeats 4000000 in
set_option maxRecDepth 100000 in
theorem wL_abort_1 (l : Launch) (hst : l.stackTraces = false) {G : LY} {gc : Mem} {ov : Nat → Int64} {n : Nat} {x1 : Int32} {r : Nat × Int32 × Mem} (hm : sX6_abort n gc x1 = some r) (hj : r.1 = 1) : cLw l yL_abort wmL_abort 8 134 2 12 G [.ref (G.1 160), .int x1, .ref (G.1 170)] (wC G gc ++ [oE G ov]) (wC G r.2.2 ++ [oE G ov]) 1 := by
  refine mk_cLw (by decide +kernel) rfl (Nat.le_of_ble_eq_true rfl) (fun p e s m args below meth c A Q ls X ht kI hl Z => ?_)
  have hx := X.1
  have hb := X.2.1
  refine lv_aload_n hx hb dL_abort_0 rfl (lv_at hl 2 rfl) ?_
  refine lv_iconst (v := 0) hx hb dL_abort_1 (by decide) ?_
  refine lv_aload_n hx hb dL_abort_2 rfl (lv_at hl 0 rfl) ?_
  refine lv_iload_n hx hb dL_abort_3 rfl (lv_at hl 1 rfl) ?_
  refine l_callX (n := 1) (a := []) (As := [.int x1]) (rest := [.int 0, .ref (G.1 170)]) (c1 := 2) (s1 := 12) sameC adC (sG_r G) X Z (cX6_abort_c l hst hm) (oX6 k160) rfl (gooV mB945 mB946 mB947 mB409 mB459) rfl (by decide +kernel) rfl ⟨Nat.le_of_ble_eq_true rfl, Nat.le_of_ble_eq_true rfl⟩ rfl rfl ⟨Nat.le_of_ble_eq_true rfl, Nat.le_of_ble_eq_true rfl⟩ hl.1 rfl (Nat.le_of_ble_eq_true rfl) dL_abort_4 (fun hec H locs q9 ce Z hce hcv hcl => ?_) (fun hec w9 H locs Z => ?_)
  · rw [hj] at hcl
    refine l_catch (pre := []) (suf := [(0, 9, 15, 15)]) (x := (0, 9, 12, 13)) (ec := 1) (pcx := 12) X Z.2.2 ht rfl (fun _ h => absurd h List.not_mem_nil) (by decide) (by decide) (List.mem_cons_of_mem _ mB926) (by decide) hce hcv hcl rfl ?_
    refine lv_astore_n (lv' := [(3, .ref q9), (0, .ref (G.1 160)), (1, .int x1), (2, .ref (G.1 170))]) hx hb dL_abort_12 rfl hl (by decide) rfl (fun ls hl => ?_)
    refine lv_iconst (v := nI 1) hx hb dL_abort_13 (by decide) ?_
    exact kI _ _ _ _ _ _ (Nat.le_of_ble_eq_true rfl) (Nat.le_of_ble_eq_true rfl) dL_abort_14 Z
  · rw [hj] at hec
    exact absurd hec (by decide)
set_option maxHeartbeats 4000000 in
set_option maxRecDepth 100000 in
theorem wL_abort_2 (l : Launch) (hst : l.stackTraces = false) {G : LY} {gc : Mem} {ov : Nat → Int64} {n : Nat} {x1 : Int32} {r : Nat × Int32 × Mem} (hm : sX6_abort n gc x1 = some r) (hj : r.1 = 3) : cLw l yL_abort wmL_abort 8 134 2 12 G [.ref (G.1 160), .int x1, .ref (G.1 170)] (wC G gc ++ [oE G ov]) (wC G r.2.2 ++ [oE G ov]) 2 := by
  refine mk_cLw (by decide +kernel) rfl (Nat.le_of_ble_eq_true rfl) (fun p e s m args below meth c A Q ls X ht kI hl Z => ?_)
  have hx := X.1
  have hb := X.2.1
  refine lv_aload_n hx hb dL_abort_0 rfl (lv_at hl 2 rfl) ?_
  refine lv_iconst (v := 0) hx hb dL_abort_1 (by decide) ?_
  refine lv_aload_n hx hb dL_abort_2 rfl (lv_at hl 0 rfl) ?_
  refine lv_iload_n hx hb dL_abort_3 rfl (lv_at hl 1 rfl) ?_
  refine l_callX (n := 1) (a := []) (As := [.int x1]) (rest := [.int 0, .ref (G.1 170)]) (c1 := 2) (s1 := 12) sameC adC (sG_r G) X Z (cX6_abort_c l hst hm) (oX6 k160) rfl (gooV mB945 mB946 mB947 mB409 mB459) rfl (by decide +kernel) rfl ⟨Nat.le_of_ble_eq_true rfl, Nat.le_of_ble_eq_true rfl⟩ rfl rfl ⟨Nat.le_of_ble_eq_true rfl, Nat.le_of_ble_eq_true rfl⟩ hl.1 rfl (Nat.le_of_ble_eq_true rfl) dL_abort_4 (fun hec H locs q9 ce Z hce hcv hcl => ?_) (fun hec w9 H locs Z => ?_)
  · rw [hj] at hcl
    refine l_catch (pre := [(0, 9, 12, 13)]) (suf := []) (x := (0, 9, 15, 15)) (ec := 3) (pcx := 15) X Z.2.2 ht rfl (List.forall_mem_cons.mpr ⟨⟨by decide, "java/lang/IndexOutOfBoundsException", List.mem_cons_of_mem _ mB926, by decide⟩, (fun _ h => absurd h List.not_mem_nil)⟩) (by decide) (by decide) (List.mem_cons_of_mem _ mB927) (by decide) hce hcv hcl rfl ?_
    refine lv_astore_n (lv' := [(3, .ref q9), (0, .ref (G.1 160)), (1, .int x1), (2, .ref (G.1 170))]) hx hb dL_abort_15 rfl hl (by decide) rfl (fun ls hl => ?_)
    refine lv_iconst (v := nI 2) hx hb dL_abort_16 (by decide) ?_
    exact kI _ _ _ _ _ _ (Nat.le_of_ble_eq_true rfl) (Nat.le_of_ble_eq_true rfl) dL_abort_17 Z
  · rw [hj] at hec
    exact absurd hec (by decide)
abbrev wmL_advance : List Cond := Cond.codeWith yL_advance cL_advance 4 (some .int) [(0, 9, 12, 25), (0, 9, 15, 15)] :: wA0
set_option maxHeartbeats 4000000 in
set_option maxRecDepth 100000 in
theorem wL_advance_0 (l : Launch) (hst : l.stackTraces = false) {G : LY} {gc : Mem} {ov : Nat → Int64} {n : Nat} {x1 : Int32} {r : Nat × Int32 × Mem} (hm : sX6_advance n gc x1 = some r) (h0 : r.1 = 0) : cLw l yL_advance wmL_advance 8 134 2 12 G [.ref (G.1 160), .int x1, .ref (G.1 170)] (wC G gc ++ [oE G ov]) (wC G r.2.2 ++ [oE G (vp_updL ov (0 : Int32).toNatClampNeg r.2.1.toInt64)]) 0 := by
  refine mk_cLw (by decide +kernel) rfl (Nat.le_of_ble_eq_true rfl) (fun p e s m args below meth c A Q ls X ht kI hl Z => ?_)
  have hx := X.1
  have hb := X.2.1
  refine lv_aload_n hx hb dL_advance_0 rfl (lv_at hl 2 rfl) ?_
  refine lv_iconst (v := 0) hx hb dL_advance_1 (by decide) ?_
  refine lv_aload_n hx hb dL_advance_2 rfl (lv_at hl 0 rfl) ?_
  refine lv_iload_n hx hb dL_advance_3 rfl (lv_at hl 1 rfl) ?_
  refine l_callX (n := 1) (a := []) (As := [.int x1]) (rest := [.int 0, .ref (G.1 170)]) (c1 := 2) (s1 := 12) sameC adC (sG_r G) X Z (cX6_advance_c l hst hm) (oX6 k160) rfl (gooV mB949 mB950 mB951 mB409 mB466) rfl (by decide +kernel) rfl ⟨Nat.le_of_ble_eq_true rfl, Nat.le_of_ble_eq_true rfl⟩ rfl rfl ⟨Nat.le_of_ble_eq_true rfl, Nat.le_of_ble_eq_true rfl⟩ hl.1 rfl (Nat.le_of_ble_eq_true rfl) dL_advance_4 (fun hec H locs q9 ce Z hce hcv hcl => ?_) (fun hec w9 H locs Z => ?_)
  · exact absurd h0 hec
  refine lv_i2l hx hb dL_advance_7 rfl ?_
  refine l_last rfl X Z dL_advance_8 (fun H locs Z => ?_)
  refine lv_goto (tgt := 18) hx hb dL_advance_9 (by decide) ?_
  refine lv_iconst (v := nI 0) hx hb dL_advance_18 (by decide) ?_
  exact kI _ _ _ _ _ _ (Nat.le_of_ble_eq_true rfl) (Nat.le_of_ble_eq_true rfl) dL_advance_19 Z
set_option maxHeartbeats 4000000 in
set_option maxRecDepth 100000 in
theorem wL_advance_1 (l : Launch) (hst : l.stackTraces = false) {G : LY} {gc : Mem} {ov : Nat → Int64} {n : Nat} {x1 : Int32} {r : Nat × Int32 × Mem} (hm : sX6_advance n gc x1 = some r) (hj : r.1 = 2) : cLw l yL_advance wmL_advance 8 134 2 12 G [.ref (G.1 160), .int x1, .ref (G.1 170)] (wC G gc ++ [oE G ov]) (wC G r.2.2 ++ [oE G ov]) 1 := by
  refine mk_cLw (by decide +kernel) rfl (Nat.le_of_ble_eq_true rfl) (fun p e s m args below meth c A Q ls X ht kI hl Z => ?_)
  have hx := X.1
  have hb := X.2.1
  refine lv_aload_n hx hb dL_advance_0 rfl (lv_at hl 2 rfl) ?_
  refine lv_iconst (v := 0) hx hb dL_advance_1 (by decide) ?_
  refine lv_aload_n hx hb dL_advance_2 rfl (lv_at hl 0 rfl) ?_
  refine lv_iload_n hx hb dL_advance_3 rfl (lv_at hl 1 rfl) ?_
  refine l_callX (n := 1) (a := []) (As := [.int x1]) (rest := [.int 0, .ref (G.1 170)]) (c1 := 2) (s1 := 12) sameC adC (sG_r G) X Z (cX6_advance_c l hst hm) (oX6 k160) rfl (gooV mB949 mB950 mB951 mB409 mB466) rfl (by decide +kernel) rfl ⟨Nat.le_of_ble_eq_true rfl, Nat.le_of_ble_eq_true rfl⟩ rfl rfl ⟨Nat.le_of_ble_eq_true rfl, Nat.le_of_ble_eq_true rfl⟩ hl.1 rfl (Nat.le_of_ble_eq_true rfl) dL_advance_4 (fun hec H locs q9 ce Z hce hcv hcl => ?_) (fun hec w9 H locs Z => ?_)
  · rw [hj] at hcl
    refine l_catch (pre := []) (suf := [(0, 9, 15, 15)]) (x := (0, 9, 12, 25)) (ec := 2) (pcx := 12) X Z.2.2 ht rfl (fun _ h => absurd h List.not_mem_nil) (by decide) (by decide) (List.mem_cons_of_mem _ mB936) (by decide) hce hcv hcl rfl ?_
    refine lv_astore_n (lv' := [(3, .ref q9), (0, .ref (G.1 160)), (1, .int x1), (2, .ref (G.1 170))]) hx hb dL_advance_12 rfl hl (by decide) rfl (fun ls hl => ?_)
    refine lv_iconst (v := nI 1) hx hb dL_advance_13 (by decide) ?_
    exact kI _ _ _ _ _ _ (Nat.le_of_ble_eq_true rfl) (Nat.le_of_ble_eq_true rfl) dL_advance_14 Z
  · rw [hj] at hec
    exact absurd hec (by decide)
set_option maxHeartbeats 4000000 in
set_option maxRecDepth 100000 in
theorem wL_advance_2 (l : Launch) (hst : l.stackTraces = false) {G : LY} {gc : Mem} {ov : Nat → Int64} {n : Nat} {x1 : Int32} {r : Nat × Int32 × Mem} (hm : sX6_advance n gc x1 = some r) (hj : r.1 = 3) : cLw l yL_advance wmL_advance 8 134 2 12 G [.ref (G.1 160), .int x1, .ref (G.1 170)] (wC G gc ++ [oE G ov]) (wC G r.2.2 ++ [oE G ov]) 2 := by
  refine mk_cLw (by decide +kernel) rfl (Nat.le_of_ble_eq_true rfl) (fun p e s m args below meth c A Q ls X ht kI hl Z => ?_)
  have hx := X.1
  have hb := X.2.1
  refine lv_aload_n hx hb dL_advance_0 rfl (lv_at hl 2 rfl) ?_
  refine lv_iconst (v := 0) hx hb dL_advance_1 (by decide) ?_
  refine lv_aload_n hx hb dL_advance_2 rfl (lv_at hl 0 rfl) ?_
  refine lv_iload_n hx hb dL_advance_3 rfl (lv_at hl 1 rfl) ?_
  refine l_callX (n := 1) (a := []) (As := [.int x1]) (rest := [.int 0, .ref (G.1 170)]) (c1 := 2) (s1 := 12) sameC adC (sG_r G) X Z (cX6_advance_c l hst hm) (oX6 k160) rfl (gooV mB949 mB950 mB951 mB409 mB466) rfl (by decide +kernel) rfl ⟨Nat.le_of_ble_eq_true rfl, Nat.le_of_ble_eq_true rfl⟩ rfl rfl ⟨Nat.le_of_ble_eq_true rfl, Nat.le_of_ble_eq_true rfl⟩ hl.1 rfl (Nat.le_of_ble_eq_true rfl) dL_advance_4 (fun hec H locs q9 ce Z hce hcv hcl => ?_) (fun hec w9 H locs Z => ?_)
  · rw [hj] at hcl
    refine l_catch (pre := [(0, 9, 12, 25)]) (suf := []) (x := (0, 9, 15, 15)) (ec := 3) (pcx := 15) X Z.2.2 ht rfl (List.forall_mem_cons.mpr ⟨⟨by decide, "java/lang/IllegalArgumentException", List.mem_cons_of_mem _ mB936, by decide⟩, (fun _ h => absurd h List.not_mem_nil)⟩) (by decide) (by decide) (List.mem_cons_of_mem _ mB927) (by decide) hce hcv hcl rfl ?_
    refine lv_astore_n (lv' := [(3, .ref q9), (0, .ref (G.1 160)), (1, .int x1), (2, .ref (G.1 170))]) hx hb dL_advance_15 rfl hl (by decide) rfl (fun ls hl => ?_)
    refine lv_iconst (v := nI 2) hx hb dL_advance_16 (by decide) ?_
    exact kI _ _ _ _ _ _ (Nat.le_of_ble_eq_true rfl) (Nat.le_of_ble_eq_true rfl) dL_advance_17 Z
  · rw [hj] at hec
    exact absurd hec (by decide)
abbrev wmL_synchronize : List Cond := Cond.codeWith yL_synchronize cL_synchronize 5 (some .int) [(0, 10, 13, 13), (0, 10, 17, 25)] :: wA0
set_option maxHeartbeats 4000000 in
set_option maxRecDepth 100000 in
theorem wL_synchronize_0 (l : Launch) (hst : l.stackTraces = false) {G : LY} {gc : Mem} {ov : Nat → Int64} {n : Nat} {x1 : Int32} {x2 : Int32} {r : Nat × Int32 × Mem} (hm : sX6_synchronize n gc x1 x2 = some r) (h0 : r.1 = 0) : cLw l yL_synchronize wmL_synchronize 8 135 2 12 G [.ref (G.1 160), .int x1, .int x2, .ref (G.1 170)] (wC G gc ++ [oE G ov]) (wC G r.2.2 ++ [oE G (vp_updL ov (0 : Int32).toNatClampNeg r.2.1.toInt64)]) 0 := by
  refine mk_cLw (by decide +kernel) rfl (Nat.le_of_ble_eq_true rfl) (fun p e s m args below meth c A Q ls X ht kI hl Z => ?_)
  have hx := X.1
  have hb := X.2.1
  refine lv_aload_n hx hb dL_synchronize_0 rfl (lv_at hl 3 rfl) ?_
  refine lv_iconst (v := 0) hx hb dL_synchronize_1 (by decide) ?_
  refine lv_aload_n hx hb dL_synchronize_2 rfl (lv_at hl 0 rfl) ?_
  refine lv_iload_n hx hb dL_synchronize_3 rfl (lv_at hl 1 rfl) ?_
  refine lv_iload_n hx hb dL_synchronize_4 rfl (lv_at hl 2 rfl) ?_
  refine l_callX (n := 2) (a := []) (As := [.int x1, .int x2]) (rest := [.int 0, .ref (G.1 170)]) (c1 := 2) (s1 := 12) sameC adC (sG_r G) X Z (cX6_synchronize_c l hst hm) (oX6 k160) rfl (gooV mB953 mB954 mB955 mB409 mB470) rfl (by decide +kernel) rfl ⟨Nat.le_of_ble_eq_true rfl, Nat.le_of_ble_eq_true rfl⟩ rfl rfl ⟨Nat.le_of_ble_eq_true rfl, Nat.le_of_ble_eq_true rfl⟩ hl.1 rfl (Nat.le_of_ble_eq_true rfl) dL_synchronize_5 (fun hec H locs q9 ce Z hce hcv hcl => ?_) (fun hec w9 H locs Z => ?_)
  · exact absurd h0 hec
  refine lv_i2l hx hb dL_synchronize_8 rfl ?_
  refine l_last rfl X Z dL_synchronize_9 (fun H locs Z => ?_)
  refine lv_goto (tgt := 21) hx hb dL_synchronize_10 (by decide) ?_
  refine lv_iconst (v := nI 0) hx hb dL_synchronize_21 (by decide) ?_
  exact kI _ _ _ _ _ _ (Nat.le_of_ble_eq_true rfl) (Nat.le_of_ble_eq_true rfl) dL_synchronize_22 Z
set_option maxHeartbeats 4000000 in
set_option maxRecDepth 100000 in
theorem wL_synchronize_1 (l : Launch) (hst : l.stackTraces = false) {G : LY} {gc : Mem} {ov : Nat → Int64} {n : Nat} {x1 : Int32} {x2 : Int32} {r : Nat × Int32 × Mem} (hm : sX6_synchronize n gc x1 x2 = some r) (hj : r.1 = 1) : cLw l yL_synchronize wmL_synchronize 8 135 2 12 G [.ref (G.1 160), .int x1, .int x2, .ref (G.1 170)] (wC G gc ++ [oE G ov]) (wC G r.2.2 ++ [oE G ov]) 1 := by
  refine mk_cLw (by decide +kernel) rfl (Nat.le_of_ble_eq_true rfl) (fun p e s m args below meth c A Q ls X ht kI hl Z => ?_)
  have hx := X.1
  have hb := X.2.1
  refine lv_aload_n hx hb dL_synchronize_0 rfl (lv_at hl 3 rfl) ?_
  refine lv_iconst (v := 0) hx hb dL_synchronize_1 (by decide) ?_
  refine lv_aload_n hx hb dL_synchronize_2 rfl (lv_at hl 0 rfl) ?_
  refine lv_iload_n hx hb dL_synchronize_3 rfl (lv_at hl 1 rfl) ?_
  refine lv_iload_n hx hb dL_synchronize_4 rfl (lv_at hl 2 rfl) ?_
  refine l_callX (n := 2) (a := []) (As := [.int x1, .int x2]) (rest := [.int 0, .ref (G.1 170)]) (c1 := 2) (s1 := 12) sameC adC (sG_r G) X Z (cX6_synchronize_c l hst hm) (oX6 k160) rfl (gooV mB953 mB954 mB955 mB409 mB470) rfl (by decide +kernel) rfl ⟨Nat.le_of_ble_eq_true rfl, Nat.le_of_ble_eq_true rfl⟩ rfl rfl ⟨Nat.le_of_ble_eq_true rfl, Nat.le_of_ble_eq_true rfl⟩ hl.1 rfl (Nat.le_of_ble_eq_true rfl) dL_synchronize_5 (fun hec H locs q9 ce Z hce hcv hcl => ?_) (fun hec w9 H locs Z => ?_)
  · rw [hj] at hcl
    refine l_catch (pre := []) (suf := [(0, 10, 17, 25)]) (x := (0, 10, 13, 13)) (ec := 1) (pcx := 13) X Z.2.2 ht rfl (fun _ h => absurd h List.not_mem_nil) (by decide) (by decide) (List.mem_cons_of_mem _ mB926) (by decide) hce hcv hcl rfl ?_
    refine lv_astore (lv' := [(4, .ref q9), (0, .ref (G.1 160)), (1, .int x1), (2, .int x2), (3, .ref (G.1 170))]) hx hb dL_synchronize_13 hl (by decide) rfl (fun ls hl => ?_)
    refine lv_iconst (v := nI 1) hx hb dL_synchronize_15 (by decide) ?_
    exact kI _ _ _ _ _ _ (Nat.le_of_ble_eq_true rfl) (Nat.le_of_ble_eq_true rfl) dL_synchronize_16 Z
  · rw [hj] at hec
    exact absurd hec (by decide)
set_option maxHeartbeats 4000000 in
set_option maxRecDepth 100000 in
theorem wL_synchronize_2 (l : Launch) (hst : l.stackTraces = false) {G : LY} {gc : Mem} {ov : Nat → Int64} {n : Nat} {x1 : Int32} {x2 : Int32} {r : Nat × Int32 × Mem} (hm : sX6_synchronize n gc x1 x2 = some r) (hj : r.1 = 2) : cLw l yL_synchronize wmL_synchronize 8 135 2 12 G [.ref (G.1 160), .int x1, .int x2, .ref (G.1 170)] (wC G gc ++ [oE G ov]) (wC G r.2.2 ++ [oE G ov]) 2 := by
  refine mk_cLw (by decide +kernel) rfl (Nat.le_of_ble_eq_true rfl) (fun p e s m args below meth c A Q ls X ht kI hl Z => ?_)
  have hx := X.1
  have hb := X.2.1
  refine lv_aload_n hx hb dL_synchronize_0 rfl (lv_at hl 3 rfl) ?_
  refine lv_iconst (v := 0) hx hb dL_synchronize_1 (by decide) ?_
  refine lv_aload_n hx hb dL_synchronize_2 rfl (lv_at hl 0 rfl) ?_
  refine lv_iload_n hx hb dL_synchronize_3 rfl (lv_at hl 1 rfl) ?_
  refine lv_iload_n hx hb dL_synchronize_4 rfl (lv_at hl 2 rfl) ?_
  refine l_callX (n := 2) (a := []) (As := [.int x1, .int x2]) (rest := [.int 0, .ref (G.1 170)]) (c1 := 2) (s1 := 12) sameC adC (sG_r G) X Z (cX6_synchronize_c l hst hm) (oX6 k160) rfl (gooV mB953 mB954 mB955 mB409 mB470) rfl (by decide +kernel) rfl ⟨Nat.le_of_ble_eq_true rfl, Nat.le_of_ble_eq_true rfl⟩ rfl rfl ⟨Nat.le_of_ble_eq_true rfl, Nat.le_of_ble_eq_true rfl⟩ hl.1 rfl (Nat.le_of_ble_eq_true rfl) dL_synchronize_5 (fun hec H locs q9 ce Z hce hcv hcl => ?_) (fun hec w9 H locs Z => ?_)
  · rw [hj] at hcl
    refine l_catch (pre := [(0, 10, 13, 13)]) (suf := []) (x := (0, 10, 17, 25)) (ec := 2) (pcx := 17) X Z.2.2 ht rfl (List.forall_mem_cons.mpr ⟨⟨by decide, "java/lang/IndexOutOfBoundsException", List.mem_cons_of_mem _ mB926, by decide⟩, (fun _ h => absurd h List.not_mem_nil)⟩) (by decide) (by decide) (List.mem_cons_of_mem _ mB936) (by decide) hce hcv hcl rfl ?_
    refine lv_astore (lv' := [(4, .ref q9), (0, .ref (G.1 160)), (1, .int x1), (2, .int x2), (3, .ref (G.1 170))]) hx hb dL_synchronize_17 hl (by decide) rfl (fun ls hl => ?_)
    refine lv_iconst (v := nI 2) hx hb dL_synchronize_19 (by decide) ?_
    exact kI _ _ _ _ _ _ (Nat.le_of_ble_eq_true rfl) (Nat.le_of_ble_eq_true rfl) dL_synchronize_20 Z
  · rw [hj] at hec
    exact absurd hec (by decide)
abbrev wmL_setDrift : List Cond := Cond.codeWith yL_setDrift cL_setDrift 5 (some .int) [(0, 10, 13, 13), (0, 10, 17, 25)] :: wA0
set_option maxHeartbeats 4000000 in
set_option maxRecDepth 100000 in
theorem wL_setDrift_0 (l : Launch) (hst : l.stackTraces = false) {G : LY} {gc : Mem} {ov : Nat → Int64} {n : Nat} {x1 : Int32} {x2 : Int32} {r : Nat × Int32 × Mem} (hm : sX6_setDrift n gc x1 x2 = some r) (h0 : r.1 = 0) : cLw l yL_setDrift wmL_setDrift 8 135 2 12 G [.ref (G.1 160), .int x1, .int x2, .ref (G.1 170)] (wC G gc ++ [oE G ov]) (wC G r.2.2 ++ [oE G (vp_updL ov (0 : Int32).toNatClampNeg r.2.1.toInt64)]) 0 := by
  refine mk_cLw (by decide +kernel) rfl (Nat.le_of_ble_eq_true rfl) (fun p e s m args below meth c A Q ls X ht kI hl Z => ?_)
  have hx := X.1
  have hb := X.2.1
  refine lv_aload_n hx hb dL_setDrift_0 rfl (lv_at hl 3 rfl) ?_
  refine lv_iconst (v := 0) hx hb dL_setDrift_1 (by decide) ?_
  refine lv_aload_n hx hb dL_setDrift_2 rfl (lv_at hl 0 rfl) ?_
  refine lv_iload_n hx hb dL_setDrift_3 rfl (lv_at hl 1 rfl) ?_
  refine lv_iload_n hx hb dL_setDrift_4 rfl (lv_at hl 2 rfl) ?_
  refine l_callX (n := 2) (a := []) (As := [.int x1, .int x2]) (rest := [.int 0, .ref (G.1 170)]) (c1 := 2) (s1 := 12) sameC adC (sG_r G) X Z (cX6_setDrift_c l hst hm) (oX6 k160) rfl (gooV mB957 mB958 mB959 mB409 mB476) rfl (by decide +kernel) rfl ⟨Nat.le_of_ble_eq_true rfl, Nat.le_of_ble_eq_true rfl⟩ rfl rfl ⟨Nat.le_of_ble_eq_true rfl, Nat.le_of_ble_eq_true rfl⟩ hl.1 rfl (Nat.le_of_ble_eq_true rfl) dL_setDrift_5 (fun hec H locs q9 ce Z hce hcv hcl => ?_) (fun hec w9 H locs Z => ?_)
  · exact absurd h0 hec
  refine lv_i2l hx hb dL_setDrift_8 rfl ?_
  refine l_last rfl X Z dL_setDrift_9 (fun H locs Z => ?_)
  refine lv_goto (tgt := 21) hx hb dL_setDrift_10 (by decide) ?_
  refine lv_iconst (v := nI 0) hx hb dL_setDrift_21 (by decide) ?_
  exact kI _ _ _ _ _ _ (Nat.le_of_ble_eq_true rfl) (Nat.le_of_ble_eq_true rfl) dL_setDrift_22 Z
set_option maxHeartbeats 4000000 in
set_option maxRecDepth 100000 in
theorem wL_setDrift_1 (l : Launch) (hst : l.stackTraces = false) {G : LY} {gc : Mem} {ov : Nat → Int64} {n : Nat} {x1 : Int32} {x2 : Int32} {r : Nat × Int32 × Mem} (hm : sX6_setDrift n gc x1 x2 = some r) (hj : r.1 = 1) : cLw l yL_setDrift wmL_setDrift 8 135 2 12 G [.ref (G.1 160), .int x1, .int x2, .ref (G.1 170)] (wC G gc ++ [oE G ov]) (wC G r.2.2 ++ [oE G ov]) 1 := by
  refine mk_cLw (by decide +kernel) rfl (Nat.le_of_ble_eq_true rfl) (fun p e s m args below meth c A Q ls X ht kI hl Z => ?_)
  have hx := X.1
  have hb := X.2.1
  refine lv_aload_n hx hb dL_setDrift_0 rfl (lv_at hl 3 rfl) ?_
  refine lv_iconst (v := 0) hx hb dL_setDrift_1 (by decide) ?_
  refine lv_aload_n hx hb dL_setDrift_2 rfl (lv_at hl 0 rfl) ?_
  refine lv_iload_n hx hb dL_setDrift_3 rfl (lv_at hl 1 rfl) ?_
  refine lv_iload_n hx hb dL_setDrift_4 rfl (lv_at hl 2 rfl) ?_
  refine l_callX (n := 2) (a := []) (As := [.int x1, .int x2]) (rest := [.int 0, .ref (G.1 170)]) (c1 := 2) (s1 := 12) sameC adC (sG_r G) X Z (cX6_setDrift_c l hst hm) (oX6 k160) rfl (gooV mB957 mB958 mB959 mB409 mB476) rfl (by decide +kernel) rfl ⟨Nat.le_of_ble_eq_true rfl, Nat.le_of_ble_eq_true rfl⟩ rfl rfl ⟨Nat.le_of_ble_eq_true rfl, Nat.le_of_ble_eq_true rfl⟩ hl.1 rfl (Nat.le_of_ble_eq_true rfl) dL_setDrift_5 (fun hec H locs q9 ce Z hce hcv hcl => ?_) (fun hec w9 H locs Z => ?_)
  · rw [hj] at hcl
    refine l_catch (pre := []) (suf := [(0, 10, 17, 25)]) (x := (0, 10, 13, 13)) (ec := 1) (pcx := 13) X Z.2.2 ht rfl (fun _ h => absurd h List.not_mem_nil) (by decide) (by decide) (List.mem_cons_of_mem _ mB926) (by decide) hce hcv hcl rfl ?_
    refine lv_astore (lv' := [(4, .ref q9), (0, .ref (G.1 160)), (1, .int x1), (2, .int x2), (3, .ref (G.1 170))]) hx hb dL_setDrift_13 hl (by decide) rfl (fun ls hl => ?_)
    refine lv_iconst (v := nI 1) hx hb dL_setDrift_15 (by decide) ?_
    exact kI _ _ _ _ _ _ (Nat.le_of_ble_eq_true rfl) (Nat.le_of_ble_eq_true rfl) dL_setDrift_16 Z
  · rw [hj] at hec
    exact absurd hec (by decide)
set_option maxHeartbeats 4000000 in
set_option maxRecDepth 100000 in
theorem wL_setDrift_2 (l : Launch) (hst : l.stackTraces = false) {G : LY} {gc : Mem} {ov : Nat → Int64} {n : Nat} {x1 : Int32} {x2 : Int32} {r : Nat × Int32 × Mem} (hm : sX6_setDrift n gc x1 x2 = some r) (hj : r.1 = 2) : cLw l yL_setDrift wmL_setDrift 8 135 2 12 G [.ref (G.1 160), .int x1, .int x2, .ref (G.1 170)] (wC G gc ++ [oE G ov]) (wC G r.2.2 ++ [oE G ov]) 2 := by
  refine mk_cLw (by decide +kernel) rfl (Nat.le_of_ble_eq_true rfl) (fun p e s m args below meth c A Q ls X ht kI hl Z => ?_)
  have hx := X.1
  have hb := X.2.1
  refine lv_aload_n hx hb dL_setDrift_0 rfl (lv_at hl 3 rfl) ?_
  refine lv_iconst (v := 0) hx hb dL_setDrift_1 (by decide) ?_
  refine lv_aload_n hx hb dL_setDrift_2 rfl (lv_at hl 0 rfl) ?_
  refine lv_iload_n hx hb dL_setDrift_3 rfl (lv_at hl 1 rfl) ?_
  refine lv_iload_n hx hb dL_setDrift_4 rfl (lv_at hl 2 rfl) ?_
  refine l_callX (n := 2) (a := []) (As := [.int x1, .int x2]) (rest := [.int 0, .ref (G.1 170)]) (c1 := 2) (s1 := 12) sameC adC (sG_r G) X Z (cX6_setDrift_c l hst hm) (oX6 k160) rfl (gooV mB957 mB958 mB959 mB409 mB476) rfl (by decide +kernel) rfl ⟨Nat.le_of_ble_eq_true rfl, Nat.le_of_ble_eq_true rfl⟩ rfl rfl ⟨Nat.le_of_ble_eq_true rfl, Nat.le_of_ble_eq_true rfl⟩ hl.1 rfl (Nat.le_of_ble_eq_true rfl) dL_setDrift_5 (fun hec H locs q9 ce Z hce hcv hcl => ?_) (fun hec w9 H locs Z => ?_)
  · rw [hj] at hcl
    refine l_catch (pre := [(0, 10, 13, 13)]) (suf := []) (x := (0, 10, 17, 25)) (ec := 2) (pcx := 17) X Z.2.2 ht rfl (List.forall_mem_cons.mpr ⟨⟨by decide, "java/lang/IndexOutOfBoundsException", List.mem_cons_of_mem _ mB926, by decide⟩, (fun _ h => absurd h List.not_mem_nil)⟩) (by decide) (by decide) (List.mem_cons_of_mem _ mB936) (by decide) hce hcv hcl rfl ?_
    refine lv_astore (lv' := [(4, .ref q9), (0, .ref (G.1 160)), (1, .int x1), (2, .int x2), (3, .ref (G.1 170))]) hx hb dL_setDrift_17 hl (by decide) rfl (fun ls hl => ?_)
    refine lv_iconst (v := nI 2) hx hb dL_setDrift_19 (by decide) ?_
    exact kI _ _ _ _ _ _ (Nat.le_of_ble_eq_true rfl) (Nat.le_of_ble_eq_true rfl) dL_setDrift_20 Z
  · rw [hj] at hec
    exact absurd hec (by decide)
abbrev wmL_setUncertainty : List Cond := Cond.codeWith yL_setUncertainty cL_setUncertainty 6 (some .int) [(0, 12, 15, 13), (0, 12, 19, 25)] :: wA0
set_option maxHeartbeats 4000000 in
set_option maxRecDepth 100000 in
theorem wL_setUncertainty_0 (l : Launch) (hst : l.stackTraces = false) {G : LY} {gc : Mem} {ov : Nat → Int64} {n : Nat} {x1 : Int32} {x2 : Int32} {x3 : Int32} {r : Nat × Int32 × Mem} (hm : sX6_setUncertainty n gc x1 x2 x3 = some r) (h0 : r.1 = 0) : cLw l yL_setUncertainty wmL_setUncertainty 8 136 3 18 G [.ref (G.1 160), .int x1, .int x2, .int x3, .ref (G.1 170)] (wC G gc ++ [oE G ov]) (wC G r.2.2 ++ [oE G (vp_updL ov (0 : Int32).toNatClampNeg r.2.1.toInt64)]) 0 := by
  refine mk_cLw (by decide +kernel) rfl (Nat.le_of_ble_eq_true rfl) (fun p e s m args below meth c A Q ls X ht kI hl Z => ?_)
  have hx := X.1
  have hb := X.2.1
  refine lv_aload hx hb dL_setUncertainty_0 (lv_at hl 4 rfl) ?_
  refine lv_iconst (v := 0) hx hb dL_setUncertainty_2 (by decide) ?_
  refine lv_aload_n hx hb dL_setUncertainty_3 rfl (lv_at hl 0 rfl) ?_
  refine lv_iload_n hx hb dL_setUncertainty_4 rfl (lv_at hl 1 rfl) ?_
  refine lv_iload_n hx hb dL_setUncertainty_5 rfl (lv_at hl 2 rfl) ?_
  refine lv_iload_n hx hb dL_setUncertainty_6 rfl (lv_at hl 3 rfl) ?_
  refine l_callX (n := 3) (a := []) (As := [.int x1, .int x2, .int x3]) (rest := [.int 0, .ref (G.1 170)]) (c1 := 3) (s1 := 18) sameC adC (sG_r G) X Z (cX6_setUncertainty_c l hst hm) (oX6 k160) rfl (gooV mB961 mB962 mB963 mB409 mB481) rfl (by decide +kernel) rfl ⟨Nat.le_of_ble_eq_true rfl, Nat.le_of_ble_eq_true rfl⟩ rfl rfl ⟨Nat.le_of_ble_eq_true rfl, Nat.le_of_ble_eq_true rfl⟩ hl.1 rfl (Nat.le_of_ble_eq_true rfl) dL_setUncertainty_7 (fun hec H locs q9 ce Z hce hcv hcl => ?_) (fun hec w9 H locs Z => ?_)
  · exact absurd h0 hec
  refine lv_i2l hx hb dL_setUncertainty_10 rfl ?_
  refine l_last rfl X Z dL_setUncertainty_11 (fun H locs Z => ?_)
  refine lv_goto (tgt := 23) hx hb dL_setUncertainty_12 (by decide) ?_
  refine lv_iconst (v := nI 0) hx hb dL_setUncertainty_23 (by decide) ?_
  exact kI _ _ _ _ _ _ (Nat.le_of_ble_eq_true rfl) (Nat.le_of_ble_eq_true rfl) dL_setUncertainty_24 Z
set_option maxHeartbeats 4000000 in
set_option maxRecDepth 100000 in
theorem wL_setUncertainty_1 (l : Launch) (hst : l.stackTraces = false) {G : LY} {gc : Mem} {ov : Nat → Int64} {n : Nat} {x1 : Int32} {x2 : Int32} {x3 : Int32} {r : Nat × Int32 × Mem} (hm : sX6_setUncertainty n gc x1 x2 x3 = some r) (hj : r.1 = 1) : cLw l yL_setUncertainty wmL_setUncertainty 8 136 3 18 G [.ref (G.1 160), .int x1, .int x2, .int x3, .ref (G.1 170)] (wC G gc ++ [oE G ov]) (wC G r.2.2 ++ [oE G ov]) 1 := by
  refine mk_cLw (by decide +kernel) rfl (Nat.le_of_ble_eq_true rfl) (fun p e s m args below meth c A Q ls X ht kI hl Z => ?_)
  have hx := X.1
  have hb := X.2.1
  refine lv_aload hx hb dL_setUncertainty_0 (lv_at hl 4 rfl) ?_
  refine lv_iconst (v := 0) hx hb dL_setUncertainty_2 (by decide) ?_
  refine lv_aload_n hx hb dL_setUncertainty_3 rfl (lv_at hl 0 rfl) ?_
  refine lv_iload_n hx hb dL_setUncertainty_4 rfl (lv_at hl 1 rfl) ?_
  refine lv_iload_n hx hb dL_setUncertainty_5 rfl (lv_at hl 2 rfl) ?_
  refine lv_iload_n hx hb dL_setUncertainty_6 rfl (lv_at hl 3 rfl) ?_
  refine l_callX (n := 3) (a := []) (As := [.int x1, .int x2, .int x3]) (rest := [.int 0, .ref (G.1 170)]) (c1 := 3) (s1 := 18) sameC adC (sG_r G) X Z (cX6_setUncertainty_c l hst hm) (oX6 k160) rfl (gooV mB961 mB962 mB963 mB409 mB481) rfl (by decide +kernel) rfl ⟨Nat.le_of_ble_eq_true rfl, Nat.le_of_ble_eq_true rfl⟩ rfl rfl ⟨Nat.le_of_ble_eq_true rfl, Nat.le_of_ble_eq_true rfl⟩ hl.1 rfl (Nat.le_of_ble_eq_true rfl) dL_setUncertainty_7 (fun hec H locs q9 ce Z hce hcv hcl => ?_) (fun hec w9 H locs Z => ?_)
  · rw [hj] at hcl
    refine l_catch (pre := []) (suf := [(0, 12, 19, 25)]) (x := (0, 12, 15, 13)) (ec := 1) (pcx := 15) X Z.2.2 ht rfl (fun _ h => absurd h List.not_mem_nil) (by decide) (by decide) (List.mem_cons_of_mem _ mB926) (by decide) hce hcv hcl rfl ?_
    refine lv_astore (lv' := [(5, .ref q9), (0, .ref (G.1 160)), (1, .int x1), (2, .int x2), (3, .int x3), (4, .ref (G.1 170))]) hx hb dL_setUncertainty_15 hl (by decide) rfl (fun ls hl => ?_)
    refine lv_iconst (v := nI 1) hx hb dL_setUncertainty_17 (by decide) ?_
    exact kI _ _ _ _ _ _ (Nat.le_of_ble_eq_true rfl) (Nat.le_of_ble_eq_true rfl) dL_setUncertainty_18 Z
  · rw [hj] at hec
    exact absurd hec (by decide)
set_option maxHeartbeats 4000000 in
set_option maxRecDepth 100000 in
theorem wL_setUncertainty_2 (l : Launch) (hst : l.stackTraces = false) {G : LY} {gc : Mem} {ov : Nat → Int64} {n : Nat} {x1 : Int32} {x2 : Int32} {x3 : Int32} {r : Nat × Int32 × Mem} (hm : sX6_setUncertainty n gc x1 x2 x3 = some r) (hj : r.1 = 2) : cLw l yL_setUncertainty wmL_setUncertainty 8 136 3 18 G [.ref (G.1 160), .int x1, .int x2, .int x3, .ref (G.1 170)] (wC G gc ++ [oE G ov]) (wC G r.2.2 ++ [oE G ov]) 2 := by
  refine mk_cLw (by decide +kernel) rfl (Nat.le_of_ble_eq_true rfl) (fun p e s m args below meth c A Q ls X ht kI hl Z => ?_)
  have hx := X.1
  have hb := X.2.1
  refine lv_aload hx hb dL_setUncertainty_0 (lv_at hl 4 rfl) ?_
  refine lv_iconst (v := 0) hx hb dL_setUncertainty_2 (by decide) ?_
  refine lv_aload_n hx hb dL_setUncertainty_3 rfl (lv_at hl 0 rfl) ?_
  refine lv_iload_n hx hb dL_setUncertainty_4 rfl (lv_at hl 1 rfl) ?_
  refine lv_iload_n hx hb dL_setUncertainty_5 rfl (lv_at hl 2 rfl) ?_
  refine lv_iload_n hx hb dL_setUncertainty_6 rfl (lv_at hl 3 rfl) ?_
  refine l_callX (n := 3) (a := []) (As := [.int x1, .int x2, .int x3]) (rest := [.int 0, .ref (G.1 170)]) (c1 := 3) (s1 := 18) sameC adC (sG_r G) X Z (cX6_setUncertainty_c l hst hm) (oX6 k160) rfl (gooV mB961 mB962 mB963 mB409 mB481) rfl (by decide +kernel) rfl ⟨Nat.le_of_ble_eq_true rfl, Nat.le_of_ble_eq_true rfl⟩ rfl rfl ⟨Nat.le_of_ble_eq_true rfl, Nat.le_of_ble_eq_true rfl⟩ hl.1 rfl (Nat.le_of_ble_eq_true rfl) dL_setUncertainty_7 (fun hec H locs q9 ce Z hce hcv hcl => ?_) (fun hec w9 H locs Z => ?_)
  · rw [hj] at hcl
    refine l_catch (pre := [(0, 12, 15, 13)]) (suf := []) (x := (0, 12, 19, 25)) (ec := 2) (pcx := 19) X Z.2.2 ht rfl (List.forall_mem_cons.mpr ⟨⟨by decide, "java/lang/IndexOutOfBoundsException", List.mem_cons_of_mem _ mB926, by decide⟩, (fun _ h => absurd h List.not_mem_nil)⟩) (by decide) (by decide) (List.mem_cons_of_mem _ mB936) (by decide) hce hcv hcl rfl ?_
    refine lv_astore (lv' := [(5, .ref q9), (0, .ref (G.1 160)), (1, .int x1), (2, .int x2), (3, .int x3), (4, .ref (G.1 170))]) hx hb dL_setUncertainty_19 hl (by decide) rfl (fun ls hl => ?_)
    refine lv_iconst (v := nI 2) hx hb dL_setUncertainty_21 (by decide) ?_
    exact kI _ _ _ _ _ _ (Nat.le_of_ble_eq_true rfl) (Nat.le_of_ble_eq_true rfl) dL_setUncertainty_22 Z
  · rw [hj] at hec
    exact absurd hec (by decide)
abbrev wmL_snapshotRead : List Cond := Cond.codeWith yL_snapshotRead cL_snapshotRead 5 (some .int) [(0, 10, 13, 13), (0, 10, 17, 25), (0, 10, 21, 15)] :: wA0
set_option maxHeartbeats 4000000 in
set_option maxRecDepth 100000 in
theorem wL_snapshotRead_0 (l : Launch) (hst : l.stackTraces = false) {G : LY} {gc : Mem} {ov : Nat → Int64} {n : Nat} {x1 : Int32} {x2 : Int32} {r : Nat × Int32 × Mem} (hm : sX6_snapshotRead n gc x1 x2 = some r) (h0 : r.1 = 0) : cLw l yL_snapshotRead wmL_snapshotRead 8 135 3 18 G [.ref (G.1 160), .int x1, .int x2, .ref (G.1 170)] (wC G gc ++ [oE G ov]) (wC G r.2.2 ++ [oE G (vp_updL ov (0 : Int32).toNatClampNeg r.2.1.toInt64)]) 0 := by
  refine mk_cLw (by decide +kernel) rfl (Nat.le_of_ble_eq_true rfl) (fun p e s m args below meth c A Q ls X ht kI hl Z => ?_)
  have hx := X.1
  have hb := X.2.1
  refine lv_aload_n hx hb dL_snapshotRead_0 rfl (lv_at hl 3 rfl) ?_
  refine lv_iconst (v := 0) hx hb dL_snapshotRead_1 (by decide) ?_
  refine lv_aload_n hx hb dL_snapshotRead_2 rfl (lv_at hl 0 rfl) ?_
  refine lv_iload_n hx hb dL_snapshotRead_3 rfl (lv_at hl 1 rfl) ?_
  refine lv_iload_n hx hb dL_snapshotRead_4 rfl (lv_at hl 2 rfl) ?_
  refine l_callX (n := 2) (a := []) (As := [.int x1, .int x2]) (rest := [.int 0, .ref (G.1 170)]) (c1 := 3) (s1 := 18) sameC adC (sG_r G) X Z (cX6_snapshotRead_c l hst hm) (oX6 k160) rfl (gooV mB965 mB966 mB967 mB409 mB495) rfl (by decide +kernel) rfl ⟨Nat.le_of_ble_eq_true rfl, Nat.le_of_ble_eq_true rfl⟩ rfl rfl ⟨Nat.le_of_ble_eq_true rfl, Nat.le_of_ble_eq_true rfl⟩ hl.1 rfl (Nat.le_of_ble_eq_true rfl) dL_snapshotRead_5 (fun hec H locs q9 ce Z hce hcv hcl => ?_) (fun hec w9 H locs Z => ?_)
  · exact absurd h0 hec
  refine lv_i2l hx hb dL_snapshotRead_8 rfl ?_
  refine l_last rfl X Z dL_snapshotRead_9 (fun H locs Z => ?_)
  refine lv_goto (tgt := 25) hx hb dL_snapshotRead_10 (by decide) ?_
  refine lv_iconst (v := nI 0) hx hb dL_snapshotRead_25 (by decide) ?_
  exact kI _ _ _ _ _ _ (Nat.le_of_ble_eq_true rfl) (Nat.le_of_ble_eq_true rfl) dL_snapshotRead_26 Z
set_option maxHeartbeats 4000000 in
set_option maxRecDepth 100000 in
theorem wL_snapshotRead_1 (l : Launch) (hst : l.stackTraces = false) {G : LY} {gc : Mem} {ov : Nat → Int64} {n : Nat} {x1 : Int32} {x2 : Int32} {r : Nat × Int32 × Mem} (hm : sX6_snapshotRead n gc x1 x2 = some r) (hj : r.1 = 1) : cLw l yL_snapshotRead wmL_snapshotRead 8 135 3 18 G [.ref (G.1 160), .int x1, .int x2, .ref (G.1 170)] (wC G gc ++ [oE G ov]) (wC G r.2.2 ++ [oE G ov]) 1 := by
  refine mk_cLw (by decide +kernel) rfl (Nat.le_of_ble_eq_true rfl) (fun p e s m args below meth c A Q ls X ht kI hl Z => ?_)
  have hx := X.1
  have hb := X.2.1
  refine lv_aload_n hx hb dL_snapshotRead_0 rfl (lv_at hl 3 rfl) ?_
  refine lv_iconst (v := 0) hx hb dL_snapshotRead_1 (by decide) ?_
  refine lv_aload_n hx hb dL_snapshotRead_2 rfl (lv_at hl 0 rfl) ?_
  refine lv_iload_n hx hb dL_snapshotRead_3 rfl (lv_at hl 1 rfl) ?_
  refine lv_iload_n hx hb dL_snapshotRead_4 rfl (lv_at hl 2 rfl) ?_
  refine l_callX (n := 2) (a := []) (As := [.int x1, .int x2]) (rest := [.int 0, .ref (G.1 170)]) (c1 := 3) (s1 := 18) sameC adC (sG_r G) X Z (cX6_snapshotRead_c l hst hm) (oX6 k160) rfl (gooV mB965 mB966 mB967 mB409 mB495) rfl (by decide +kernel) rfl ⟨Nat.le_of_ble_eq_true rfl, Nat.le_of_ble_eq_true rfl⟩ rfl rfl ⟨Nat.le_of_ble_eq_true rfl, Nat.le_of_ble_eq_true rfl⟩ hl.1 rfl (Nat.le_of_ble_eq_true rfl) dL_snapshotRead_5 (fun hec H locs q9 ce Z hce hcv hcl => ?_) (fun hec w9 H locs Z => ?_)
  · rw [hj] at hcl
    refine l_catch (pre := []) (suf := [(0, 10, 17, 25), (0, 10, 21, 15)]) (x := (0, 10, 13, 13)) (ec := 1) (pcx := 13) X Z.2.2 ht rfl (fun _ h => absurd h List.not_mem_nil) (by decide) (by decide) (List.mem_cons_of_mem _ mB926) (by decide) hce hcv hcl rfl ?_
    refine lv_astore (lv' := [(4, .ref q9), (0, .ref (G.1 160)), (1, .int x1), (2, .int x2), (3, .ref (G.1 170))]) hx hb dL_snapshotRead_13 hl (by decide) rfl (fun ls hl => ?_)
    refine lv_iconst (v := nI 1) hx hb dL_snapshotRead_15 (by decide) ?_
    exact kI _ _ _ _ _ _ (Nat.le_of_ble_eq_true rfl) (Nat.le_of_ble_eq_true rfl) dL_snapshotRead_16 Z
  · rw [hj] at hec
    exact absurd hec (by decide)
set_option maxHeartbeats 4000000 in
set_option maxRecDepth 100000 in
theorem wL_snapshotRead_2 (l : Launch) (hst : l.stackTraces = false) {G : LY} {gc : Mem} {ov : Nat → Int64} {n : Nat} {x1 : Int32} {x2 : Int32} {r : Nat × Int32 × Mem} (hm : sX6_snapshotRead n gc x1 x2 = some r) (hj : r.1 = 2) : cLw l yL_snapshotRead wmL_snapshotRead 8 135 3 18 G [.ref (G.1 160), .int x1, .int x2, .ref (G.1 170)] (wC G gc ++ [oE G ov]) (wC G r.2.2 ++ [oE G ov]) 2 := by
  refine mk_cLw (by decide +kernel) rfl (Nat.le_of_ble_eq_true rfl) (fun p e s m args below meth c A Q ls X ht kI hl Z => ?_)
  have hx := X.1
  have hb := X.2.1
  refine lv_aload_n hx hb dL_snapshotRead_0 rfl (lv_at hl 3 rfl) ?_
  refine lv_iconst (v := 0) hx hb dL_snapshotRead_1 (by decide) ?_
  refine lv_aload_n hx hb dL_snapshotRead_2 rfl (lv_at hl 0 rfl) ?_
  refine lv_iload_n hx hb dL_snapshotRead_3 rfl (lv_at hl 1 rfl) ?_
  refine lv_iload_n hx hb dL_snapshotRead_4 rfl (lv_at hl 2 rfl) ?_
  refine l_callX (n := 2) (a := []) (As := [.int x1, .int x2]) (rest := [.int 0, .ref (G.1 170)]) (c1 := 3) (s1 := 18) sameC adC (sG_r G) X Z (cX6_snapshotRead_c l hst hm) (oX6 k160) rfl (gooV mB965 mB966 mB967 mB409 mB495) rfl (by decide +kernel) rfl ⟨Nat.le_of_ble_eq_true rfl, Nat.le_of_ble_eq_true rfl⟩ rfl rfl ⟨Nat.le_of_ble_eq_true rfl, Nat.le_of_ble_eq_true rfl⟩ hl.1 rfl (Nat.le_of_ble_eq_true rfl) dL_snapshotRead_5 (fun hec H locs q9 ce Z hce hcv hcl => ?_) (fun hec w9 H locs Z => ?_)
  · rw [hj] at hcl
    refine l_catch (pre := [(0, 10, 13, 13)]) (suf := [(0, 10, 21, 15)]) (x := (0, 10, 17, 25)) (ec := 2) (pcx := 17) X Z.2.2 ht rfl (List.forall_mem_cons.mpr ⟨⟨by decide, "java/lang/IndexOutOfBoundsException", List.mem_cons_of_mem _ mB926, by decide⟩, (fun _ h => absurd h List.not_mem_nil)⟩) (by decide) (by decide) (List.mem_cons_of_mem _ mB936) (by decide) hce hcv hcl rfl ?_
    refine lv_astore (lv' := [(4, .ref q9), (0, .ref (G.1 160)), (1, .int x1), (2, .int x2), (3, .ref (G.1 170))]) hx hb dL_snapshotRead_17 hl (by decide) rfl (fun ls hl => ?_)
    refine lv_iconst (v := nI 2) hx hb dL_snapshotRead_19 (by decide) ?_
    exact kI _ _ _ _ _ _ (Nat.le_of_ble_eq_true rfl) (Nat.le_of_ble_eq_true rfl) dL_snapshotRead_20 Z
  · rw [hj] at hec
    exact absurd hec (by decide)
set_option maxHeartbeats 4000000 in
set_option maxRecDepth 100000 in
theorem wL_snapshotRead_3 (l : Launch) (hst : l.stackTraces = false) {G : LY} {gc : Mem} {ov : Nat → Int64} {n : Nat} {x1 : Int32} {x2 : Int32} {r : Nat × Int32 × Mem} (hm : sX6_snapshotRead n gc x1 x2 = some r) (hj : r.1 = 3) : cLw l yL_snapshotRead wmL_snapshotRead 8 135 3 18 G [.ref (G.1 160), .int x1, .int x2, .ref (G.1 170)] (wC G gc ++ [oE G ov]) (wC G r.2.2 ++ [oE G ov]) 3 := by
  refine mk_cLw (by decide +kernel) rfl (Nat.le_of_ble_eq_true rfl) (fun p e s m args below meth c A Q ls X ht kI hl Z => ?_)
  have hx := X.1
  have hb := X.2.1
  refine lv_aload_n hx hb dL_snapshotRead_0 rfl (lv_at hl 3 rfl) ?_
  refine lv_iconst (v := 0) hx hb dL_snapshotRead_1 (by decide) ?_
  refine lv_aload_n hx hb dL_snapshotRead_2 rfl (lv_at hl 0 rfl) ?_
  refine lv_iload_n hx hb dL_snapshotRead_3 rfl (lv_at hl 1 rfl) ?_
  refine lv_iload_n hx hb dL_snapshotRead_4 rfl (lv_at hl 2 rfl) ?_
  refine l_callX (n := 2) (a := []) (As := [.int x1, .int x2]) (rest := [.int 0, .ref (G.1 170)]) (c1 := 3) (s1 := 18) sameC adC (sG_r G) X Z (cX6_snapshotRead_c l hst hm) (oX6 k160) rfl (gooV mB965 mB966 mB967 mB409 mB495) rfl (by decide +kernel) rfl ⟨Nat.le_of_ble_eq_true rfl, Nat.le_of_ble_eq_true rfl⟩ rfl rfl ⟨Nat.le_of_ble_eq_true rfl, Nat.le_of_ble_eq_true rfl⟩ hl.1 rfl (Nat.le_of_ble_eq_true rfl) dL_snapshotRead_5 (fun hec H locs q9 ce Z hce hcv hcl => ?_) (fun hec w9 H locs Z => ?_)
  · rw [hj] at hcl
    refine l_catch (pre := [(0, 10, 13, 13), (0, 10, 17, 25)]) (suf := []) (x := (0, 10, 21, 15)) (ec := 3) (pcx := 21) X Z.2.2 ht rfl (List.forall_mem_cons.mpr ⟨⟨by decide, "java/lang/IndexOutOfBoundsException", List.mem_cons_of_mem _ mB926, by decide⟩, (List.forall_mem_cons.mpr ⟨⟨by decide, "java/lang/IllegalArgumentException", List.mem_cons_of_mem _ mB936, by decide⟩, (fun _ h => absurd h List.not_mem_nil)⟩)⟩) (by decide) (by decide) (List.mem_cons_of_mem _ mB927) (by decide) hce hcv hcl rfl ?_
    refine lv_astore (lv' := [(4, .ref q9), (0, .ref (G.1 160)), (1, .int x1), (2, .int x2), (3, .ref (G.1 170))]) hx hb dL_snapshotRead_21 hl (by decide) rfl (fun ls hl => ?_)
    refine lv_iconst (v := nI 3) hx hb dL_snapshotRead_23 (by decide) ?_
    exact kI _ _ _ _ _ _ (Nat.le_of_ble_eq_true rfl) (Nat.le_of_ble_eq_true rfl) dL_snapshotRead_24 Z
  · rw [hj] at hec
    exact absurd hec (by decide)
abbrev wmL_appendText : List Cond := Cond.codeWith yL_appendText cL_appendText 4 (some .int) [(0, 9, 12, 25), (0, 9, 15, 15)] :: wA0
set_option maxHeartbeats 4000000 in
set_option maxRecDepth 100000 in
theorem wL_appendText_0 (l : Launch) (hst : l.stackTraces = false) {G : LY} {gc : Mem} {ov : Nat → Int64} {x1 : Int32} {r : Nat × Int32 × Mem} (hm : sX6_appendText gc x1 = some r) (h0 : r.1 = 0) : cLw l yL_appendText wmL_appendText 8 134 2 12 G [.ref (G.1 160), .int x1, .ref (G.1 170)] (wC G gc ++ [oE G ov]) (wC G r.2.2 ++ [oE G (vp_updL ov (0 : Int32).toNatClampNeg r.2.1.toInt64)]) 0 := by
  refine mk_cLw (by decide +kernel) rfl (Nat.le_of_ble_eq_true rfl) (fun p e s m args below meth c A Q ls X ht kI hl Z => ?_)
  have hx := X.1
  have hb := X.2.1
  refine lv_aload_n hx hb dL_appendText_0 rfl (lv_at hl 2 rfl) ?_
  refine lv_iconst (v := 0) hx hb dL_appendText_1 (by decide) ?_
  refine lv_aload_n hx hb dL_appendText_2 rfl (lv_at hl 0 rfl) ?_
  refine lv_iload_n hx hb dL_appendText_3 rfl (lv_at hl 1 rfl) ?_
  refine l_callX (n := 1) (a := []) (As := [.int x1]) (rest := [.int 0, .ref (G.1 170)]) (c1 := 2) (s1 := 12) sameC adC (sG_r G) X Z (cX6_appendText_c l hst hm) (oX6 k160) rfl (gooV mB969 mB970 mB971 mB409 mB496) rfl (by decide +kernel) rfl ⟨Nat.le_of_ble_eq_true rfl, Nat.le_of_ble_eq_true rfl⟩ rfl rfl ⟨Nat.le_of_ble_eq_true rfl, Nat.le_of_ble_eq_true rfl⟩ hl.1 rfl (Nat.le_of_ble_eq_true rfl) dL_appendText_4 (fun hec H locs q9 ce Z hce hcv hcl => ?_) (fun hec w9 H locs Z => ?_)
  · exact absurd h0 hec
  refine lv_i2l hx hb dL_appendText_7 rfl ?_
  refine l_last rfl X Z dL_appendText_8 (fun H locs Z => ?_)
  refine lv_goto (tgt := 18) hx hb dL_appendText_9 (by decide) ?_
  refine lv_iconst (v := nI 0) hx hb dL_appendText_18 (by decide) ?_
  exact kI _ _ _ _ _ _ (Nat.le_of_ble_eq_true rfl) (Nat.le_of_ble_eq_true rfl) dL_appendText_19 Z
set_option maxHeartbeats 4000000 in
set_option maxRecDepth 100000 in
theorem wL_appendText_1 (l : Launch) (hst : l.stackTraces = false) {G : LY} {gc : Mem} {ov : Nat → Int64} {x1 : Int32} {r : Nat × Int32 × Mem} (hm : sX6_appendText gc x1 = some r) (hj : r.1 = 2) : cLw l yL_appendText wmL_appendText 8 134 2 12 G [.ref (G.1 160), .int x1, .ref (G.1 170)] (wC G gc ++ [oE G ov]) (wC G r.2.2 ++ [oE G ov]) 1 := by
  refine mk_cLw (by decide +kernel) rfl (Nat.le_of_ble_eq_true rfl) (fun p e s m args below meth c A Q ls X ht kI hl Z => ?_)
  have hx := X.1
  have hb := X.2.1
  refine lv_aload_n hx hb dL_appendText_0 rfl (lv_at hl 2 rfl) ?_
  refine lv_iconst (v := 0) hx hb dL_appendText_1 (by decide) ?_
  refine lv_aload_n hx hb dL_appendText_2 rfl (lv_at hl 0 rfl) ?_
  refine lv_iload_n hx hb dL_appendText_3 rfl (lv_at hl 1 rfl) ?_
  refine l_callX (n := 1) (a := []) (As := [.int x1]) (rest := [.int 0, .ref (G.1 170)]) (c1 := 2) (s1 := 12) sameC adC (sG_r G) X Z (cX6_appendText_c l hst hm) (oX6 k160) rfl (gooV mB969 mB970 mB971 mB409 mB496) rfl (by decide +kernel) rfl ⟨Nat.le_of_ble_eq_true rfl, Nat.le_of_ble_eq_true rfl⟩ rfl rfl ⟨Nat.le_of_ble_eq_true rfl, Nat.le_of_ble_eq_true rfl⟩ hl.1 rfl (Nat.le_of_ble_eq_true rfl) dL_appendText_4 (fun hec H locs q9 ce Z hce hcv hcl => ?_) (fun hec w9 H locs Z => ?_)
  · rw [hj] at hcl
    refine l_catch (pre := []) (suf := [(0, 9, 15, 15)]) (x := (0, 9, 12, 25)) (ec := 2) (pcx := 12) X Z.2.2 ht rfl (fun _ h => absurd h List.not_mem_nil) (by decide) (by decide) (List.mem_cons_of_mem _ mB936) (by decide) hce hcv hcl rfl ?_
    refine lv_astore_n (lv' := [(3, .ref q9), (0, .ref (G.1 160)), (1, .int x1), (2, .ref (G.1 170))]) hx hb dL_appendText_12 rfl hl (by decide) rfl (fun ls hl => ?_)
    refine lv_iconst (v := nI 1) hx hb dL_appendText_13 (by decide) ?_
    exact kI _ _ _ _ _ _ (Nat.le_of_ble_eq_true rfl) (Nat.le_of_ble_eq_true rfl) dL_appendText_14 Z
  · rw [hj] at hec
    exact absurd hec (by decide)
set_option maxHeartbeats 4000000 in
set_option maxRecDepth 100000 in
theorem wL_appendText_2 (l : Launch) (hst : l.stackTraces = false) {G : LY} {gc : Mem} {ov : Nat → Int64} {x1 : Int32} {r : Nat × Int32 × Mem} (hm : sX6_appendText gc x1 = some r) (hj : r.1 = 3) : cLw l yL_appendText wmL_appendText 8 134 2 12 G [.ref (G.1 160), .int x1, .ref (G.1 170)] (wC G gc ++ [oE G ov]) (wC G r.2.2 ++ [oE G ov]) 2 := by
  refine mk_cLw (by decide +kernel) rfl (Nat.le_of_ble_eq_true rfl) (fun p e s m args below meth c A Q ls X ht kI hl Z => ?_)
  have hx := X.1
  have hb := X.2.1
  refine lv_aload_n hx hb dL_appendText_0 rfl (lv_at hl 2 rfl) ?_
  refine lv_iconst (v := 0) hx hb dL_appendText_1 (by decide) ?_
  refine lv_aload_n hx hb dL_appendText_2 rfl (lv_at hl 0 rfl) ?_
  refine lv_iload_n hx hb dL_appendText_3 rfl (lv_at hl 1 rfl) ?_
  refine l_callX (n := 1) (a := []) (As := [.int x1]) (rest := [.int 0, .ref (G.1 170)]) (c1 := 2) (s1 := 12) sameC adC (sG_r G) X Z (cX6_appendText_c l hst hm) (oX6 k160) rfl (gooV mB969 mB970 mB971 mB409 mB496) rfl (by decide +kernel) rfl ⟨Nat.le_of_ble_eq_true rfl, Nat.le_of_ble_eq_true rfl⟩ rfl rfl ⟨Nat.le_of_ble_eq_true rfl, Nat.le_of_ble_eq_true rfl⟩ hl.1 rfl (Nat.le_of_ble_eq_true rfl) dL_appendText_4 (fun hec H locs q9 ce Z hce hcv hcl => ?_) (fun hec w9 H locs Z => ?_)
  · rw [hj] at hcl
    refine l_catch (pre := [(0, 9, 12, 25)]) (suf := []) (x := (0, 9, 15, 15)) (ec := 3) (pcx := 15) X Z.2.2 ht rfl (List.forall_mem_cons.mpr ⟨⟨by decide, "java/lang/IllegalArgumentException", List.mem_cons_of_mem _ mB936, by decide⟩, (fun _ h => absurd h List.not_mem_nil)⟩) (by decide) (by decide) (List.mem_cons_of_mem _ mB927) (by decide) hce hcv hcl rfl ?_
    refine lv_astore_n (lv' := [(3, .ref q9), (0, .ref (G.1 160)), (1, .int x1), (2, .ref (G.1 170))]) hx hb dL_appendText_15 rfl hl (by decide) rfl (fun ls hl => ?_)
    refine lv_iconst (v := nI 2) hx hb dL_appendText_16 (by decide) ?_
    exact kI _ _ _ _ _ _ (Nat.le_of_ble_eq_true rfl) (Nat.le_of_ble_eq_true rfl) dL_appendText_17 Z
  · rw [hj] at hec
    exact absurd hec (by decide)
abbrev wmL_runText : List Cond := Cond.codeWith yL_runText cL_runText 3 (some .int) [(0, 8, 11, 15)] :: wA0
set_option maxHeartbeats 4000000 in
set_option maxRecDepth 100000 in
theorem wL_runText_0 (l : Launch) (hst : l.stackTraces = false) {G : LY} {gc : Mem} {ov : Nat → Int64} {n : Nat} {r : Nat × Int32 × Mem} (hm : sX6_runText n gc = some r) (h0 : r.1 = 0) : cLw l yL_runText wmL_runText 7 155 1 6 G [.ref (G.1 160), .ref (G.1 170)] (wC G gc ++ [oE G ov]) (wC G r.2.2 ++ [oE G (vp_updL ov (0 : Int32).toNatClampNeg r.2.1.toInt64)]) 0 := by
  refine mk_cLw (by decide +kernel) rfl (Nat.le_of_ble_eq_true rfl) (fun p e s m args below meth c A Q ls X ht kI hl Z => ?_)
  have hx := X.1
  have hb := X.2.1
  refine lv_aload_n hx hb dL_runText_0 rfl (lv_at hl 1 rfl) ?_
  refine lv_iconst (v := 0) hx hb dL_runText_1 (by decide) ?_
  refine lv_aload_n hx hb dL_runText_2 rfl (lv_at hl 0 rfl) ?_
  refine l_callX (n := 0) (a := []) (As := []) (rest := [.int 0, .ref (G.1 170)]) (c1 := 1) (s1 := 6) sameC adC (sG_r G) X Z (cX6_runText_c l hst hm) (oX6 k160) rfl (gooV mB973 mB974 mB975 mB409 mB523) rfl (by decide +kernel) rfl ⟨Nat.le_of_ble_eq_true rfl, Nat.le_of_ble_eq_true rfl⟩ rfl rfl ⟨Nat.le_of_ble_eq_true rfl, Nat.le_of_ble_eq_true rfl⟩ hl.1 rfl (Nat.le_of_ble_eq_true rfl) dL_runText_3 (fun hec H locs q9 ce Z hce hcv hcl => ?_) (fun hec w9 H locs Z => ?_)
  · exact absurd h0 hec
  refine lv_i2l hx hb dL_runText_6 rfl ?_
  refine l_last rfl X Z dL_runText_7 (fun H locs Z => ?_)
  refine lv_goto (tgt := 14) hx hb dL_runText_8 (by decide) ?_
  refine lv_iconst (v := nI 0) hx hb dL_runText_14 (by decide) ?_
  exact kI _ _ _ _ _ _ (Nat.le_of_ble_eq_true rfl) (Nat.le_of_ble_eq_true rfl) dL_runText_15 Z
set_option maxHeartbeats 4000000 in
set_option maxRecDepth 100000 in
theorem wL_runText_1 (l : Launch) (hst : l.stackTraces = false) {G : LY} {gc : Mem} {ov : Nat → Int64} {n : Nat} {r : Nat × Int32 × Mem} (hm : sX6_runText n gc = some r) (hj : r.1 = 3) : cLw l yL_runText wmL_runText 7 155 1 6 G [.ref (G.1 160), .ref (G.1 170)] (wC G gc ++ [oE G ov]) (wC G r.2.2 ++ [oE G ov]) 1 := by
  refine mk_cLw (by decide +kernel) rfl (Nat.le_of_ble_eq_true rfl) (fun p e s m args below meth c A Q ls X ht kI hl Z => ?_)
  have hx := X.1
  have hb := X.2.1
  refine lv_aload_n hx hb dL_runText_0 rfl (lv_at hl 1 rfl) ?_
  refine lv_iconst (v := 0) hx hb dL_runText_1 (by decide) ?_
  refine lv_aload_n hx hb dL_runText_2 rfl (lv_at hl 0 rfl) ?_
  refine l_callX (n := 0) (a := []) (As := []) (rest := [.int 0, .ref (G.1 170)]) (c1 := 1) (s1 := 6) sameC adC (sG_r G) X Z (cX6_runText_c l hst hm) (oX6 k160) rfl (gooV mB973 mB974 mB975 mB409 mB523) rfl (by decide +kernel) rfl ⟨Nat.le_of_ble_eq_true rfl, Nat.le_of_ble_eq_true rfl⟩ rfl rfl ⟨Nat.le_of_ble_eq_true rfl, Nat.le_of_ble_eq_true rfl⟩ hl.1 rfl (Nat.le_of_ble_eq_true rfl) dL_runText_3 (fun hec H locs q9 ce Z hce hcv hcl => ?_) (fun hec w9 H locs Z => ?_)
  · rw [hj] at hcl
    refine l_catch (pre := []) (suf := []) (x := (0, 8, 11, 15)) (ec := 3) (pcx := 11) X Z.2.2 ht rfl (fun _ h => absurd h List.not_mem_nil) (by decide) (by decide) (List.mem_cons_of_mem _ mB927) (by decide) hce hcv hcl rfl ?_
    refine lv_astore_n (lv' := [(2, .ref q9), (0, .ref (G.1 160)), (1, .ref (G.1 170))]) hx hb dL_runText_11 rfl hl (by decide) rfl (fun ls hl => ?_)
    refine lv_iconst (v := nI 1) hx hb dL_runText_12 (by decide) ?_
    exact kI _ _ _ _ _ _ (Nat.le_of_ble_eq_true rfl) (Nat.le_of_ble_eq_true rfl) dL_runText_13 Z
  · rw [hj] at hec
    exact absurd hec (by decide)
abbrev wmL_undo : List Cond := Cond.codeWith yL_undo cL_undo 3 (some .int) [(0, 8, 11, 15)] :: wA0
set_option maxHeartbeats 4000000 in
set_option maxRecDepth 100000 in
theorem wL_undo_0 (l : Launch) (hst : l.stackTraces = false) {G : LY} {gc : Mem} {ov : Nat → Int64} {n : Nat} {r : Nat × Int32 × Mem} (hm : sX6_undo n gc = some r) (h0 : r.1 = 0) : cLw l yL_undo wmL_undo 7 133 1 6 G [.ref (G.1 160), .ref (G.1 170)] (wC G gc ++ [oE G ov]) (wC G r.2.2 ++ [oE G (vp_updL ov (0 : Int32).toNatClampNeg r.2.1.toInt64)]) 0 := by
  refine mk_cLw (by decide +kernel) rfl (Nat.le_of_ble_eq_true rfl) (fun p e s m args below meth c A Q ls X ht kI hl Z => ?_)
  have hx := X.1
  have hb := X.2.1
  refine lv_aload_n hx hb dL_undo_0 rfl (lv_at hl 1 rfl) ?_
  refine lv_iconst (v := 0) hx hb dL_undo_1 (by decide) ?_
  refine lv_aload_n hx hb dL_undo_2 rfl (lv_at hl 0 rfl) ?_
  refine l_callX (n := 0) (a := []) (As := []) (rest := [.int 0, .ref (G.1 170)]) (c1 := 1) (s1 := 6) sameC adC (sG_r G) X Z (cX6_undo_c l hst hm) (oX6 k160) rfl (gooV mB977 mB978 mB979 mB409 mB528) rfl (by decide +kernel) rfl ⟨Nat.le_of_ble_eq_true rfl, Nat.le_of_ble_eq_true rfl⟩ rfl rfl ⟨Nat.le_of_ble_eq_true rfl, Nat.le_of_ble_eq_true rfl⟩ hl.1 rfl (Nat.le_of_ble_eq_true rfl) dL_undo_3 (fun hec H locs q9 ce Z hce hcv hcl => ?_) (fun hec w9 H locs Z => ?_)
  · exact absurd h0 hec
  refine lv_i2l hx hb dL_undo_6 rfl ?_
  refine l_last rfl X Z dL_undo_7 (fun H locs Z => ?_)
  refine lv_goto (tgt := 14) hx hb dL_undo_8 (by decide) ?_
  refine lv_iconst (v := nI 0) hx hb dL_undo_14 (by decide) ?_
  exact kI _ _ _ _ _ _ (Nat.le_of_ble_eq_true rfl) (Nat.le_of_ble_eq_true rfl) dL_undo_15 Z
set_option maxHeartbeats 4000000 in
set_option maxRecDepth 100000 in
theorem wL_undo_1 (l : Launch) (hst : l.stackTraces = false) {G : LY} {gc : Mem} {ov : Nat → Int64} {n : Nat} {r : Nat × Int32 × Mem} (hm : sX6_undo n gc = some r) (hj : r.1 = 3) : cLw l yL_undo wmL_undo 7 133 1 6 G [.ref (G.1 160), .ref (G.1 170)] (wC G gc ++ [oE G ov]) (wC G r.2.2 ++ [oE G ov]) 1 := by
  refine mk_cLw (by decide +kernel) rfl (Nat.le_of_ble_eq_true rfl) (fun p e s m args below meth c A Q ls X ht kI hl Z => ?_)
  have hx := X.1
  have hb := X.2.1
  refine lv_aload_n hx hb dL_undo_0 rfl (lv_at hl 1 rfl) ?_
  refine lv_iconst (v := 0) hx hb dL_undo_1 (by decide) ?_
  refine lv_aload_n hx hb dL_undo_2 rfl (lv_at hl 0 rfl) ?_
  refine l_callX (n := 0) (a := []) (As := []) (rest := [.int 0, .ref (G.1 170)]) (c1 := 1) (s1 := 6) sameC adC (sG_r G) X Z (cX6_undo_c l hst hm) (oX6 k160) rfl (gooV mB977 mB978 mB979 mB409 mB528) rfl (by decide +kernel) rfl ⟨Nat.le_of_ble_eq_true rfl, Nat.le_of_ble_eq_true rfl⟩ rfl rfl ⟨Nat.le_of_ble_eq_true rfl, Nat.le_of_ble_eq_true rfl⟩ hl.1 rfl (Nat.le_of_ble_eq_true rfl) dL_undo_3 (fun hec H locs q9 ce Z hce hcv hcl => ?_) (fun hec w9 H locs Z => ?_)
  · rw [hj] at hcl
    refine l_catch (pre := []) (suf := []) (x := (0, 8, 11, 15)) (ec := 3) (pcx := 11) X Z.2.2 ht rfl (fun _ h => absurd h List.not_mem_nil) (by decide) (by decide) (List.mem_cons_of_mem _ mB927) (by decide) hce hcv hcl rfl ?_
    refine lv_astore_n (lv' := [(2, .ref q9), (0, .ref (G.1 160)), (1, .ref (G.1 170))]) hx hb dL_undo_11 rfl hl (by decide) rfl (fun ls hl => ?_)
    refine lv_iconst (v := nI 1) hx hb dL_undo_12 (by decide) ?_
    exact kI _ _ _ _ _ _ (Nat.le_of_ble_eq_true rfl) (Nat.le_of_ble_eq_true rfl) dL_undo_13 Z
  · rw [hj] at hec
    exact absurd hec (by decide)
abbrev wmL_save : List Cond := Cond.codeWith yL_save cL_save 4 (some .int) [(0, 9, 12, 13)] :: wA0
set_option maxHeartbeats 4000000 in
set_option maxRecDepth 100000 in
theorem wL_save_0 (l : Launch) (hst : l.stackTraces = false) {G : LY} {gc : Mem} {ov : Nat → Int64} {n : Nat} {x1 : Int32} {r : Nat × Int32 × Mem} (hm : sX6_save n gc x1 = some r) (h0 : r.1 = 0) : cLw l yL_save wmL_save 8 132 1 6 G [.ref (G.1 160), .int x1, .ref (G.1 170)] (wC G gc ++ [oE G ov]) (wC G r.2.2 ++ [oE G (vp_updL ov (0 : Int32).toNatClampNeg r.2.1.toInt64)]) 0 := by
  refine mk_cLw (by decide +kernel) rfl (Nat.le_of_ble_eq_true rfl) (fun p e s m args below meth c A Q ls X ht kI hl Z => ?_)
  have hx := X.1
  have hb := X.2.1
  refine lv_aload_n hx hb dL_save_0 rfl (lv_at hl 2 rfl) ?_
  refine lv_iconst (v := 0) hx hb dL_save_1 (by decide) ?_
  refine lv_aload_n hx hb dL_save_2 rfl (lv_at hl 0 rfl) ?_
  refine lv_iload_n hx hb dL_save_3 rfl (lv_at hl 1 rfl) ?_
  refine l_callX (n := 1) (a := []) (As := [.int x1]) (rest := [.int 0, .ref (G.1 170)]) (c1 := 1) (s1 := 6) sameC adC (sG_r G) X Z (cX6_save_c l hst hm) (oX6 k160) rfl (gooV mB981 mB982 mB983 mB409 mB534) rfl (by decide +kernel) rfl ⟨Nat.le_of_ble_eq_true rfl, Nat.le_of_ble_eq_true rfl⟩ rfl rfl ⟨Nat.le_of_ble_eq_true rfl, Nat.le_of_ble_eq_true rfl⟩ hl.1 rfl (Nat.le_of_ble_eq_true rfl) dL_save_4 (fun hec H locs q9 ce Z hce hcv hcl => ?_) (fun hec w9 H locs Z => ?_)
  · exact absurd h0 hec
  refine lv_i2l hx hb dL_save_7 rfl ?_
  refine l_last rfl X Z dL_save_8 (fun H locs Z => ?_)
  refine lv_goto (tgt := 15) hx hb dL_save_9 (by decide) ?_
  refine lv_iconst (v := nI 0) hx hb dL_save_15 (by decide) ?_
  exact kI _ _ _ _ _ _ (Nat.le_of_ble_eq_true rfl) (Nat.le_of_ble_eq_true rfl) dL_save_16 Z
set_option maxHeartbeats 4000000 in
set_option maxRecDepth 100000 in
theorem wL_save_1 (l : Launch) (hst : l.stackTraces = false) {G : LY} {gc : Mem} {ov : Nat → Int64} {n : Nat} {x1 : Int32} {r : Nat × Int32 × Mem} (hm : sX6_save n gc x1 = some r) (hj : r.1 = 1) : cLw l yL_save wmL_save 8 132 1 6 G [.ref (G.1 160), .int x1, .ref (G.1 170)] (wC G gc ++ [oE G ov]) (wC G r.2.2 ++ [oE G ov]) 1 := by
  refine mk_cLw (by decide +kernel) rfl (Nat.le_of_ble_eq_true rfl) (fun p e s m args below meth c A Q ls X ht kI hl Z => ?_)
  have hx := X.1
  have hb := X.2.1
  refine lv_aload_n hx hb dL_save_0 rfl (lv_at hl 2 rfl) ?_
  refine lv_iconst (v := 0) hx hb dL_save_1 (by decide) ?_
  refine lv_aload_n hx hb dL_save_2 rfl (lv_at hl 0 rfl) ?_
  refine lv_iload_n hx hb dL_save_3 rfl (lv_at hl 1 rfl) ?_
  refine l_callX (n := 1) (a := []) (As := [.int x1]) (rest := [.int 0, .ref (G.1 170)]) (c1 := 1) (s1 := 6) sameC adC (sG_r G) X Z (cX6_save_c l hst hm) (oX6 k160) rfl (gooV mB981 mB982 mB983 mB409 mB534) rfl (by decide +kernel) rfl ⟨Nat.le_of_ble_eq_true rfl, Nat.le_of_ble_eq_true rfl⟩ rfl rfl ⟨Nat.le_of_ble_eq_true rfl, Nat.le_of_ble_eq_true rfl⟩ hl.1 rfl (Nat.le_of_ble_eq_true rfl) dL_save_4 (fun hec H locs q9 ce Z hce hcv hcl => ?_) (fun hec w9 H locs Z => ?_)
  · rw [hj] at hcl
    refine l_catch (pre := []) (suf := []) (x := (0, 9, 12, 13)) (ec := 1) (pcx := 12) X Z.2.2 ht rfl (fun _ h => absurd h List.not_mem_nil) (by decide) (by decide) (List.mem_cons_of_mem _ mB926) (by decide) hce hcv hcl rfl ?_
    refine lv_astore_n (lv' := [(3, .ref q9), (0, .ref (G.1 160)), (1, .int x1), (2, .ref (G.1 170))]) hx hb dL_save_12 rfl hl (by decide) rfl (fun ls hl => ?_)
    refine lv_iconst (v := nI 1) hx hb dL_save_13 (by decide) ?_
    exact kI _ _ _ _ _ _ (Nat.le_of_ble_eq_true rfl) (Nat.le_of_ble_eq_true rfl) dL_save_14 Z
  · rw [hj] at hec
    exact absurd hec (by decide)
abbrev wmL_restore : List Cond := Cond.codeWith yL_restore cL_restore 4 (some .int) [(0, 9, 12, 13), (0, 9, 15, 15)] :: wA0
set_option maxHeartbeats 4000000 in
set_option maxRecDepth 100000 in
theorem wL_restore_0 (l : Launch) (hst : l.stackTraces = false) {G : LY} {gc : Mem} {ov : Nat → Int64} {n : Nat} {x1 : Int32} {r : Nat × Int32 × Mem} (hm : sX6_restore n gc x1 = some r) (h0 : r.1 = 0) : cLw l yL_restore wmL_restore 8 134 2 12 G [.ref (G.1 160), .int x1, .ref (G.1 170)] (wC G gc ++ [oE G ov]) (wC G r.2.2 ++ [oE G (vp_updL ov (0 : Int32).toNatClampNeg r.2.1.toInt64)]) 0 := by
  refine mk_cLw (by decide +kernel) rfl (Nat.le_of_ble_eq_true rfl) (fun p e s m args below meth c A Q ls X ht kI hl Z => ?_)
  have hx := X.1
  have hb := X.2.1
  refine lv_aload_n hx hb dL_restore_0 rfl (lv_at hl 2 rfl) ?_
  refine lv_iconst (v := 0) hx hb dL_restore_1 (by decide) ?_
  refine lv_aload_n hx hb dL_restore_2 rfl (lv_at hl 0 rfl) ?_
  refine lv_iload_n hx hb dL_restore_3 rfl (lv_at hl 1 rfl) ?_
  refine l_callX (n := 1) (a := []) (As := [.int x1]) (rest := [.int 0, .ref (G.1 170)]) (c1 := 2) (s1 := 12) sameC adC (sG_r G) X Z (cX6_restore_c l hst hm) (oX6 k160) rfl (gooV mB985 mB986 mB987 mB409 mB535) rfl (by decide +kernel) rfl ⟨Nat.le_of_ble_eq_true rfl, Nat.le_of_ble_eq_true rfl⟩ rfl rfl ⟨Nat.le_of_ble_eq_true rfl, Nat.le_of_ble_eq_true rfl⟩ hl.1 rfl (Nat.le_of_ble_eq_true rfl) dL_restore_4 (fun hec H locs q9 ce Z hce hcv hcl => ?_) (fun hec w9 H locs Z => ?_)
  · exact absurd h0 hec
  refine lv_i2l hx hb dL_restore_7 rfl ?_
  refine l_last rfl X Z dL_restore_8 (fun H locs Z => ?_)
  refine lv_goto (tgt := 18) hx hb dL_restore_9 (by decide) ?_
  refine lv_iconst (v := nI 0) hx hb dL_restore_18 (by decide) ?_
  exact kI _ _ _ _ _ _ (Nat.le_of_ble_eq_true rfl) (Nat.le_of_ble_eq_true rfl) dL_restore_19 Z
set_option maxHeartbeats 4000000 in
set_option maxRecDepth 100000 in
theorem wL_restore_1 (l : Launch) (hst : l.stackTraces = false) {G : LY} {gc : Mem} {ov : Nat → Int64} {n : Nat} {x1 : Int32} {r : Nat × Int32 × Mem} (hm : sX6_restore n gc x1 = some r) (hj : r.1 = 1) : cLw l yL_restore wmL_restore 8 134 2 12 G [.ref (G.1 160), .int x1, .ref (G.1 170)] (wC G gc ++ [oE G ov]) (wC G r.2.2 ++ [oE G ov]) 1 := by
  refine mk_cLw (by decide +kernel) rfl (Nat.le_of_ble_eq_true rfl) (fun p e s m args below meth c A Q ls X ht kI hl Z => ?_)
  have hx := X.1
  have hb := X.2.1
  refine lv_aload_n hx hb dL_restore_0 rfl (lv_at hl 2 rfl) ?_
  refine lv_iconst (v := 0) hx hb dL_restore_1 (by decide) ?_
  refine lv_aload_n hx hb dL_restore_2 rfl (lv_at hl 0 rfl) ?_
  refine lv_iload_n hx hb dL_restore_3 rfl (lv_at hl 1 rfl) ?_
  refine l_callX (n := 1) (a := []) (As := [.int x1]) (rest := [.int 0, .ref (G.1 170)]) (c1 := 2) (s1 := 12) sameC adC (sG_r G) X Z (cX6_restore_c l hst hm) (oX6 k160) rfl (gooV mB985 mB986 mB987 mB409 mB535) rfl (by decide +kernel) rfl ⟨Nat.le_of_ble_eq_true rfl, Nat.le_of_ble_eq_true rfl⟩ rfl rfl ⟨Nat.le_of_ble_eq_true rfl, Nat.le_of_ble_eq_true rfl⟩ hl.1 rfl (Nat.le_of_ble_eq_true rfl) dL_restore_4 (fun hec H locs q9 ce Z hce hcv hcl => ?_) (fun hec w9 H locs Z => ?_)
  · rw [hj] at hcl
    refine l_catch (pre := []) (suf := [(0, 9, 15, 15)]) (x := (0, 9, 12, 13)) (ec := 1) (pcx := 12) X Z.2.2 ht rfl (fun _ h => absurd h List.not_mem_nil) (by decide) (by decide) (List.mem_cons_of_mem _ mB926) (by decide) hce hcv hcl rfl ?_
    refine lv_astore_n (lv' := [(3, .ref q9), (0, .ref (G.1 160)), (1, .int x1), (2, .ref (G.1 170))]) hx hb dL_restore_12 rfl hl (by decide) rfl (fun ls hl => ?_)
    refine lv_iconst (v := nI 1) hx hb dL_restore_13 (by decide) ?_
    exact kI _ _ _ _ _ _ (Nat.le_of_ble_eq_true rfl) (Nat.le_of_ble_eq_true rfl) dL_restore_14 Z
  · rw [hj] at hec
    exact absurd hec (by decide)
set_option maxHeartbeats 4000000 in
set_option maxRecDepth 100000 in
theorem wL_restore_2 (l : Launch) (hst : l.stackTraces = false) {G : LY} {gc : Mem} {ov : Nat → Int64} {n : Nat} {x1 : Int32} {r : Nat × Int32 × Mem} (hm : sX6_restore n gc x1 = some r) (hj : r.1 = 3) : cLw l yL_restore wmL_restore 8 134 2 12 G [.ref (G.1 160), .int x1, .ref (G.1 170)] (wC G gc ++ [oE G ov]) (wC G r.2.2 ++ [oE G ov]) 2 := by
  refine mk_cLw (by decide +kernel) rfl (Nat.le_of_ble_eq_true rfl) (fun p e s m args below meth c A Q ls X ht kI hl Z => ?_)
  have hx := X.1
  have hb := X.2.1
  refine lv_aload_n hx hb dL_restore_0 rfl (lv_at hl 2 rfl) ?_
  refine lv_iconst (v := 0) hx hb dL_restore_1 (by decide) ?_
  refine lv_aload_n hx hb dL_restore_2 rfl (lv_at hl 0 rfl) ?_
  refine lv_iload_n hx hb dL_restore_3 rfl (lv_at hl 1 rfl) ?_
  refine l_callX (n := 1) (a := []) (As := [.int x1]) (rest := [.int 0, .ref (G.1 170)]) (c1 := 2) (s1 := 12) sameC adC (sG_r G) X Z (cX6_restore_c l hst hm) (oX6 k160) rfl (gooV mB985 mB986 mB987 mB409 mB535) rfl (by decide +kernel) rfl ⟨Nat.le_of_ble_eq_true rfl, Nat.le_of_ble_eq_true rfl⟩ rfl rfl ⟨Nat.le_of_ble_eq_true rfl, Nat.le_of_ble_eq_true rfl⟩ hl.1 rfl (Nat.le_of_ble_eq_true rfl) dL_restore_4 (fun hec H locs q9 ce Z hce hcv hcl => ?_) (fun hec w9 H locs Z => ?_)
  · rw [hj] at hcl
    refine l_catch (pre := [(0, 9, 12, 13)]) (suf := []) (x := (0, 9, 15, 15)) (ec := 3) (pcx := 15) X Z.2.2 ht rfl (List.forall_mem_cons.mpr ⟨⟨by decide, "java/lang/IndexOutOfBoundsException", List.mem_cons_of_mem _ mB926, by decide⟩, (fun _ h => absurd h List.not_mem_nil)⟩) (by decide) (by decide) (List.mem_cons_of_mem _ mB927) (by decide) hce hcv hcl rfl ?_
    refine lv_astore_n (lv' := [(3, .ref q9), (0, .ref (G.1 160)), (1, .int x1), (2, .ref (G.1 170))]) hx hb dL_restore_15 rfl hl (by decide) rfl (fun ls hl => ?_)
    refine lv_iconst (v := nI 2) hx hb dL_restore_16 (by decide) ?_
    exact kI _ _ _ _ _ _ (Nat.le_of_ble_eq_true rfl) (Nat.le_of_ble_eq_true rfl) dL_restore_17 Z
  · rw [hj] at hec
    exact absurd hec (by decide)
abbrev wmL_reading : List Cond := Cond.codeWith yL_reading cL_reading 4 (some .int) [(0, 9, 12, 13)] :: wA0
set_option maxHeartbeats 4000000 in
set_option maxRecDepth 100000 in
theorem wL_reading_0 (l : Launch) (hst : l.stackTraces = false) {G : LY} {gc : Mem} {ov : Nat → Int64} {x1 : Int32} {r : Nat × Int32} (hm : sX6_reading gc x1 = some r) (h0 : r.1 = 0) : cLw l yL_reading wmL_reading 8 132 1 6 G [.ref (G.1 160), .int x1, .ref (G.1 170)] (wC G gc ++ [oE G ov]) (wC G gc ++ [oE G (vp_updL ov (0 : Int32).toNatClampNeg r.2.toInt64)]) 0 := by
  refine mk_cLw (by decide +kernel) rfl (Nat.le_of_ble_eq_true rfl) (fun p e s m args below meth c A Q ls X ht kI hl Z => ?_)
  have hx := X.1
  have hb := X.2.1
  refine lv_aload_n hx hb dL_reading_0 rfl (lv_at hl 2 rfl) ?_
  refine lv_iconst (v := 0) hx hb dL_reading_1 (by decide) ?_
  refine lv_aload_n hx hb dL_reading_2 rfl (lv_at hl 0 rfl) ?_
  refine lv_iload_n hx hb dL_reading_3 rfl (lv_at hl 1 rfl) ?_
  refine l_callX (n := 1) (a := []) (As := [.int x1]) (rest := [.int 0, .ref (G.1 170)]) (c1 := 1) (s1 := 6) sameC adC (sG_r G) X Z (cX6_reading_c l hst hm) (oX6 k160) rfl (gooV mB989 mB990 mB991 mB409 mB537) rfl (by decide +kernel) rfl ⟨Nat.le_of_ble_eq_true rfl, Nat.le_of_ble_eq_true rfl⟩ rfl rfl ⟨Nat.le_of_ble_eq_true rfl, Nat.le_of_ble_eq_true rfl⟩ hl.1 rfl (Nat.le_of_ble_eq_true rfl) dL_reading_4 (fun hec H locs q9 ce Z hce hcv hcl => ?_) (fun hec w9 H locs Z => ?_)
  · exact absurd h0 hec
  refine lv_i2l hx hb dL_reading_7 rfl ?_
  refine l_last rfl X Z dL_reading_8 (fun H locs Z => ?_)
  refine lv_goto (tgt := 15) hx hb dL_reading_9 (by decide) ?_
  refine lv_iconst (v := nI 0) hx hb dL_reading_15 (by decide) ?_
  exact kI _ _ _ _ _ _ (Nat.le_of_ble_eq_true rfl) (Nat.le_of_ble_eq_true rfl) dL_reading_16 Z
set_option maxHeartbeats 4000000 in
set_option maxRecDepth 100000 in
theorem wL_reading_1 (l : Launch) (hst : l.stackTraces = false) {G : LY} {gc : Mem} {ov : Nat → Int64} {x1 : Int32} {r : Nat × Int32} (hm : sX6_reading gc x1 = some r) (hj : r.1 = 1) : cLw l yL_reading wmL_reading 8 132 1 6 G [.ref (G.1 160), .int x1, .ref (G.1 170)] (wC G gc ++ [oE G ov]) (wC G gc ++ [oE G ov]) 1 := by
  refine mk_cLw (by decide +kernel) rfl (Nat.le_of_ble_eq_true rfl) (fun p e s m args below meth c A Q ls X ht kI hl Z => ?_)
  have hx := X.1
  have hb := X.2.1
  refine lv_aload_n hx hb dL_reading_0 rfl (lv_at hl 2 rfl) ?_
  refine lv_iconst (v := 0) hx hb dL_reading_1 (by decide) ?_
  refine lv_aload_n hx hb dL_reading_2 rfl (lv_at hl 0 rfl) ?_
  refine lv_iload_n hx hb dL_reading_3 rfl (lv_at hl 1 rfl) ?_
  refine l_callX (n := 1) (a := []) (As := [.int x1]) (rest := [.int 0, .ref (G.1 170)]) (c1 := 1) (s1 := 6) sameC adC (sG_r G) X Z (cX6_reading_c l hst hm) (oX6 k160) rfl (gooV mB989 mB990 mB991 mB409 mB537) rfl (by decide +kernel) rfl ⟨Nat.le_of_ble_eq_true rfl, Nat.le_of_ble_eq_true rfl⟩ rfl rfl ⟨Nat.le_of_ble_eq_true rfl, Nat.le_of_ble_eq_true rfl⟩ hl.1 rfl (Nat.le_of_ble_eq_true rfl) dL_reading_4 (fun hec H locs q9 ce Z hce hcv hcl => ?_) (fun hec w9 H locs Z => ?_)
  · rw [hj] at hcl
    refine l_catch (pre := []) (suf := []) (x := (0, 9, 12, 13)) (ec := 1) (pcx := 12) X Z.2.2 ht rfl (fun _ h => absurd h List.not_mem_nil) (by decide) (by decide) (List.mem_cons_of_mem _ mB926) (by decide) hce hcv hcl rfl ?_
    refine lv_astore_n (lv' := [(3, .ref q9), (0, .ref (G.1 160)), (1, .int x1), (2, .ref (G.1 170))]) hx hb dL_reading_12 rfl hl (by decide) rfl (fun ls hl => ?_)
    refine lv_iconst (v := nI 1) hx hb dL_reading_13 (by decide) ?_
    exact kI _ _ _ _ _ _ (Nat.le_of_ble_eq_true rfl) (Nat.le_of_ble_eq_true rfl) dL_reading_14 Z
  · rw [hj] at hec
    exact absurd hec (by decide)
abbrev wmL_earliest : List Cond := Cond.codeWith yL_earliest cL_earliest 4 (some .int) [(0, 9, 12, 13)] :: wA0
set_option maxHeartbeats 4000000 in
set_option maxRecDepth 100000 in
theorem wL_earliest_0 (l : Launch) (hst : l.stackTraces = false) {G : LY} {gc : Mem} {ov : Nat → Int64} {x1 : Int32} {r : Nat × Int32} (hm : sX6_earliest gc x1 = some r) (h0 : r.1 = 0) : cLw l yL_earliest wmL_earliest 8 132 1 6 G [.ref (G.1 160), .int x1, .ref (G.1 170)] (wC G gc ++ [oE G ov]) (wC G gc ++ [oE G (vp_updL ov (0 : Int32).toNatClampNeg r.2.toInt64)]) 0 := by
  refine mk_cLw (by decide +kernel) rfl (Nat.le_of_ble_eq_true rfl) (fun p e s m args below meth c A Q ls X ht kI hl Z => ?_)
  have hx := X.1
  have hb := X.2.1
  refine lv_aload_n hx hb dL_earliest_0 rfl (lv_at hl 2 rfl) ?_
  refine lv_iconst (v := 0) hx hb dL_earliest_1 (by decide) ?_
  refine lv_aload_n hx hb dL_earliest_2 rfl (lv_at hl 0 rfl) ?_
  refine lv_iload_n hx hb dL_earliest_3 rfl (lv_at hl 1 rfl) ?_
  refine l_callX (n := 1) (a := []) (As := [.int x1]) (rest := [.int 0, .ref (G.1 170)]) (c1 := 1) (s1 := 6) sameC adC (sG_r G) X Z (cX6_earliest_c l hst hm) (oX6 k160) rfl (gooV mB993 mB994 mB995 mB409 mB540) rfl (by decide +kernel) rfl ⟨Nat.le_of_ble_eq_true rfl, Nat.le_of_ble_eq_true rfl⟩ rfl rfl ⟨Nat.le_of_ble_eq_true rfl, Nat.le_of_ble_eq_true rfl⟩ hl.1 rfl (Nat.le_of_ble_eq_true rfl) dL_earliest_4 (fun hec H locs q9 ce Z hce hcv hcl => ?_) (fun hec w9 H locs Z => ?_)
  · exact absurd h0 hec
  refine lv_i2l hx hb dL_earliest_7 rfl ?_
  refine l_last rfl X Z dL_earliest_8 (fun H locs Z => ?_)
  refine lv_goto (tgt := 15) hx hb dL_earliest_9 (by decide) ?_
  refine lv_iconst (v := nI 0) hx hb dL_earliest_15 (by decide) ?_
  exact kI _ _ _ _ _ _ (Nat.le_of_ble_eq_true rfl) (Nat.le_of_ble_eq_true rfl) dL_earliest_16 Z
set_option maxHeartbeats 4000000 in
set_option maxRecDepth 100000 in
theorem wL_earliest_1 (l : Launch) (hst : l.stackTraces = false) {G : LY} {gc : Mem} {ov : Nat → Int64} {x1 : Int32} {r : Nat × Int32} (hm : sX6_earliest gc x1 = some r) (hj : r.1 = 1) : cLw l yL_earliest wmL_earliest 8 132 1 6 G [.ref (G.1 160), .int x1, .ref (G.1 170)] (wC G gc ++ [oE G ov]) (wC G gc ++ [oE G ov]) 1 := by
  refine mk_cLw (by decide +kernel) rfl (Nat.le_of_ble_eq_true rfl) (fun p e s m args below meth c A Q ls X ht kI hl Z => ?_)
  have hx := X.1
  have hb := X.2.1
  refine lv_aload_n hx hb dL_earliest_0 rfl (lv_at hl 2 rfl) ?_
  refine lv_iconst (v := 0) hx hb dL_earliest_1 (by decide) ?_
  refine lv_aload_n hx hb dL_earliest_2 rfl (lv_at hl 0 rfl) ?_
  refine lv_iload_n hx hb dL_earliest_3 rfl (lv_at hl 1 rfl) ?_
  refine l_callX (n := 1) (a := []) (As := [.int x1]) (rest := [.int 0, .ref (G.1 170)]) (c1 := 1) (s1 := 6) sameC adC (sG_r G) X Z (cX6_earliest_c l hst hm) (oX6 k160) rfl (gooV mB993 mB994 mB995 mB409 mB540) rfl (by decide +kernel) rfl ⟨Nat.le_of_ble_eq_true rfl, Nat.le_of_ble_eq_true rfl⟩ rfl rfl ⟨Nat.le_of_ble_eq_true rfl, Nat.le_of_ble_eq_true rfl⟩ hl.1 rfl (Nat.le_of_ble_eq_true rfl) dL_earliest_4 (fun hec H locs q9 ce Z hce hcv hcl => ?_) (fun hec w9 H locs Z => ?_)
  · rw [hj] at hcl
    refine l_catch (pre := []) (suf := []) (x := (0, 9, 12, 13)) (ec := 1) (pcx := 12) X Z.2.2 ht rfl (fun _ h => absurd h List.not_mem_nil) (by decide) (by decide) (List.mem_cons_of_mem _ mB926) (by decide) hce hcv hcl rfl ?_
    refine lv_astore_n (lv' := [(3, .ref q9), (0, .ref (G.1 160)), (1, .int x1), (2, .ref (G.1 170))]) hx hb dL_earliest_12 rfl hl (by decide) rfl (fun ls hl => ?_)
    refine lv_iconst (v := nI 1) hx hb dL_earliest_13 (by decide) ?_
    exact kI _ _ _ _ _ _ (Nat.le_of_ble_eq_true rfl) (Nat.le_of_ble_eq_true rfl) dL_earliest_14 Z
  · rw [hj] at hec
    exact absurd hec (by decide)
abbrev wmL_latest : List Cond := Cond.codeWith yL_latest cL_latest 4 (some .int) [(0, 9, 12, 13)] :: wA0
set_option maxHeartbeats 4000000 in
set_option maxRecDepth 100000 in
theorem wL_latest_0 (l : Launch) (hst : l.stackTraces = false) {G : LY} {gc : Mem} {ov : Nat → Int64} {x1 : Int32} {r : Nat × Int32} (hm : sX6_latest gc x1 = some r) (h0 : r.1 = 0) : cLw l yL_latest wmL_latest 8 132 1 6 G [.ref (G.1 160), .int x1, .ref (G.1 170)] (wC G gc ++ [oE G ov]) (wC G gc ++ [oE G (vp_updL ov (0 : Int32).toNatClampNeg r.2.toInt64)]) 0 := by
  refine mk_cLw (by decide +kernel) rfl (Nat.le_of_ble_eq_true rfl) (fun p e s m args below meth c A Q ls X ht kI hl Z => ?_)
  have hx := X.1
  have hb := X.2.1
  refine lv_aload_n hx hb dL_latest_0 rfl (lv_at hl 2 rfl) ?_
  refine lv_iconst (v := 0) hx hb dL_latest_1 (by decide) ?_
  refine lv_aload_n hx hb dL_latest_2 rfl (lv_at hl 0 rfl) ?_
  refine lv_iload_n hx hb dL_latest_3 rfl (lv_at hl 1 rfl) ?_
  refine l_callX (n := 1) (a := []) (As := [.int x1]) (rest := [.int 0, .ref (G.1 170)]) (c1 := 1) (s1 := 6) sameC adC (sG_r G) X Z (cX6_latest_c l hst hm) (oX6 k160) rfl (gooV mB997 mB998 mB999 mB409 mB542) rfl (by decide +kernel) rfl ⟨Nat.le_of_ble_eq_true rfl, Nat.le_of_ble_eq_true rfl⟩ rfl rfl ⟨Nat.le_of_ble_eq_true rfl, Nat.le_of_ble_eq_true rfl⟩ hl.1 rfl (Nat.le_of_ble_eq_true rfl) dL_latest_4 (fun hec H locs q9 ce Z hce hcv hcl => ?_) (fun hec w9 H locs Z => ?_)
  · exact absurd h0 hec
  refine lv_i2l hx hb dL_latest_7 rfl ?_
  refine l_last rfl X Z dL_latest_8 (fun H locs Z => ?_)
  refine lv_goto (tgt := 15) hx hb dL_latest_9 (by decide) ?_
  refine lv_iconst (v := nI 0) hx hb dL_latest_15 (by decide) ?_
  exact kI _ _ _ _ _ _ (Nat.le_of_ble_eq_true rfl) (Nat.le_of_ble_eq_true rfl) dL_latest_16 Z
set_option maxHeartbeats 4000000 in
set_option maxRecDepth 100000 in
theorem wL_latest_1 (l : Launch) (hst : l.stackTraces = false) {G : LY} {gc : Mem} {ov : Nat → Int64} {x1 : Int32} {r : Nat × Int32} (hm : sX6_latest gc x1 = some r) (hj : r.1 = 1) : cLw l yL_latest wmL_latest 8 132 1 6 G [.ref (G.1 160), .int x1, .ref (G.1 170)] (wC G gc ++ [oE G ov]) (wC G gc ++ [oE G ov]) 1 := by
  refine mk_cLw (by decide +kernel) rfl (Nat.le_of_ble_eq_true rfl) (fun p e s m args below meth c A Q ls X ht kI hl Z => ?_)
  have hx := X.1
  have hb := X.2.1
  refine lv_aload_n hx hb dL_latest_0 rfl (lv_at hl 2 rfl) ?_
  refine lv_iconst (v := 0) hx hb dL_latest_1 (by decide) ?_
  refine lv_aload_n hx hb dL_latest_2 rfl (lv_at hl 0 rfl) ?_
  refine lv_iload_n hx hb dL_latest_3 rfl (lv_at hl 1 rfl) ?_
  refine l_callX (n := 1) (a := []) (As := [.int x1]) (rest := [.int 0, .ref (G.1 170)]) (c1 := 1) (s1 := 6) sameC adC (sG_r G) X Z (cX6_latest_c l hst hm) (oX6 k160) rfl (gooV mB997 mB998 mB999 mB409 mB542) rfl (by decide +kernel) rfl ⟨Nat.le_of_ble_eq_true rfl, Nat.le_of_ble_eq_true rfl⟩ rfl rfl ⟨Nat.le_of_ble_eq_true rfl, Nat.le_of_ble_eq_true rfl⟩ hl.1 rfl (Nat.le_of_ble_eq_true rfl) dL_latest_4 (fun hec H locs q9 ce Z hce hcv hcl => ?_) (fun hec w9 H locs Z => ?_)
  · rw [hj] at hcl
    refine l_catch (pre := []) (suf := []) (x := (0, 9, 12, 13)) (ec := 1) (pcx := 12) X Z.2.2 ht rfl (fun _ h => absurd h List.not_mem_nil) (by decide) (by decide) (List.mem_cons_of_mem _ mB926) (by decide) hce hcv hcl rfl ?_
    refine lv_astore_n (lv' := [(3, .ref q9), (0, .ref (G.1 160)), (1, .int x1), (2, .ref (G.1 170))]) hx hb dL_latest_12 rfl hl (by decide) rfl (fun ls hl => ?_)
    refine lv_iconst (v := nI 1) hx hb dL_latest_13 (by decide) ?_
    exact kI _ _ _ _ _ _ (Nat.le_of_ble_eq_true rfl) (Nat.le_of_ble_eq_true rfl) dL_latest_14 Z
  · rw [hj] at hec
    exact absurd hec (by decide)
abbrev wmL_isSound : List Cond := Cond.codeWith yL_isSound cL_isSound 4 (some .int) [(0, 16, 19, 13)] :: wA0
set_option maxHeartbeats 4000000 in
set_option maxRecDepth 100000 in
theorem wL_isSound_0 (l : Launch) (hst : l.stackTraces = false) {G : LY} {gc : Mem} {ov : Nat → Int64} {x1 : Int32} {r : Nat × Int32} (hm : sX6_isSound gc x1 = some r) (h0 : r.1 = 0) : cLw l yL_isSound wmL_isSound 8 132 1 6 G [.ref (G.1 160), .int x1, .ref (G.1 170)] (wC G gc ++ [oE G ov]) (wC G gc ++ [oE G (vp_updL ov (0 : Int32).toNatClampNeg (if r.2 = 0 then 0 else 1))]) 0 := by
  refine mk_cLw (by decide +kernel) rfl (Nat.le_of_ble_eq_true rfl) (fun p e s m args below meth c A Q ls X ht kI hl Z => ?_)
  have hx := X.1
  have hb := X.2.1
  refine lv_aload_n hx hb dL_isSound_0 rfl (lv_at hl 2 rfl) ?_
  refine lv_iconst (v := 0) hx hb dL_isSound_1 (by decide) ?_
  refine lv_aload_n hx hb dL_isSound_2 rfl (lv_at hl 0 rfl) ?_
  refine lv_iload_n hx hb dL_isSound_3 rfl (lv_at hl 1 rfl) ?_
  refine l_callX (n := 1) (a := []) (As := [.int x1]) (rest := [.int 0, .ref (G.1 170)]) (c1 := 1) (s1 := 6) sameC adC (sG_r G) X Z (cX6_isSound_c l hst hm) (oX6 k160) rfl (gooV mB1001 mB1002 mB1003 mB409 mB544) rfl (by decide +kernel) rfl ⟨Nat.le_of_ble_eq_true rfl, Nat.le_of_ble_eq_true rfl⟩ rfl rfl ⟨Nat.le_of_ble_eq_true rfl, Nat.le_of_ble_eq_true rfl⟩ hl.1 rfl (Nat.le_of_ble_eq_true rfl) dL_isSound_4 (fun hec H locs q9 ce Z hce hcv hcl => ?_) (fun hec w9 H locs Z => ?_)
  · exact absurd h0 hec
  refine lv_if_eq (tgt := 14) hx hb dL_isSound_7 (by decide) (fun cz => ?_) (fun cz => ?_)
  · rw [if_pos cz] at kI
    refine lv_lconst (v := 0) hx hb dL_isSound_14 (by decide) ?_
    refine l_last rfl X Z dL_isSound_15 (fun H locs Z => ?_)
    refine lv_goto (tgt := 22) hx hb dL_isSound_16 (by decide) ?_
    refine lv_iconst (v := nI 0) hx hb dL_isSound_22 (by decide) ?_
    exact kI _ _ _ _ _ _ (Nat.le_of_ble_eq_true rfl) (Nat.le_of_ble_eq_true rfl) dL_isSound_23 Z
  · rw [if_neg cz] at kI
    refine lv_lconst (v := 1) hx hb dL_isSound_10 (by decide) ?_
    refine lv_goto (tgt := 15) hx hb dL_isSound_11 (by decide) ?_
    refine l_last rfl X Z dL_isSound_15 (fun H locs Z => ?_)
    refine lv_goto (tgt := 22) hx hb dL_isSound_16 (by decide) ?_
    refine lv_iconst (v := nI 0) hx hb dL_isSound_22 (by decide) ?_
    exact kI _ _ _ _ _ _ (Nat.le_of_ble_eq_true rfl) (Nat.le_of_ble_eq_true rfl) dL_isSound_23 Z
set_option maxHeartbeats 4000000 in
set_option maxRecDepth 100000 in
theorem wL_isSound_1 (l : Launch) (hst : l.stackTraces = false) {G : LY} {gc : Mem} {ov : Nat → Int64} {x1 : Int32} {r : Nat × Int32} (hm : sX6_isSound gc x1 = some r) (hj : r.1 = 1) : cLw l yL_isSound wmL_isSound 8 132 1 6 G [.ref (G.1 160), .int x1, .ref (G.1 170)] (wC G gc ++ [oE G ov]) (wC G gc ++ [oE G ov]) 1 := by
  refine mk_cLw (by decide +kernel) rfl (Nat.le_of_ble_eq_true rfl) (fun p e s m args below meth c A Q ls X ht kI hl Z => ?_)
  have hx := X.1
  have hb := X.2.1
  refine lv_aload_n hx hb dL_isSound_0 rfl (lv_at hl 2 rfl) ?_
  refine lv_iconst (v := 0) hx hb dL_isSound_1 (by decide) ?_
  refine lv_aload_n hx hb dL_isSound_2 rfl (lv_at hl 0 rfl) ?_
  refine lv_iload_n hx hb dL_isSound_3 rfl (lv_at hl 1 rfl) ?_
  refine l_callX (n := 1) (a := []) (As := [.int x1]) (rest := [.int 0, .ref (G.1 170)]) (c1 := 1) (s1 := 6) sameC adC (sG_r G) X Z (cX6_isSound_c l hst hm) (oX6 k160) rfl (gooV mB1001 mB1002 mB1003 mB409 mB544) rfl (by decide +kernel) rfl ⟨Nat.le_of_ble_eq_true rfl, Nat.le_of_ble_eq_true rfl⟩ rfl rfl ⟨Nat.le_of_ble_eq_true rfl, Nat.le_of_ble_eq_true rfl⟩ hl.1 rfl (Nat.le_of_ble_eq_true rfl) dL_isSound_4 (fun hec H locs q9 ce Z hce hcv hcl => ?_) (fun hec w9 H locs Z => ?_)
  · rw [hj] at hcl
    refine l_catch (pre := []) (suf := []) (x := (0, 16, 19, 13)) (ec := 1) (pcx := 19) X Z.2.2 ht rfl (fun _ h => absurd h List.not_mem_nil) (by decide) (by decide) (List.mem_cons_of_mem _ mB926) (by decide) hce hcv hcl rfl ?_
    refine lv_astore_n (lv' := [(3, .ref q9), (0, .ref (G.1 160)), (1, .int x1), (2, .ref (G.1 170))]) hx hb dL_isSound_19 rfl hl (by decide) rfl (fun ls hl => ?_)
    refine lv_iconst (v := nI 1) hx hb dL_isSound_20 (by decide) ?_
    exact kI _ _ _ _ _ _ (Nat.le_of_ble_eq_true rfl) (Nat.le_of_ble_eq_true rfl) dL_isSound_21 Z
  · rw [hj] at hec
    exact absurd hec (by decide)
abbrev wmL_nextTimestamp : List Cond := Cond.codeWith yL_nextTimestamp cL_nextTimestamp 4 (some .int) [(0, 9, 12, 13)] :: wA0
set_option maxHeartbeats 4000000 in
set_option maxRecDepth 100000 in
theorem wL_nextTimestamp_0 (l : Launch) (hst : l.stackTraces = false) {G : LY} {gc : Mem} {ov : Nat → Int64} {x1 : Int32} {r : Nat × Int32} (hm : sX6_nextTimestamp gc x1 = some r) (h0 : r.1 = 0) : cLw l yL_nextTimestamp wmL_nextTimestamp 8 132 1 6 G [.ref (G.1 160), .int x1, .ref (G.1 170)] (wC G gc ++ [oE G ov]) (wC G gc ++ [oE G (vp_updL ov (0 : Int32).toNatClampNeg r.2.toInt64)]) 0 := by
  refine mk_cLw (by decide +kernel) rfl (Nat.le_of_ble_eq_true rfl) (fun p e s m args below meth c A Q ls X ht kI hl Z => ?_)
  have hx := X.1
  have hb := X.2.1
  refine lv_aload_n hx hb dL_nextTimestamp_0 rfl (lv_at hl 2 rfl) ?_
  refine lv_iconst (v := 0) hx hb dL_nextTimestamp_1 (by decide) ?_
  refine lv_aload_n hx hb dL_nextTimestamp_2 rfl (lv_at hl 0 rfl) ?_
  refine lv_iload_n hx hb dL_nextTimestamp_3 rfl (lv_at hl 1 rfl) ?_
  refine l_callX (n := 1) (a := []) (As := [.int x1]) (rest := [.int 0, .ref (G.1 170)]) (c1 := 1) (s1 := 6) sameC adC (sG_r G) X Z (cX6_nextTimestamp_c l hst hm) (oX6 k160) rfl (gooV mB1005 mB1006 mB1007 mB409 mB546) rfl (by decide +kernel) rfl ⟨Nat.le_of_ble_eq_true rfl, Nat.le_of_ble_eq_true rfl⟩ rfl rfl ⟨Nat.le_of_ble_eq_true rfl, Nat.le_of_ble_eq_true rfl⟩ hl.1 rfl (Nat.le_of_ble_eq_true rfl) dL_nextTimestamp_4 (fun hec H locs q9 ce Z hce hcv hcl => ?_) (fun hec w9 H locs Z => ?_)
  · exact absurd h0 hec
  refine lv_i2l hx hb dL_nextTimestamp_7 rfl ?_
  refine l_last rfl X Z dL_nextTimestamp_8 (fun H locs Z => ?_)
  refine lv_goto (tgt := 15) hx hb dL_nextTimestamp_9 (by decide) ?_
  refine lv_iconst (v := nI 0) hx hb dL_nextTimestamp_15 (by decide) ?_
  exact kI _ _ _ _ _ _ (Nat.le_of_ble_eq_true rfl) (Nat.le_of_ble_eq_true rfl) dL_nextTimestamp_16 Z
set_option maxHeartbeats 4000000 in
set_option maxRecDepth 100000 in
theorem wL_nextTimestamp_1 (l : Launch) (hst : l.stackTraces = false) {G : LY} {gc : Mem} {ov : Nat → Int64} {x1 : Int32} {r : Nat × Int32} (hm : sX6_nextTimestamp gc x1 = some r) (hj : r.1 = 1) : cLw l yL_nextTimestamp wmL_nextTimestamp 8 132 1 6 G [.ref (G.1 160), .int x1, .ref (G.1 170)] (wC G gc ++ [oE G ov]) (wC G gc ++ [oE G ov]) 1 := by
  refine mk_cLw (by decide +kernel) rfl (Nat.le_of_ble_eq_true rfl) (fun p e s m args below meth c A Q ls X ht kI hl Z => ?_)
  have hx := X.1
  have hb := X.2.1
  refine lv_aload_n hx hb dL_nextTimestamp_0 rfl (lv_at hl 2 rfl) ?_
  refine lv_iconst (v := 0) hx hb dL_nextTimestamp_1 (by decide) ?_
  refine lv_aload_n hx hb dL_nextTimestamp_2 rfl (lv_at hl 0 rfl) ?_
  refine lv_iload_n hx hb dL_nextTimestamp_3 rfl (lv_at hl 1 rfl) ?_
  refine l_callX (n := 1) (a := []) (As := [.int x1]) (rest := [.int 0, .ref (G.1 170)]) (c1 := 1) (s1 := 6) sameC adC (sG_r G) X Z (cX6_nextTimestamp_c l hst hm) (oX6 k160) rfl (gooV mB1005 mB1006 mB1007 mB409 mB546) rfl (by decide +kernel) rfl ⟨Nat.le_of_ble_eq_true rfl, Nat.le_of_ble_eq_true rfl⟩ rfl rfl ⟨Nat.le_of_ble_eq_true rfl, Nat.le_of_ble_eq_true rfl⟩ hl.1 rfl (Nat.le_of_ble_eq_true rfl) dL_nextTimestamp_4 (fun hec H locs q9 ce Z hce hcv hcl => ?_) (fun hec w9 H locs Z => ?_)
  · rw [hj] at hcl
    refine l_catch (pre := []) (suf := []) (x := (0, 9, 12, 13)) (ec := 1) (pcx := 12) X Z.2.2 ht rfl (fun _ h => absurd h List.not_mem_nil) (by decide) (by decide) (List.mem_cons_of_mem _ mB926) (by decide) hce hcv hcl rfl ?_
    refine lv_astore_n (lv' := [(3, .ref q9), (0, .ref (G.1 160)), (1, .int x1), (2, .ref (G.1 170))]) hx hb dL_nextTimestamp_12 rfl hl (by decide) rfl (fun ls hl => ?_)
    refine lv_iconst (v := nI 1) hx hb dL_nextTimestamp_13 (by decide) ?_
    exact kI _ _ _ _ _ _ (Nat.le_of_ble_eq_true rfl) (Nat.le_of_ble_eq_true rfl) dL_nextTimestamp_14 Z
  · rw [hj] at hec
    exact absurd hec (by decide)
abbrev wmL_state : List Cond := Cond.codeWith yL_state cL_state 4 (some .int) [(0, 9, 12, 13)] :: wA0
set_option maxHeartbeats 4000000 in
set_option maxRecDepth 100000 in
theorem wL_state_0 (l : Launch) (hst : l.stackTraces = false) {G : LY} {gc : Mem} {ov : Nat → Int64} {x1 : Int32} {r : Nat × Int32} (hm : sX6_state gc x1 = some r) (h0 : r.1 = 0) : cLw l yL_state wmL_state 8 132 1 6 G [.ref (G.1 160), .int x1, .ref (G.1 170)] (wC G gc ++ [oE G ov]) (wC G gc ++ [oE G (vp_updL ov (0 : Int32).toNatClampNeg r.2.toInt64)]) 0 := by
  refine mk_cLw (by decide +kernel) rfl (Nat.le_of_ble_eq_true rfl) (fun p e s m args below meth c A Q ls X ht kI hl Z => ?_)
  have hx := X.1
  have hb := X.2.1
  refine lv_aload_n hx hb dL_state_0 rfl (lv_at hl 2 rfl) ?_
  refine lv_iconst (v := 0) hx hb dL_state_1 (by decide) ?_
  refine lv_aload_n hx hb dL_state_2 rfl (lv_at hl 0 rfl) ?_
  refine lv_iload_n hx hb dL_state_3 rfl (lv_at hl 1 rfl) ?_
  refine l_callX (n := 1) (a := []) (As := [.int x1]) (rest := [.int 0, .ref (G.1 170)]) (c1 := 1) (s1 := 6) sameC adC (sG_r G) X Z (cX6_state_c l hst hm) (oX6 k160) rfl (gooV mB1010 mB1011 mB1012 mB409 mB548) rfl (by decide +kernel) rfl ⟨Nat.le_of_ble_eq_true rfl, Nat.le_of_ble_eq_true rfl⟩ rfl rfl ⟨Nat.le_of_ble_eq_true rfl, Nat.le_of_ble_eq_true rfl⟩ hl.1 rfl (Nat.le_of_ble_eq_true rfl) dL_state_4 (fun hec H locs q9 ce Z hce hcv hcl => ?_) (fun hec w9 H locs Z => ?_)
  · exact absurd h0 hec
  refine lv_i2l hx hb dL_state_7 rfl ?_
  refine l_last rfl X Z dL_state_8 (fun H locs Z => ?_)
  refine lv_goto (tgt := 15) hx hb dL_state_9 (by decide) ?_
  refine lv_iconst (v := nI 0) hx hb dL_state_15 (by decide) ?_
  exact kI _ _ _ _ _ _ (Nat.le_of_ble_eq_true rfl) (Nat.le_of_ble_eq_true rfl) dL_state_16 Z
set_option maxHeartbeats 4000000 in
set_option maxRecDepth 100000 in
theorem wL_state_1 (l : Launch) (hst : l.stackTraces = false) {G : LY} {gc : Mem} {ov : Nat → Int64} {x1 : Int32} {r : Nat × Int32} (hm : sX6_state gc x1 = some r) (hj : r.1 = 1) : cLw l yL_state wmL_state 8 132 1 6 G [.ref (G.1 160), .int x1, .ref (G.1 170)] (wC G gc ++ [oE G ov]) (wC G gc ++ [oE G ov]) 1 := by
  refine mk_cLw (by decide +kernel) rfl (Nat.le_of_ble_eq_true rfl) (fun p e s m args below meth c A Q ls X ht kI hl Z => ?_)
  have hx := X.1
  have hb := X.2.1
  refine lv_aload_n hx hb dL_state_0 rfl (lv_at hl 2 rfl) ?_
  refine lv_iconst (v := 0) hx hb dL_state_1 (by decide) ?_
  refine lv_aload_n hx hb dL_state_2 rfl (lv_at hl 0 rfl) ?_
  refine lv_iload_n hx hb dL_state_3 rfl (lv_at hl 1 rfl) ?_
  refine l_callX (n := 1) (a := []) (As := [.int x1]) (rest := [.int 0, .ref (G.1 170)]) (c1 := 1) (s1 := 6) sameC adC (sG_r G) X Z (cX6_state_c l hst hm) (oX6 k160) rfl (gooV mB1010 mB1011 mB1012 mB409 mB548) rfl (by decide +kernel) rfl ⟨Nat.le_of_ble_eq_true rfl, Nat.le_of_ble_eq_true rfl⟩ rfl rfl ⟨Nat.le_of_ble_eq_true rfl, Nat.le_of_ble_eq_true rfl⟩ hl.1 rfl (Nat.le_of_ble_eq_true rfl) dL_state_4 (fun hec H locs q9 ce Z hce hcv hcl => ?_) (fun hec w9 H locs Z => ?_)
  · rw [hj] at hcl
    refine l_catch (pre := []) (suf := []) (x := (0, 9, 12, 13)) (ec := 1) (pcx := 12) X Z.2.2 ht rfl (fun _ h => absurd h List.not_mem_nil) (by decide) (by decide) (List.mem_cons_of_mem _ mB926) (by decide) hce hcv hcl rfl ?_
    refine lv_astore_n (lv' := [(3, .ref q9), (0, .ref (G.1 160)), (1, .int x1), (2, .ref (G.1 170))]) hx hb dL_state_12 rfl hl (by decide) rfl (fun ls hl => ?_)
    refine lv_iconst (v := nI 1) hx hb dL_state_13 (by decide) ?_
    exact kI _ _ _ _ _ _ (Nat.le_of_ble_eq_true rfl) (Nat.le_of_ble_eq_true rfl) dL_state_14 Z
  · rw [hj] at hec
    exact absurd hec (by decide)
abbrev wmL_timestamp : List Cond := Cond.codeWith yL_timestamp cL_timestamp 4 (some .int) [(0, 9, 12, 13)] :: wA0
set_option maxHeartbeats 4000000 in
set_option maxRecDepth 100000 in
theorem wL_timestamp_0 (l : Launch) (hst : l.stackTraces = false) {G : LY} {gc : Mem} {ov : Nat → Int64} {x1 : Int32} {r : Nat × Int32} (hm : sX6_timestamp gc x1 = some r) (h0 : r.1 = 0) : cLw l yL_timestamp wmL_timestamp 8 132 1 6 G [.ref (G.1 160), .int x1, .ref (G.1 170)] (wC G gc ++ [oE G ov]) (wC G gc ++ [oE G (vp_updL ov (0 : Int32).toNatClampNeg r.2.toInt64)]) 0 := by
  refine mk_cLw (by decide +kernel) rfl (Nat.le_of_ble_eq_true rfl) (fun p e s m args below meth c A Q ls X ht kI hl Z => ?_)
  have hx := X.1
  have hb := X.2.1
  refine lv_aload_n hx hb dL_timestamp_0 rfl (lv_at hl 2 rfl) ?_
  refine lv_iconst (v := 0) hx hb dL_timestamp_1 (by decide) ?_
  refine lv_aload_n hx hb dL_timestamp_2 rfl (lv_at hl 0 rfl) ?_
  refine lv_iload_n hx hb dL_timestamp_3 rfl (lv_at hl 1 rfl) ?_
  refine l_callX (n := 1) (a := []) (As := [.int x1]) (rest := [.int 0, .ref (G.1 170)]) (c1 := 1) (s1 := 6) sameC adC (sG_r G) X Z (cX6_timestamp_c l hst hm) (oX6 k160) rfl (gooV mB1014 mB1015 mB1016 mB409 mB550) rfl (by decide +kernel) rfl ⟨Nat.le_of_ble_eq_true rfl, Nat.le_of_ble_eq_true rfl⟩ rfl rfl ⟨Nat.le_of_ble_eq_true rfl, Nat.le_of_ble_eq_true rfl⟩ hl.1 rfl (Nat.le_of_ble_eq_true rfl) dL_timestamp_4 (fun hec H locs q9 ce Z hce hcv hcl => ?_) (fun hec w9 H locs Z => ?_)
  · exact absurd h0 hec
  refine lv_i2l hx hb dL_timestamp_7 rfl ?_
  refine l_last rfl X Z dL_timestamp_8 (fun H locs Z => ?_)
  refine lv_goto (tgt := 15) hx hb dL_timestamp_9 (by decide) ?_
  refine lv_iconst (v := nI 0) hx hb dL_timestamp_15 (by decide) ?_
  exact kI _ _ _ _ _ _ (Nat.le_of_ble_eq_true rfl) (Nat.le_of_ble_eq_true rfl) dL_timestamp_16 Z
set_option maxHeartbeats 4000000 in
set_option maxRecDepth 100000 in
theorem wL_timestamp_1 (l : Launch) (hst : l.stackTraces = false) {G : LY} {gc : Mem} {ov : Nat → Int64} {x1 : Int32} {r : Nat × Int32} (hm : sX6_timestamp gc x1 = some r) (hj : r.1 = 1) : cLw l yL_timestamp wmL_timestamp 8 132 1 6 G [.ref (G.1 160), .int x1, .ref (G.1 170)] (wC G gc ++ [oE G ov]) (wC G gc ++ [oE G ov]) 1 := by
  refine mk_cLw (by decide +kernel) rfl (Nat.le_of_ble_eq_true rfl) (fun p e s m args below meth c A Q ls X ht kI hl Z => ?_)
  have hx := X.1
  have hb := X.2.1
  refine lv_aload_n hx hb dL_timestamp_0 rfl (lv_at hl 2 rfl) ?_
  refine lv_iconst (v := 0) hx hb dL_timestamp_1 (by decide) ?_
  refine lv_aload_n hx hb dL_timestamp_2 rfl (lv_at hl 0 rfl) ?_
  refine lv_iload_n hx hb dL_timestamp_3 rfl (lv_at hl 1 rfl) ?_
  refine l_callX (n := 1) (a := []) (As := [.int x1]) (rest := [.int 0, .ref (G.1 170)]) (c1 := 1) (s1 := 6) sameC adC (sG_r G) X Z (cX6_timestamp_c l hst hm) (oX6 k160) rfl (gooV mB1014 mB1015 mB1016 mB409 mB550) rfl (by decide +kernel) rfl ⟨Nat.le_of_ble_eq_true rfl, Nat.le_of_ble_eq_true rfl⟩ rfl rfl ⟨Nat.le_of_ble_eq_true rfl, Nat.le_of_ble_eq_true rfl⟩ hl.1 rfl (Nat.le_of_ble_eq_true rfl) dL_timestamp_4 (fun hec H locs q9 ce Z hce hcv hcl => ?_) (fun hec w9 H locs Z => ?_)
  · rw [hj] at hcl
    refine l_catch (pre := []) (suf := []) (x := (0, 9, 12, 13)) (ec := 1) (pcx := 12) X Z.2.2 ht rfl (fun _ h => absurd h List.not_mem_nil) (by decide) (by decide) (List.mem_cons_of_mem _ mB926) (by decide) hce hcv hcl rfl ?_
    refine lv_astore_n (lv' := [(3, .ref q9), (0, .ref (G.1 160)), (1, .int x1), (2, .ref (G.1 170))]) hx hb dL_timestamp_12 rfl hl (by decide) rfl (fun ls hl => ?_)
    refine lv_iconst (v := nI 1) hx hb dL_timestamp_13 (by decide) ?_
    exact kI _ _ _ _ _ _ (Nat.le_of_ble_eq_true rfl) (Nat.le_of_ble_eq_true rfl) dL_timestamp_14 Z
  · rw [hj] at hec
    exact absurd hec (by decide)
abbrev wmL_requestTime : List Cond := Cond.codeWith yL_requestTime cL_requestTime 4 (some .int) [(0, 9, 12, 13)] :: wA0
set_option maxHeartbeats 4000000 in
set_option maxRecDepth 100000 in
theorem wL_requestTime_0 (l : Launch) (hst : l.stackTraces = false) {G : LY} {gc : Mem} {ov : Nat → Int64} {x1 : Int32} {r : Nat × Int32} (hm : sX6_requestTime gc x1 = some r) (h0 : r.1 = 0) : cLw l yL_requestTime wmL_requestTime 8 132 1 6 G [.ref (G.1 160), .int x1, .ref (G.1 170)] (wC G gc ++ [oE G ov]) (wC G gc ++ [oE G (vp_updL ov (0 : Int32).toNatClampNeg r.2.toInt64)]) 0 := by
  refine mk_cLw (by decide +kernel) rfl (Nat.le_of_ble_eq_true rfl) (fun p e s m args below meth c A Q ls X ht kI hl Z => ?_)
  have hx := X.1
  have hb := X.2.1
  refine lv_aload_n hx hb dL_requestTime_0 rfl (lv_at hl 2 rfl) ?_
  refine lv_iconst (v := 0) hx hb dL_requestTime_1 (by decide) ?_
  refine lv_aload_n hx hb dL_requestTime_2 rfl (lv_at hl 0 rfl) ?_
  refine lv_iload_n hx hb dL_requestTime_3 rfl (lv_at hl 1 rfl) ?_
  refine l_callX (n := 1) (a := []) (As := [.int x1]) (rest := [.int 0, .ref (G.1 170)]) (c1 := 1) (s1 := 6) sameC adC (sG_r G) X Z (cX6_requestTime_c l hst hm) (oX6 k160) rfl (gooV mB1018 mB1019 mB1020 mB409 mB552) rfl (by decide +kernel) rfl ⟨Nat.le_of_ble_eq_true rfl, Nat.le_of_ble_eq_true rfl⟩ rfl rfl ⟨Nat.le_of_ble_eq_true rfl, Nat.le_of_ble_eq_true rfl⟩ hl.1 rfl (Nat.le_of_ble_eq_true rfl) dL_requestTime_4 (fun hec H locs q9 ce Z hce hcv hcl => ?_) (fun hec w9 H locs Z => ?_)
  · exact absurd h0 hec
  refine lv_i2l hx hb dL_requestTime_7 rfl ?_
  refine l_last rfl X Z dL_requestTime_8 (fun H locs Z => ?_)
  refine lv_goto (tgt := 15) hx hb dL_requestTime_9 (by decide) ?_
  refine lv_iconst (v := nI 0) hx hb dL_requestTime_15 (by decide) ?_
  exact kI _ _ _ _ _ _ (Nat.le_of_ble_eq_true rfl) (Nat.le_of_ble_eq_true rfl) dL_requestTime_16 Z
set_option maxHeartbeats 4000000 in
set_option maxRecDepth 100000 in
theorem wL_requestTime_1 (l : Launch) (hst : l.stackTraces = false) {G : LY} {gc : Mem} {ov : Nat → Int64} {x1 : Int32} {r : Nat × Int32} (hm : sX6_requestTime gc x1 = some r) (hj : r.1 = 1) : cLw l yL_requestTime wmL_requestTime 8 132 1 6 G [.ref (G.1 160), .int x1, .ref (G.1 170)] (wC G gc ++ [oE G ov]) (wC G gc ++ [oE G ov]) 1 := by
  refine mk_cLw (by decide +kernel) rfl (Nat.le_of_ble_eq_true rfl) (fun p e s m args below meth c A Q ls X ht kI hl Z => ?_)
  have hx := X.1
  have hb := X.2.1
  refine lv_aload_n hx hb dL_requestTime_0 rfl (lv_at hl 2 rfl) ?_
  refine lv_iconst (v := 0) hx hb dL_requestTime_1 (by decide) ?_
  refine lv_aload_n hx hb dL_requestTime_2 rfl (lv_at hl 0 rfl) ?_
  refine lv_iload_n hx hb dL_requestTime_3 rfl (lv_at hl 1 rfl) ?_
  refine l_callX (n := 1) (a := []) (As := [.int x1]) (rest := [.int 0, .ref (G.1 170)]) (c1 := 1) (s1 := 6) sameC adC (sG_r G) X Z (cX6_requestTime_c l hst hm) (oX6 k160) rfl (gooV mB1018 mB1019 mB1020 mB409 mB552) rfl (by decide +kernel) rfl ⟨Nat.le_of_ble_eq_true rfl, Nat.le_of_ble_eq_true rfl⟩ rfl rfl ⟨Nat.le_of_ble_eq_true rfl, Nat.le_of_ble_eq_true rfl⟩ hl.1 rfl (Nat.le_of_ble_eq_true rfl) dL_requestTime_4 (fun hec H locs q9 ce Z hce hcv hcl => ?_) (fun hec w9 H locs Z => ?_)
  · rw [hj] at hcl
    refine l_catch (pre := []) (suf := []) (x := (0, 9, 12, 13)) (ec := 1) (pcx := 12) X Z.2.2 ht rfl (fun _ h => absurd h List.not_mem_nil) (by decide) (by decide) (List.mem_cons_of_mem _ mB926) (by decide) hce hcv hcl rfl ?_
    refine lv_astore_n (lv' := [(3, .ref q9), (0, .ref (G.1 160)), (1, .int x1), (2, .ref (G.1 170))]) hx hb dL_requestTime_12 rfl hl (by decide) rfl (fun ls hl => ?_)
    refine lv_iconst (v := nI 1) hx hb dL_requestTime_13 (by decide) ?_
    exact kI _ _ _ _ _ _ (Nat.le_of_ble_eq_true rfl) (Nat.le_of_ble_eq_true rfl) dL_requestTime_14 Z
  · rw [hj] at hec
    exact absurd hec (by decide)
abbrev wmL_commitTime : List Cond := Cond.codeWith yL_commitTime cL_commitTime 4 (some .int) [(0, 9, 12, 13)] :: wA0
set_option maxHeartbeats 4000000 in
set_option maxRecDepth 100000 in
theorem wL_commitTime_0 (l : Launch) (hst : l.stackTraces = false) {G : LY} {gc : Mem} {ov : Nat → Int64} {x1 : Int32} {r : Nat × Int32} (hm : sX6_commitTime gc x1 = some r) (h0 : r.1 = 0) : cLw l yL_commitTime wmL_commitTime 8 132 1 6 G [.ref (G.1 160), .int x1, .ref (G.1 170)] (wC G gc ++ [oE G ov]) (wC G gc ++ [oE G (vp_updL ov (0 : Int32).toNatClampNeg r.2.toInt64)]) 0 := by
  refine mk_cLw (by decide +kernel) rfl (Nat.le_of_ble_eq_true rfl) (fun p e s m args below meth c A Q ls X ht kI hl Z => ?_)
  have hx := X.1
  have hb := X.2.1
  refine lv_aload_n hx hb dL_commitTime_0 rfl (lv_at hl 2 rfl) ?_
  refine lv_iconst (v := 0) hx hb dL_commitTime_1 (by decide) ?_
  refine lv_aload_n hx hb dL_commitTime_2 rfl (lv_at hl 0 rfl) ?_
  refine lv_iload_n hx hb dL_commitTime_3 rfl (lv_at hl 1 rfl) ?_
  refine l_callX (n := 1) (a := []) (As := [.int x1]) (rest := [.int 0, .ref (G.1 170)]) (c1 := 1) (s1 := 6) sameC adC (sG_r G) X Z (cX6_commitTime_c l hst hm) (oX6 k160) rfl (gooV mB1022 mB1023 mB1024 mB409 mB554) rfl (by decide +kernel) rfl ⟨Nat.le_of_ble_eq_true rfl, Nat.le_of_ble_eq_true rfl⟩ rfl rfl ⟨Nat.le_of_ble_eq_true rfl, Nat.le_of_ble_eq_true rfl⟩ hl.1 rfl (Nat.le_of_ble_eq_true rfl) dL_commitTime_4 (fun hec H locs q9 ce Z hce hcv hcl => ?_) (fun hec w9 H locs Z => ?_)
  · exact absurd h0 hec
  refine lv_i2l hx hb dL_commitTime_7 rfl ?_
  refine l_last rfl X Z dL_commitTime_8 (fun H locs Z => ?_)
  refine lv_goto (tgt := 15) hx hb dL_commitTime_9 (by decide) ?_
  refine lv_iconst (v := nI 0) hx hb dL_commitTime_15 (by decide) ?_
  exact kI _ _ _ _ _ _ (Nat.le_of_ble_eq_true rfl) (Nat.le_of_ble_eq_true rfl) dL_commitTime_16 Z
set_option maxHeartbeats 4000000 in
set_option maxRecDepth 100000 in
theorem wL_commitTime_1 (l : Launch) (hst : l.stackTraces = false) {G : LY} {gc : Mem} {ov : Nat → Int64} {x1 : Int32} {r : Nat × Int32} (hm : sX6_commitTime gc x1 = some r) (hj : r.1 = 1) : cLw l yL_commitTime wmL_commitTime 8 132 1 6 G [.ref (G.1 160), .int x1, .ref (G.1 170)] (wC G gc ++ [oE G ov]) (wC G gc ++ [oE G ov]) 1 := by
  refine mk_cLw (by decide +kernel) rfl (Nat.le_of_ble_eq_true rfl) (fun p e s m args below meth c A Q ls X ht kI hl Z => ?_)
  have hx := X.1
  have hb := X.2.1
  refine lv_aload_n hx hb dL_commitTime_0 rfl (lv_at hl 2 rfl) ?_
  refine lv_iconst (v := 0) hx hb dL_commitTime_1 (by decide) ?_
  refine lv_aload_n hx hb dL_commitTime_2 rfl (lv_at hl 0 rfl) ?_
  refine lv_iload_n hx hb dL_commitTime_3 rfl (lv_at hl 1 rfl) ?_
  refine l_callX (n := 1) (a := []) (As := [.int x1]) (rest := [.int 0, .ref (G.1 170)]) (c1 := 1) (s1 := 6) sameC adC (sG_r G) X Z (cX6_commitTime_c l hst hm) (oX6 k160) rfl (gooV mB1022 mB1023 mB1024 mB409 mB554) rfl (by decide +kernel) rfl ⟨Nat.le_of_ble_eq_true rfl, Nat.le_of_ble_eq_true rfl⟩ rfl rfl ⟨Nat.le_of_ble_eq_true rfl, Nat.le_of_ble_eq_true rfl⟩ hl.1 rfl (Nat.le_of_ble_eq_true rfl) dL_commitTime_4 (fun hec H locs q9 ce Z hce hcv hcl => ?_) (fun hec w9 H locs Z => ?_)
  · rw [hj] at hcl
    refine l_catch (pre := []) (suf := []) (x := (0, 9, 12, 13)) (ec := 1) (pcx := 12) X Z.2.2 ht rfl (fun _ h => absurd h List.not_mem_nil) (by decide) (by decide) (List.mem_cons_of_mem _ mB926) (by decide) hce hcv hcl rfl ?_
    refine lv_astore_n (lv' := [(3, .ref q9), (0, .ref (G.1 160)), (1, .int x1), (2, .ref (G.1 170))]) hx hb dL_commitTime_12 rfl hl (by decide) rfl (fun ls hl => ?_)
    refine lv_iconst (v := nI 1) hx hb dL_commitTime_13 (by decide) ?_
    exact kI _ _ _ _ _ _ (Nat.le_of_ble_eq_true rfl) (Nat.le_of_ble_eq_true rfl) dL_commitTime_14 Z
  · rw [hj] at hec
    exact absurd hec (by decide)
abbrev wmL_bufferedValue : List Cond := Cond.codeWith yL_bufferedValue cL_bufferedValue 5 (some .int) [(0, 10, 13, 13)] :: wA0
set_option maxHeartbeats 4000000 in
set_option maxRecDepth 100000 in
theorem wL_bufferedValue_0 (l : Launch) (hst : l.stackTraces = false) {G : LY} {gc : Mem} {ov : Nat → Int64} {x1 : Int32} {x2 : Int32} {r : Nat × Int32} (hm : sX6_bufferedValue gc x1 x2 = some r) (h0 : r.1 = 0) : cLw l yL_bufferedValue wmL_bufferedValue 8 133 2 12 G [.ref (G.1 160), .int x1, .int x2, .ref (G.1 170)] (wC G gc ++ [oE G ov]) (wC G gc ++ [oE G (vp_updL ov (0 : Int32).toNatClampNeg r.2.toInt64)]) 0 := by
  refine mk_cLw (by decide +kernel) rfl (Nat.le_of_ble_eq_true rfl) (fun p e s m args below meth c A Q ls X ht kI hl Z => ?_)
  have hx := X.1
  have hb := X.2.1
  refine lv_aload_n hx hb dL_bufferedValue_0 rfl (lv_at hl 3 rfl) ?_
  refine lv_iconst (v := 0) hx hb dL_bufferedValue_1 (by decide) ?_
  refine lv_aload_n hx hb dL_bufferedValue_2 rfl (lv_at hl 0 rfl) ?_
  refine lv_iload_n hx hb dL_bufferedValue_3 rfl (lv_at hl 1 rfl) ?_
  refine lv_iload_n hx hb dL_bufferedValue_4 rfl (lv_at hl 2 rfl) ?_
  refine l_callX (n := 2) (a := []) (As := [.int x1, .int x2]) (rest := [.int 0, .ref (G.1 170)]) (c1 := 2) (s1 := 12) sameC adC (sG_r G) X Z (cX6_bufferedValue_c l hst hm) (oX6 k160) rfl (gooV mB1025 mB1026 mB1027 mB409 mB556) rfl (by decide +kernel) rfl ⟨Nat.le_of_ble_eq_true rfl, Nat.le_of_ble_eq_true rfl⟩ rfl rfl ⟨Nat.le_of_ble_eq_true rfl, Nat.le_of_ble_eq_true rfl⟩ hl.1 rfl (Nat.le_of_ble_eq_true rfl) dL_bufferedValue_5 (fun hec H locs q9 ce Z hce hcv hcl => ?_) (fun hec w9 H locs Z => ?_)
  · exact absurd h0 hec
  refine lv_i2l hx hb dL_bufferedValue_8 rfl ?_
  refine l_last rfl X Z dL_bufferedValue_9 (fun H locs Z => ?_)
  refine lv_goto (tgt := 17) hx hb dL_bufferedValue_10 (by decide) ?_
  refine lv_iconst (v := nI 0) hx hb dL_bufferedValue_17 (by decide) ?_
  exact kI _ _ _ _ _ _ (Nat.le_of_ble_eq_true rfl) (Nat.le_of_ble_eq_true rfl) dL_bufferedValue_18 Z
set_option maxHeartbeats 4000000 in
set_option maxRecDepth 100000 in
theorem wL_bufferedValue_1 (l : Launch) (hst : l.stackTraces = false) {G : LY} {gc : Mem} {ov : Nat → Int64} {x1 : Int32} {x2 : Int32} {r : Nat × Int32} (hm : sX6_bufferedValue gc x1 x2 = some r) (hj : r.1 = 1) : cLw l yL_bufferedValue wmL_bufferedValue 8 133 2 12 G [.ref (G.1 160), .int x1, .int x2, .ref (G.1 170)] (wC G gc ++ [oE G ov]) (wC G gc ++ [oE G ov]) 1 := by
  refine mk_cLw (by decide +kernel) rfl (Nat.le_of_ble_eq_true rfl) (fun p e s m args below meth c A Q ls X ht kI hl Z => ?_)
  have hx := X.1
  have hb := X.2.1
  refine lv_aload_n hx hb dL_bufferedValue_0 rfl (lv_at hl 3 rfl) ?_
  refine lv_iconst (v := 0) hx hb dL_bufferedValue_1 (by decide) ?_
  refine lv_aload_n hx hb dL_bufferedValue_2 rfl (lv_at hl 0 rfl) ?_
  refine lv_iload_n hx hb dL_bufferedValue_3 rfl (lv_at hl 1 rfl) ?_
  refine lv_iload_n hx hb dL_bufferedValue_4 rfl (lv_at hl 2 rfl) ?_
  refine l_callX (n := 2) (a := []) (As := [.int x1, .int x2]) (rest := [.int 0, .ref (G.1 170)]) (c1 := 2) (s1 := 12) sameC adC (sG_r G) X Z (cX6_bufferedValue_c l hst hm) (oX6 k160) rfl (gooV mB1025 mB1026 mB1027 mB409 mB556) rfl (by decide +kernel) rfl ⟨Nat.le_of_ble_eq_true rfl, Nat.le_of_ble_eq_true rfl⟩ rfl rfl ⟨Nat.le_of_ble_eq_true rfl, Nat.le_of_ble_eq_true rfl⟩ hl.1 rfl (Nat.le_of_ble_eq_true rfl) dL_bufferedValue_5 (fun hec H locs q9 ce Z hce hcv hcl => ?_) (fun hec w9 H locs Z => ?_)
  · rw [hj] at hcl
    refine l_catch (pre := []) (suf := []) (x := (0, 10, 13, 13)) (ec := 1) (pcx := 13) X Z.2.2 ht rfl (fun _ h => absurd h List.not_mem_nil) (by decide) (by decide) (List.mem_cons_of_mem _ mB926) (by decide) hce hcv hcl rfl ?_
    refine lv_astore (lv' := [(4, .ref q9), (0, .ref (G.1 160)), (1, .int x1), (2, .int x2), (3, .ref (G.1 170))]) hx hb dL_bufferedValue_13 hl (by decide) rfl (fun ls hl => ?_)
    refine lv_iconst (v := nI 1) hx hb dL_bufferedValue_15 (by decide) ?_
    exact kI _ _ _ _ _ _ (Nat.le_of_ble_eq_true rfl) (Nat.le_of_ble_eq_true rfl) dL_bufferedValue_16 Z
  · rw [hj] at hec
    exact absurd hec (by decide)
abbrev wmL_recordedTimestamp : List Cond := Cond.codeWith yL_recordedTimestamp cL_recordedTimestamp 5 (some .int) [(0, 10, 13, 13)] :: wA0
set_option maxHeartbeats 4000000 in
set_option maxRecDepth 100000 in
theorem wL_recordedTimestamp_0 (l : Launch) (hst : l.stackTraces = false) {G : LY} {gc : Mem} {ov : Nat → Int64} {x1 : Int32} {x2 : Int32} {r : Nat × Int32} (hm : sX6_recordedTimestamp gc x1 x2 = some r) (h0 : r.1 = 0) : cLw l yL_recordedTimestamp wmL_recordedTimestamp 8 134 2 12 G [.ref (G.1 160), .int x1, .int x2, .ref (G.1 170)] (wC G gc ++ [oE G ov]) (wC G gc ++ [oE G (vp_updL ov (0 : Int32).toNatClampNeg r.2.toInt64)]) 0 := by
  refine mk_cLw (by decide +kernel) rfl (Nat.le_of_ble_eq_true rfl) (fun p e s m args below meth c A Q ls X ht kI hl Z => ?_)
  have hx := X.1
  have hb := X.2.1
  refine lv_aload_n hx hb dL_recordedTimestamp_0 rfl (lv_at hl 3 rfl) ?_
  refine lv_iconst (v := 0) hx hb dL_recordedTimestamp_1 (by decide) ?_
  refine lv_aload_n hx hb dL_recordedTimestamp_2 rfl (lv_at hl 0 rfl) ?_
  refine lv_iload_n hx hb dL_recordedTimestamp_3 rfl (lv_at hl 1 rfl) ?_
  refine lv_iload_n hx hb dL_recordedTimestamp_4 rfl (lv_at hl 2 rfl) ?_
  refine l_callX (n := 2) (a := []) (As := [.int x1, .int x2]) (rest := [.int 0, .ref (G.1 170)]) (c1 := 2) (s1 := 12) sameC adC (sG_r G) X Z (cX6_recordedTimestamp_c l hst hm) (oX6 k160) rfl (gooV mB1029 mB1030 mB1031 mB409 mB560) rfl (by decide +kernel) rfl ⟨Nat.le_of_ble_eq_true rfl, Nat.le_of_ble_eq_true rfl⟩ rfl rfl ⟨Nat.le_of_ble_eq_true rfl, Nat.le_of_ble_eq_true rfl⟩ hl.1 rfl (Nat.le_of_ble_eq_true rfl) dL_recordedTimestamp_5 (fun hec H locs q9 ce Z hce hcv hcl => ?_) (fun hec w9 H locs Z => ?_)
  · exact absurd h0 hec
  refine lv_i2l hx hb dL_recordedTimestamp_8 rfl ?_
  refine l_last rfl X Z dL_recordedTimestamp_9 (fun H locs Z => ?_)
  refine lv_goto (tgt := 17) hx hb dL_recordedTimestamp_10 (by decide) ?_
  refine lv_iconst (v := nI 0) hx hb dL_recordedTimestamp_17 (by decide) ?_
  exact kI _ _ _ _ _ _ (Nat.le_of_ble_eq_true rfl) (Nat.le_of_ble_eq_true rfl) dL_recordedTimestamp_18 Z
set_option maxHeartbeats 4000000 in
set_option maxRecDepth 100000 in
theorem wL_recordedTimestamp_1 (l : Launch) (hst : l.stackTraces = false) {G : LY} {gc : Mem} {ov : Nat → Int64} {x1 : Int32} {x2 : Int32} {r : Nat × Int32} (hm : sX6_recordedTimestamp gc x1 x2 = some r) (hj : r.1 = 1) : cLw l yL_recordedTimestamp wmL_recordedTimestamp 8 134 2 12 G [.ref (G.1 160), .int x1, .int x2, .ref (G.1 170)] (wC G gc ++ [oE G ov]) (wC G gc ++ [oE G ov]) 1 := by
  refine mk_cLw (by decide +kernel) rfl (Nat.le_of_ble_eq_true rfl) (fun p e s m args below meth c A Q ls X ht kI hl Z => ?_)
  have hx := X.1
  have hb := X.2.1
  refine lv_aload_n hx hb dL_recordedTimestamp_0 rfl (lv_at hl 3 rfl) ?_
  refine lv_iconst (v := 0) hx hb dL_recordedTimestamp_1 (by decide) ?_
  refine lv_aload_n hx hb dL_recordedTimestamp_2 rfl (lv_at hl 0 rfl) ?_
  refine lv_iload_n hx hb dL_recordedTimestamp_3 rfl (lv_at hl 1 rfl) ?_
  refine lv_iload_n hx hb dL_recordedTimestamp_4 rfl (lv_at hl 2 rfl) ?_
  refine l_callX (n := 2) (a := []) (As := [.int x1, .int x2]) (rest := [.int 0, .ref (G.1 170)]) (c1 := 2) (s1 := 12) sameC adC (sG_r G) X Z (cX6_recordedTimestamp_c l hst hm) (oX6 k160) rfl (gooV mB1029 mB1030 mB1031 mB409 mB560) rfl (by decide +kernel) rfl ⟨Nat.le_of_ble_eq_true rfl, Nat.le_of_ble_eq_true rfl⟩ rfl rfl ⟨Nat.le_of_ble_eq_true rfl, Nat.le_of_ble_eq_true rfl⟩ hl.1 rfl (Nat.le_of_ble_eq_true rfl) dL_recordedTimestamp_5 (fun hec H locs q9 ce Z hce hcv hcl => ?_) (fun hec w9 H locs Z => ?_)
  · rw [hj] at hcl
    refine l_catch (pre := []) (suf := []) (x := (0, 10, 13, 13)) (ec := 1) (pcx := 13) X Z.2.2 ht rfl (fun _ h => absurd h List.not_mem_nil) (by decide) (by decide) (List.mem_cons_of_mem _ mB926) (by decide) hce hcv hcl rfl ?_
    refine lv_astore (lv' := [(4, .ref q9), (0, .ref (G.1 160)), (1, .int x1), (2, .int x2), (3, .ref (G.1 170))]) hx hb dL_recordedTimestamp_13 hl (by decide) rfl (fun ls hl => ?_)
    refine lv_iconst (v := nI 1) hx hb dL_recordedTimestamp_15 (by decide) ?_
    exact kI _ _ _ _ _ _ (Nat.le_of_ble_eq_true rfl) (Nat.le_of_ble_eq_true rfl) dL_recordedTimestamp_16 Z
  · rw [hj] at hec
    exact absurd hec (by decide)
abbrev wmL_ifCommitted : List Cond := Cond.codeWith yL_ifCommitted cL_ifCommitted 4 (some .int) [(0, 9, 12, 13)] :: wA0
set_option maxHeartbeats 4000000 in
set_option maxRecDepth 100000 in
theorem wL_ifCommitted_0 (l : Launch) (hst : l.stackTraces = false) {G : LY} {gc : Mem} {ov : Nat → Int64} {n : Nat} {x1 : Int32} {r : Nat × Int32} (hm : sX6_ifCommitted n gc x1 = some r) (h0 : r.1 = 0) : cLw l yL_ifCommitted wmL_ifCommitted 8 133 1 6 G [.ref (G.1 160), .int x1, .ref (G.1 170)] (wC G gc ++ [oE G ov]) (wC G gc ++ [oE G (vp_updL ov (0 : Int32).toNatClampNeg r.2.toInt64)]) 0 := by
  refine mk_cLw (by decide +kernel) rfl (Nat.le_of_ble_eq_true rfl) (fun p e s m args below meth c A Q ls X ht kI hl Z => ?_)
  have hx := X.1
  have hb := X.2.1
  refine lv_aload_n hx hb dL_ifCommitted_0 rfl (lv_at hl 2 rfl) ?_
  refine lv_iconst (v := 0) hx hb dL_ifCommitted_1 (by decide) ?_
  refine lv_aload_n hx hb dL_ifCommitted_2 rfl (lv_at hl 0 rfl) ?_
  refine lv_iload_n hx hb dL_ifCommitted_3 rfl (lv_at hl 1 rfl) ?_
  refine l_callX (n := 1) (a := []) (As := [.int x1]) (rest := [.int 0, .ref (G.1 170)]) (c1 := 1) (s1 := 6) sameC adC (sG_r G) X Z (cX6_ifCommitted_c l hst hm) (oX6 k160) rfl (gooV mB1033 mB1034 mB1035 mB409 mB561) rfl (by decide +kernel) rfl ⟨Nat.le_of_ble_eq_true rfl, Nat.le_of_ble_eq_true rfl⟩ rfl rfl ⟨Nat.le_of_ble_eq_true rfl, Nat.le_of_ble_eq_true rfl⟩ hl.1 rfl (Nat.le_of_ble_eq_true rfl) dL_ifCommitted_4 (fun hec H locs q9 ce Z hce hcv hcl => ?_) (fun hec w9 H locs Z => ?_)
  · exact absurd h0 hec
  refine lv_i2l hx hb dL_ifCommitted_7 rfl ?_
  refine l_last rfl X Z dL_ifCommitted_8 (fun H locs Z => ?_)
  refine lv_goto (tgt := 15) hx hb dL_ifCommitted_9 (by decide) ?_
  refine lv_iconst (v := nI 0) hx hb dL_ifCommitted_15 (by decide) ?_
  exact kI _ _ _ _ _ _ (Nat.le_of_ble_eq_true rfl) (Nat.le_of_ble_eq_true rfl) dL_ifCommitted_16 Z
set_option maxHeartbeats 4000000 in
set_option maxRecDepth 100000 in
theorem wL_ifCommitted_1 (l : Launch) (hst : l.stackTraces = false) {G : LY} {gc : Mem} {ov : Nat → Int64} {n : Nat} {x1 : Int32} {r : Nat × Int32} (hm : sX6_ifCommitted n gc x1 = some r) (hj : r.1 = 1) : cLw l yL_ifCommitted wmL_ifCommitted 8 133 1 6 G [.ref (G.1 160), .int x1, .ref (G.1 170)] (wC G gc ++ [oE G ov]) (wC G gc ++ [oE G ov]) 1 := by
  refine mk_cLw (by decide +kernel) rfl (Nat.le_of_ble_eq_true rfl) (fun p e s m args below meth c A Q ls X ht kI hl Z => ?_)
  have hx := X.1
  have hb := X.2.1
  refine lv_aload_n hx hb dL_ifCommitted_0 rfl (lv_at hl 2 rfl) ?_
  refine lv_iconst (v := 0) hx hb dL_ifCommitted_1 (by decide) ?_
  refine lv_aload_n hx hb dL_ifCommitted_2 rfl (lv_at hl 0 rfl) ?_
  refine lv_iload_n hx hb dL_ifCommitted_3 rfl (lv_at hl 1 rfl) ?_
  refine l_callX (n := 1) (a := []) (As := [.int x1]) (rest := [.int 0, .ref (G.1 170)]) (c1 := 1) (s1 := 6) sameC adC (sG_r G) X Z (cX6_ifCommitted_c l hst hm) (oX6 k160) rfl (gooV mB1033 mB1034 mB1035 mB409 mB561) rfl (by decide +kernel) rfl ⟨Nat.le_of_ble_eq_true rfl, Nat.le_of_ble_eq_true rfl⟩ rfl rfl ⟨Nat.le_of_ble_eq_true rfl, Nat.le_of_ble_eq_true rfl⟩ hl.1 rfl (Nat.le_of_ble_eq_true rfl) dL_ifCommitted_4 (fun hec H locs q9 ce Z hce hcv hcl => ?_) (fun hec w9 H locs Z => ?_)
  · rw [hj] at hcl
    refine l_catch (pre := []) (suf := []) (x := (0, 9, 12, 13)) (ec := 1) (pcx := 12) X Z.2.2 ht rfl (fun _ h => absurd h List.not_mem_nil) (by decide) (by decide) (List.mem_cons_of_mem _ mB926) (by decide) hce hcv hcl rfl ?_
    refine lv_astore_n (lv' := [(3, .ref q9), (0, .ref (G.1 160)), (1, .int x1), (2, .ref (G.1 170))]) hx hb dL_ifCommitted_12 rfl hl (by decide) rfl (fun ls hl => ?_)
    refine lv_iconst (v := nI 1) hx hb dL_ifCommitted_13 (by decide) ?_
    exact kI _ _ _ _ _ _ (Nat.le_of_ble_eq_true rfl) (Nat.le_of_ble_eq_true rfl) dL_ifCommitted_14 Z
  · rw [hj] at hec
    exact absurd hec (by decide)
abbrev wmL_ticksToCommit : List Cond := Cond.codeWith yL_ticksToCommit cL_ticksToCommit 4 (some .int) [(0, 9, 12, 13)] :: wA0
set_option maxHeartbeats 4000000 in
set_option maxRecDepth 100000 in
theorem wL_ticksToCommit_0 (l : Launch) (hst : l.stackTraces = false) {G : LY} {gc : Mem} {ov : Nat → Int64} {n : Nat} {x1 : Int32} {r : Nat × Int32} (hm : sX6_ticksToCommit n gc x1 = some r) (h0 : r.1 = 0) : cLw l yL_ticksToCommit wmL_ticksToCommit 8 133 1 6 G [.ref (G.1 160), .int x1, .ref (G.1 170)] (wC G gc ++ [oE G ov]) (wC G gc ++ [oE G (vp_updL ov (0 : Int32).toNatClampNeg r.2.toInt64)]) 0 := by
  refine mk_cLw (by decide +kernel) rfl (Nat.le_of_ble_eq_true rfl) (fun p e s m args below meth c A Q ls X ht kI hl Z => ?_)
  have hx := X.1
  have hb := X.2.1
  refine lv_aload_n hx hb dL_ticksToCommit_0 rfl (lv_at hl 2 rfl) ?_
  refine lv_iconst (v := 0) hx hb dL_ticksToCommit_1 (by decide) ?_
  refine lv_aload_n hx hb dL_ticksToCommit_2 rfl (lv_at hl 0 rfl) ?_
  refine lv_iload_n hx hb dL_ticksToCommit_3 rfl (lv_at hl 1 rfl) ?_
  refine l_callX (n := 1) (a := []) (As := [.int x1]) (rest := [.int 0, .ref (G.1 170)]) (c1 := 1) (s1 := 6) sameC adC (sG_r G) X Z (cX6_ticksToCommit_c l hst hm) (oX6 k160) rfl (gooV mB1037 mB1038 mB1039 mB409 mB563) rfl (by decide +kernel) rfl ⟨Nat.le_of_ble_eq_true rfl, Nat.le_of_ble_eq_true rfl⟩ rfl rfl ⟨Nat.le_of_ble_eq_true rfl, Nat.le_of_ble_eq_true rfl⟩ hl.1 rfl (Nat.le_of_ble_eq_true rfl) dL_ticksToCommit_4 (fun hec H locs q9 ce Z hce hcv hcl => ?_) (fun hec w9 H locs Z => ?_)
  · exact absurd h0 hec
  refine lv_i2l hx hb dL_ticksToCommit_7 rfl ?_
  refine l_last rfl X Z dL_ticksToCommit_8 (fun H locs Z => ?_)
  refine lv_goto (tgt := 15) hx hb dL_ticksToCommit_9 (by decide) ?_
  refine lv_iconst (v := nI 0) hx hb dL_ticksToCommit_15 (by decide) ?_
  exact kI _ _ _ _ _ _ (Nat.le_of_ble_eq_true rfl) (Nat.le_of_ble_eq_true rfl) dL_ticksToCommit_16 Z
set_option maxHeartbeats 4000000 in
set_option maxRecDepth 100000 in
theorem wL_ticksToCommit_1 (l : Launch) (hst : l.stackTraces = false) {G : LY} {gc : Mem} {ov : Nat → Int64} {n : Nat} {x1 : Int32} {r : Nat × Int32} (hm : sX6_ticksToCommit n gc x1 = some r) (hj : r.1 = 1) : cLw l yL_ticksToCommit wmL_ticksToCommit 8 133 1 6 G [.ref (G.1 160), .int x1, .ref (G.1 170)] (wC G gc ++ [oE G ov]) (wC G gc ++ [oE G ov]) 1 := by
  refine mk_cLw (by decide +kernel) rfl (Nat.le_of_ble_eq_true rfl) (fun p e s m args below meth c A Q ls X ht kI hl Z => ?_)
  have hx := X.1
  have hb := X.2.1
  refine lv_aload_n hx hb dL_ticksToCommit_0 rfl (lv_at hl 2 rfl) ?_
  refine lv_iconst (v := 0) hx hb dL_ticksToCommit_1 (by decide) ?_
  refine lv_aload_n hx hb dL_ticksToCommit_2 rfl (lv_at hl 0 rfl) ?_
  refine lv_iload_n hx hb dL_ticksToCommit_3 rfl (lv_at hl 1 rfl) ?_
  refine l_callX (n := 1) (a := []) (As := [.int x1]) (rest := [.int 0, .ref (G.1 170)]) (c1 := 1) (s1 := 6) sameC adC (sG_r G) X Z (cX6_ticksToCommit_c l hst hm) (oX6 k160) rfl (gooV mB1037 mB1038 mB1039 mB409 mB563) rfl (by decide +kernel) rfl ⟨Nat.le_of_ble_eq_true rfl, Nat.le_of_ble_eq_true rfl⟩ rfl rfl ⟨Nat.le_of_ble_eq_true rfl, Nat.le_of_ble_eq_true rfl⟩ hl.1 rfl (Nat.le_of_ble_eq_true rfl) dL_ticksToCommit_4 (fun hec H locs q9 ce Z hce hcv hcl => ?_) (fun hec w9 H locs Z => ?_)
  · rw [hj] at hcl
    refine l_catch (pre := []) (suf := []) (x := (0, 9, 12, 13)) (ec := 1) (pcx := 12) X Z.2.2 ht rfl (fun _ h => absurd h List.not_mem_nil) (by decide) (by decide) (List.mem_cons_of_mem _ mB926) (by decide) hce hcv hcl rfl ?_
    refine lv_astore_n (lv' := [(3, .ref q9), (0, .ref (G.1 160)), (1, .int x1), (2, .ref (G.1 170))]) hx hb dL_ticksToCommit_12 rfl hl (by decide) rfl (fun ls hl => ?_)
    refine lv_iconst (v := nI 1) hx hb dL_ticksToCommit_13 (by decide) ?_
    exact kI _ _ _ _ _ _ (Nat.le_of_ble_eq_true rfl) (Nat.le_of_ble_eq_true rfl) dL_ticksToCommit_14 Z
  · rw [hj] at hec
    exact absurd hec (by decide)
abbrev wmL_versions : List Cond := Cond.codeWith yL_versions cL_versions 4 (some .int) [(0, 9, 12, 13)] :: wA0
set_option maxHeartbeats 4000000 in
set_option maxRecDepth 100000 in
theorem wL_versions_0 (l : Launch) (hst : l.stackTraces = false) {G : LY} {gc : Mem} {ov : Nat → Int64} {x1 : Int32} {r : Nat × Int32} (hm : sX6_versions gc x1 = some r) (h0 : r.1 = 0) : cLw l yL_versions wmL_versions 8 132 1 6 G [.ref (G.1 160), .int x1, .ref (G.1 170)] (wC G gc ++ [oE G ov]) (wC G gc ++ [oE G (vp_updL ov (0 : Int32).toNatClampNeg r.2.toInt64)]) 0 := by
  refine mk_cLw (by decide +kernel) rfl (Nat.le_of_ble_eq_true rfl) (fun p e s m args below meth c A Q ls X ht kI hl Z => ?_)
  have hx := X.1
  have hb := X.2.1
  refine lv_aload_n hx hb dL_versions_0 rfl (lv_at hl 2 rfl) ?_
  refine lv_iconst (v := 0) hx hb dL_versions_1 (by decide) ?_
  refine lv_aload_n hx hb dL_versions_2 rfl (lv_at hl 0 rfl) ?_
  refine lv_iload_n hx hb dL_versions_3 rfl (lv_at hl 1 rfl) ?_
  refine l_callX (n := 1) (a := []) (As := [.int x1]) (rest := [.int 0, .ref (G.1 170)]) (c1 := 1) (s1 := 6) sameC adC (sG_r G) X Z (cX6_versions_c l hst hm) (oX6 k160) rfl (gooV mB1042 mB1043 mB1044 mB409 mB564) rfl (by decide +kernel) rfl ⟨Nat.le_of_ble_eq_true rfl, Nat.le_of_ble_eq_true rfl⟩ rfl rfl ⟨Nat.le_of_ble_eq_true rfl, Nat.le_of_ble_eq_true rfl⟩ hl.1 rfl (Nat.le_of_ble_eq_true rfl) dL_versions_4 (fun hec H locs q9 ce Z hce hcv hcl => ?_) (fun hec w9 H locs Z => ?_)
  · exact absurd h0 hec
  refine lv_i2l hx hb dL_versions_7 rfl ?_
  refine l_last rfl X Z dL_versions_8 (fun H locs Z => ?_)
  refine lv_goto (tgt := 15) hx hb dL_versions_9 (by decide) ?_
  refine lv_iconst (v := nI 0) hx hb dL_versions_15 (by decide) ?_
  exact kI _ _ _ _ _ _ (Nat.le_of_ble_eq_true rfl) (Nat.le_of_ble_eq_true rfl) dL_versions_16 Z
set_option maxHeartbeats 4000000 in
set_option maxRecDepth 100000 in
theorem wL_versions_1 (l : Launch) (hst : l.stackTraces = false) {G : LY} {gc : Mem} {ov : Nat → Int64} {x1 : Int32} {r : Nat × Int32} (hm : sX6_versions gc x1 = some r) (hj : r.1 = 1) : cLw l yL_versions wmL_versions 8 132 1 6 G [.ref (G.1 160), .int x1, .ref (G.1 170)] (wC G gc ++ [oE G ov]) (wC G gc ++ [oE G ov]) 1 := by
  refine mk_cLw (by decide +kernel) rfl (Nat.le_of_ble_eq_true rfl) (fun p e s m args below meth c A Q ls X ht kI hl Z => ?_)
  have hx := X.1
  have hb := X.2.1
  refine lv_aload_n hx hb dL_versions_0 rfl (lv_at hl 2 rfl) ?_
  refine lv_iconst (v := 0) hx hb dL_versions_1 (by decide) ?_
  refine lv_aload_n hx hb dL_versions_2 rfl (lv_at hl 0 rfl) ?_
  refine lv_iload_n hx hb dL_versions_3 rfl (lv_at hl 1 rfl) ?_
  refine l_callX (n := 1) (a := []) (As := [.int x1]) (rest := [.int 0, .ref (G.1 170)]) (c1 := 1) (s1 := 6) sameC adC (sG_r G) X Z (cX6_versions_c l hst hm) (oX6 k160) rfl (gooV mB1042 mB1043 mB1044 mB409 mB564) rfl (by decide +kernel) rfl ⟨Nat.le_of_ble_eq_true rfl, Nat.le_of_ble_eq_true rfl⟩ rfl rfl ⟨Nat.le_of_ble_eq_true rfl, Nat.le_of_ble_eq_true rfl⟩ hl.1 rfl (Nat.le_of_ble_eq_true rfl) dL_versions_4 (fun hec H locs q9 ce Z hce hcv hcl => ?_) (fun hec w9 H locs Z => ?_)
  · rw [hj] at hcl
    refine l_catch (pre := []) (suf := []) (x := (0, 9, 12, 13)) (ec := 1) (pcx := 12) X Z.2.2 ht rfl (fun _ h => absurd h List.not_mem_nil) (by decide) (by decide) (List.mem_cons_of_mem _ mB926) (by decide) hce hcv hcl rfl ?_
    refine lv_astore_n (lv' := [(3, .ref q9), (0, .ref (G.1 160)), (1, .int x1), (2, .ref (G.1 170))]) hx hb dL_versions_12 rfl hl (by decide) rfl (fun ls hl => ?_)
    refine lv_iconst (v := nI 1) hx hb dL_versions_13 (by decide) ?_
    exact kI _ _ _ _ _ _ (Nat.le_of_ble_eq_true rfl) (Nat.le_of_ble_eq_true rfl) dL_versions_14 Z
  · rw [hj] at hec
    exact absurd hec (by decide)
abbrev wmL_versionTimestamp : List Cond := Cond.codeWith yL_versionTimestamp cL_versionTimestamp 5 (some .int) [(0, 10, 13, 13)] :: wA0
set_option maxHeartbeats 4000000 in
set_option maxRecDepth 100000 in
theorem wL_versionTimestamp_0 (l : Launch) (hst : l.stackTraces = false) {G : LY} {gc : Mem} {ov : Nat → Int64} {x1 : Int32} {x2 : Int32} {r : Nat × Int32} (hm : sX6_versionTimestamp gc x1 x2 = some r) (h0 : r.1 = 0) : cLw l yL_versionTimestamp wmL_versionTimestamp 8 133 2 12 G [.ref (G.1 160), .int x1, .int x2, .ref (G.1 170)] (wC G gc ++ [oE G ov]) (wC G gc ++ [oE G (vp_updL ov (0 : Int32).toNatClampNeg r.2.toInt64)]) 0 := by
  refine mk_cLw (by decide +kernel) rfl (Nat.le_of_ble_eq_true rfl) (fun p e s m args below meth c A Q ls X ht kI hl Z => ?_)
  have hx := X.1
  have hb := X.2.1
  refine lv_aload_n hx hb dL_versionTimestamp_0 rfl (lv_at hl 3 rfl) ?_
  refine lv_iconst (v := 0) hx hb dL_versionTimestamp_1 (by decide) ?_
  refine lv_aload_n hx hb dL_versionTimestamp_2 rfl (lv_at hl 0 rfl) ?_
  refine lv_iload_n hx hb dL_versionTimestamp_3 rfl (lv_at hl 1 rfl) ?_
  refine lv_iload_n hx hb dL_versionTimestamp_4 rfl (lv_at hl 2 rfl) ?_
  refine l_callX (n := 2) (a := []) (As := [.int x1, .int x2]) (rest := [.int 0, .ref (G.1 170)]) (c1 := 2) (s1 := 12) sameC adC (sG_r G) X Z (cX6_versionTimestamp_c l hst hm) (oX6 k160) rfl (gooV mB1046 mB1047 mB1048 mB409 mB566) rfl (by decide +kernel) rfl ⟨Nat.le_of_ble_eq_true rfl, Nat.le_of_ble_eq_true rfl⟩ rfl rfl ⟨Nat.le_of_ble_eq_true rfl, Nat.le_of_ble_eq_true rfl⟩ hl.1 rfl (Nat.le_of_ble_eq_true rfl) dL_versionTimestamp_5 (fun hec H locs q9 ce Z hce hcv hcl => ?_) (fun hec w9 H locs Z => ?_)
  · exact absurd h0 hec
  refine lv_i2l hx hb dL_versionTimestamp_8 rfl ?_
  refine l_last rfl X Z dL_versionTimestamp_9 (fun H locs Z => ?_)
  refine lv_goto (tgt := 17) hx hb dL_versionTimestamp_10 (by decide) ?_
  refine lv_iconst (v := nI 0) hx hb dL_versionTimestamp_17 (by decide) ?_
  exact kI _ _ _ _ _ _ (Nat.le_of_ble_eq_true rfl) (Nat.le_of_ble_eq_true rfl) dL_versionTimestamp_18 Z
set_option maxHeartbeats 4000000 in
set_option maxRecDepth 100000 in
theorem wL_versionTimestamp_1 (l : Launch) (hst : l.stackTraces = false) {G : LY} {gc : Mem} {ov : Nat → Int64} {x1 : Int32} {x2 : Int32} {r : Nat × Int32} (hm : sX6_versionTimestamp gc x1 x2 = some r) (hj : r.1 = 1) : cLw l yL_versionTimestamp wmL_versionTimestamp 8 133 2 12 G [.ref (G.1 160), .int x1, .int x2, .ref (G.1 170)] (wC G gc ++ [oE G ov]) (wC G gc ++ [oE G ov]) 1 := by
  refine mk_cLw (by decide +kernel) rfl (Nat.le_of_ble_eq_true rfl) (fun p e s m args below meth c A Q ls X ht kI hl Z => ?_)
  have hx := X.1
  have hb := X.2.1
  refine lv_aload_n hx hb dL_versionTimestamp_0 rfl (lv_at hl 3 rfl) ?_
  refine lv_iconst (v := 0) hx hb dL_versionTimestamp_1 (by decide) ?_
  refine lv_aload_n hx hb dL_versionTimestamp_2 rfl (lv_at hl 0 rfl) ?_
  refine lv_iload_n hx hb dL_versionTimestamp_3 rfl (lv_at hl 1 rfl) ?_
  refine lv_iload_n hx hb dL_versionTimestamp_4 rfl (lv_at hl 2 rfl) ?_
  refine l_callX (n := 2) (a := []) (As := [.int x1, .int x2]) (rest := [.int 0, .ref (G.1 170)]) (c1 := 2) (s1 := 12) sameC adC (sG_r G) X Z (cX6_versionTimestamp_c l hst hm) (oX6 k160) rfl (gooV mB1046 mB1047 mB1048 mB409 mB566) rfl (by decide +kernel) rfl ⟨Nat.le_of_ble_eq_true rfl, Nat.le_of_ble_eq_true rfl⟩ rfl rfl ⟨Nat.le_of_ble_eq_true rfl, Nat.le_of_ble_eq_true rfl⟩ hl.1 rfl (Nat.le_of_ble_eq_true rfl) dL_versionTimestamp_5 (fun hec H locs q9 ce Z hce hcv hcl => ?_) (fun hec w9 H locs Z => ?_)
  · rw [hj] at hcl
    refine l_catch (pre := []) (suf := []) (x := (0, 10, 13, 13)) (ec := 1) (pcx := 13) X Z.2.2 ht rfl (fun _ h => absurd h List.not_mem_nil) (by decide) (by decide) (List.mem_cons_of_mem _ mB926) (by decide) hce hcv hcl rfl ?_
    refine lv_astore (lv' := [(4, .ref q9), (0, .ref (G.1 160)), (1, .int x1), (2, .int x2), (3, .ref (G.1 170))]) hx hb dL_versionTimestamp_13 hl (by decide) rfl (fun ls hl => ?_)
    refine lv_iconst (v := nI 1) hx hb dL_versionTimestamp_15 (by decide) ?_
    exact kI _ _ _ _ _ _ (Nat.le_of_ble_eq_true rfl) (Nat.le_of_ble_eq_true rfl) dL_versionTimestamp_16 Z
  · rw [hj] at hec
    exact absurd hec (by decide)
abbrev wmL_valueAt : List Cond := Cond.codeWith yL_valueAt cL_valueAt 5 (some .int) [(0, 10, 13, 13), (0, 10, 17, 25)] :: wA0
set_option maxHeartbeats 4000000 in
set_option maxRecDepth 100000 in
theorem wL_valueAt_0 (l : Launch) (hst : l.stackTraces = false) {G : LY} {gc : Mem} {ov : Nat → Int64} {n : Nat} {x1 : Int32} {x2 : Int32} {r : Nat × Int32} (hm : sX6_valueAt n gc x1 x2 = some r) (h0 : r.1 = 0) : cLw l yL_valueAt wmL_valueAt 8 133 2 12 G [.ref (G.1 160), .int x1, .int x2, .ref (G.1 170)] (wC G gc ++ [oE G ov]) (wC G gc ++ [oE G (vp_updL ov (0 : Int32).toNatClampNeg r.2.toInt64)]) 0 := by
  refine mk_cLw (by decide +kernel) rfl (Nat.le_of_ble_eq_true rfl) (fun p e s m args below meth c A Q ls X ht kI hl Z => ?_)
  have hx := X.1
  have hb := X.2.1
  refine lv_aload_n hx hb dL_valueAt_0 rfl (lv_at hl 3 rfl) ?_
  refine lv_iconst (v := 0) hx hb dL_valueAt_1 (by decide) ?_
  refine lv_aload_n hx hb dL_valueAt_2 rfl (lv_at hl 0 rfl) ?_
  refine lv_iload_n hx hb dL_valueAt_3 rfl (lv_at hl 1 rfl) ?_
  refine lv_iload_n hx hb dL_valueAt_4 rfl (lv_at hl 2 rfl) ?_
  refine l_callX (n := 2) (a := []) (As := [.int x1, .int x2]) (rest := [.int 0, .ref (G.1 170)]) (c1 := 2) (s1 := 12) sameC adC (sG_r G) X Z (cX6_valueAt_c l hst hm) (oX6 k160) rfl (gooV mB1049 mB1050 mB1051 mB409 mB567) rfl (by decide +kernel) rfl ⟨Nat.le_of_ble_eq_true rfl, Nat.le_of_ble_eq_true rfl⟩ rfl rfl ⟨Nat.le_of_ble_eq_true rfl, Nat.le_of_ble_eq_true rfl⟩ hl.1 rfl (Nat.le_of_ble_eq_true rfl) dL_valueAt_5 (fun hec H locs q9 ce Z hce hcv hcl => ?_) (fun hec w9 H locs Z => ?_)
  · exact absurd h0 hec
  refine lv_i2l hx hb dL_valueAt_8 rfl ?_
  refine l_last rfl X Z dL_valueAt_9 (fun H locs Z => ?_)
  refine lv_goto (tgt := 21) hx hb dL_valueAt_10 (by decide) ?_
  refine lv_iconst (v := nI 0) hx hb dL_valueAt_21 (by decide) ?_
  exact kI _ _ _ _ _ _ (Nat.le_of_ble_eq_true rfl) (Nat.le_of_ble_eq_true rfl) dL_valueAt_22 Z
set_option maxHeartbeats 4000000 in
set_option maxRecDepth 100000 in
theorem wL_valueAt_1 (l : Launch) (hst : l.stackTraces = false) {G : LY} {gc : Mem} {ov : Nat → Int64} {n : Nat} {x1 : Int32} {x2 : Int32} {r : Nat × Int32} (hm : sX6_valueAt n gc x1 x2 = some r) (hj : r.1 = 1) : cLw l yL_valueAt wmL_valueAt 8 133 2 12 G [.ref (G.1 160), .int x1, .int x2, .ref (G.1 170)] (wC G gc ++ [oE G ov]) (wC G gc ++ [oE G ov]) 1 := by
  refine mk_cLw (by decide +kernel) rfl (Nat.le_of_ble_eq_true rfl) (fun p e s m args below meth c A Q ls X ht kI hl Z => ?_)
  have hx := X.1
  have hb := X.2.1
  refine lv_aload_n hx hb dL_valueAt_0 rfl (lv_at hl 3 rfl) ?_
  refine lv_iconst (v := 0) hx hb dL_valueAt_1 (by decide) ?_
  refine lv_aload_n hx hb dL_valueAt_2 rfl (lv_at hl 0 rfl) ?_
  refine lv_iload_n hx hb dL_valueAt_3 rfl (lv_at hl 1 rfl) ?_
  refine lv_iload_n hx hb dL_valueAt_4 rfl (lv_at hl 2 rfl) ?_
  refine l_callX (n := 2) (a := []) (As := [.int x1, .int x2]) (rest := [.int 0, .ref (G.1 170)]) (c1 := 2) (s1 := 12) sameC adC (sG_r G) X Z (cX6_valueAt_c l hst hm) (oX6 k160) rfl (gooV mB1049 mB1050 mB1051 mB409 mB567) rfl (by decide +kernel) rfl ⟨Nat.le_of_ble_eq_true rfl, Nat.le_of_ble_eq_true rfl⟩ rfl rfl ⟨Nat.le_of_ble_eq_true rfl, Nat.le_of_ble_eq_true rfl⟩ hl.1 rfl (Nat.le_of_ble_eq_true rfl) dL_valueAt_5 (fun hec H locs q9 ce Z hce hcv hcl => ?_) (fun hec w9 H locs Z => ?_)
  · rw [hj] at hcl
    refine l_catch (pre := []) (suf := [(0, 10, 17, 25)]) (x := (0, 10, 13, 13)) (ec := 1) (pcx := 13) X Z.2.2 ht rfl (fun _ h => absurd h List.not_mem_nil) (by decide) (by decide) (List.mem_cons_of_mem _ mB926) (by decide) hce hcv hcl rfl ?_
    refine lv_astore (lv' := [(4, .ref q9), (0, .ref (G.1 160)), (1, .int x1), (2, .int x2), (3, .ref (G.1 170))]) hx hb dL_valueAt_13 hl (by decide) rfl (fun ls hl => ?_)
    refine lv_iconst (v := nI 1) hx hb dL_valueAt_15 (by decide) ?_
    exact kI _ _ _ _ _ _ (Nat.le_of_ble_eq_true rfl) (Nat.le_of_ble_eq_true rfl) dL_valueAt_16 Z
  · rw [hj] at hec
    exact absurd hec (by decide)
set_option maxHeartbeats 4000000 in
set_option maxRecDepth 100000 in
theorem wL_valueAt_2 (l : Launch) (hst : l.stackTraces = false) {G : LY} {gc : Mem} {ov : Nat → Int64} {n : Nat} {x1 : Int32} {x2 : Int32} {r : Nat × Int32} (hm : sX6_valueAt n gc x1 x2 = some r) (hj : r.1 = 2) : cLw l yL_valueAt wmL_valueAt 8 133 2 12 G [.ref (G.1 160), .int x1, .int x2, .ref (G.1 170)] (wC G gc ++ [oE G ov]) (wC G gc ++ [oE G ov]) 2 := by
  refine mk_cLw (by decide +kernel) rfl (Nat.le_of_ble_eq_true rfl) (fun p e s m args below meth c A Q ls X ht kI hl Z => ?_)
  have hx := X.1
  have hb := X.2.1
  refine lv_aload_n hx hb dL_valueAt_0 rfl (lv_at hl 3 rfl) ?_
  refine lv_iconst (v := 0) hx hb dL_valueAt_1 (by decide) ?_
  refine lv_aload_n hx hb dL_valueAt_2 rfl (lv_at hl 0 rfl) ?_
  refine lv_iload_n hx hb dL_valueAt_3 rfl (lv_at hl 1 rfl) ?_
  refine lv_iload_n hx hb dL_valueAt_4 rfl (lv_at hl 2 rfl) ?_
  refine l_callX (n := 2) (a := []) (As := [.int x1, .int x2]) (rest := [.int 0, .ref (G.1 170)]) (c1 := 2) (s1 := 12) sameC adC (sG_r G) X Z (cX6_valueAt_c l hst hm) (oX6 k160) rfl (gooV mB1049 mB1050 mB1051 mB409 mB567) rfl (by decide +kernel) rfl ⟨Nat.le_of_ble_eq_true rfl, Nat.le_of_ble_eq_true rfl⟩ rfl rfl ⟨Nat.le_of_ble_eq_true rfl, Nat.le_of_ble_eq_true rfl⟩ hl.1 rfl (Nat.le_of_ble_eq_true rfl) dL_valueAt_5 (fun hec H locs q9 ce Z hce hcv hcl => ?_) (fun hec w9 H locs Z => ?_)
  · rw [hj] at hcl
    refine l_catch (pre := [(0, 10, 13, 13)]) (suf := []) (x := (0, 10, 17, 25)) (ec := 2) (pcx := 17) X Z.2.2 ht rfl (List.forall_mem_cons.mpr ⟨⟨by decide, "java/lang/IndexOutOfBoundsException", List.mem_cons_of_mem _ mB926, by decide⟩, (fun _ h => absurd h List.not_mem_nil)⟩) (by decide) (by decide) (List.mem_cons_of_mem _ mB936) (by decide) hce hcv hcl rfl ?_
    refine lv_astore (lv' := [(4, .ref q9), (0, .ref (G.1 160)), (1, .int x1), (2, .int x2), (3, .ref (G.1 170))]) hx hb dL_valueAt_17 hl (by decide) rfl (fun ls hl => ?_)
    refine lv_iconst (v := nI 2) hx hb dL_valueAt_19 (by decide) ?_
    exact kI _ _ _ _ _ _ (Nat.le_of_ble_eq_true rfl) (Nat.le_of_ble_eq_true rfl) dL_valueAt_20 Z
  · rw [hj] at hec
    exact absurd hec (by decide)
abbrev wmL_replayedValueAt : List Cond := Cond.codeWith yL_replayedValueAt cL_replayedValueAt 5 (some .int) [(0, 10, 13, 13), (0, 10, 17, 25)] :: wA0
set_option maxHeartbeats 4000000 in
set_option maxRecDepth 100000 in
theorem wL_replayedValueAt_0 (l : Launch) (hst : l.stackTraces = false) {G : LY} {gc : Mem} {ov : Nat → Int64} {n : Nat} {x1 : Int32} {x2 : Int32} {r : Nat × Int32} (hm : sX6_replayedValueAt n gc x1 x2 = some r) (h0 : r.1 = 0) : cLw l yL_replayedValueAt wmL_replayedValueAt 8 133 2 12 G [.ref (G.1 160), .int x1, .int x2, .ref (G.1 170)] (wC G gc ++ [oE G ov]) (wC G gc ++ [oE G (vp_updL ov (0 : Int32).toNatClampNeg r.2.toInt64)]) 0 := by
  refine mk_cLw (by decide +kernel) rfl (Nat.le_of_ble_eq_true rfl) (fun p e s m args below meth c A Q ls X ht kI hl Z => ?_)
  have hx := X.1
  have hb := X.2.1
  refine lv_aload_n hx hb dL_replayedValueAt_0 rfl (lv_at hl 3 rfl) ?_
  refine lv_iconst (v := 0) hx hb dL_replayedValueAt_1 (by decide) ?_
  refine lv_aload_n hx hb dL_replayedValueAt_2 rfl (lv_at hl 0 rfl) ?_
  refine lv_iload_n hx hb dL_replayedValueAt_3 rfl (lv_at hl 1 rfl) ?_
  refine lv_iload_n hx hb dL_replayedValueAt_4 rfl (lv_at hl 2 rfl) ?_
  refine l_callX (n := 2) (a := []) (As := [.int x1, .int x2]) (rest := [.int 0, .ref (G.1 170)]) (c1 := 2) (s1 := 12) sameC adC (sG_r G) X Z (cX6_replayedValueAt_c l hst hm) (oX6 k160) rfl (gooV mB1053 mB1054 mB1055 mB409 mB571) rfl (by decide +kernel) rfl ⟨Nat.le_of_ble_eq_true rfl, Nat.le_of_ble_eq_true rfl⟩ rfl rfl ⟨Nat.le_of_ble_eq_true rfl, Nat.le_of_ble_eq_true rfl⟩ hl.1 rfl (Nat.le_of_ble_eq_true rfl) dL_replayedValueAt_5 (fun hec H locs q9 ce Z hce hcv hcl => ?_) (fun hec w9 H locs Z => ?_)
  · exact absurd h0 hec
  refine lv_i2l hx hb dL_replayedValueAt_8 rfl ?_
  refine l_last rfl X Z dL_replayedValueAt_9 (fun H locs Z => ?_)
  refine lv_goto (tgt := 21) hx hb dL_replayedValueAt_10 (by decide) ?_
  refine lv_iconst (v := nI 0) hx hb dL_replayedValueAt_21 (by decide) ?_
  exact kI _ _ _ _ _ _ (Nat.le_of_ble_eq_true rfl) (Nat.le_of_ble_eq_true rfl) dL_replayedValueAt_22 Z
set_option maxHeartbeats 4000000 in
set_option maxRecDepth 100000 in
theorem wL_replayedValueAt_1 (l : Launch) (hst : l.stackTraces = false) {G : LY} {gc : Mem} {ov : Nat → Int64} {n : Nat} {x1 : Int32} {x2 : Int32} {r : Nat × Int32} (hm : sX6_replayedValueAt n gc x1 x2 = some r) (hj : r.1 = 1) : cLw l yL_replayedValueAt wmL_replayedValueAt 8 133 2 12 G [.ref (G.1 160), .int x1, .int x2, .ref (G.1 170)] (wC G gc ++ [oE G ov]) (wC G gc ++ [oE G ov]) 1 := by
  refine mk_cLw (by decide +kernel) rfl (Nat.le_of_ble_eq_true rfl) (fun p e s m args below meth c A Q ls X ht kI hl Z => ?_)
  have hx := X.1
  have hb := X.2.1
  refine lv_aload_n hx hb dL_replayedValueAt_0 rfl (lv_at hl 3 rfl) ?_
  refine lv_iconst (v := 0) hx hb dL_replayedValueAt_1 (by decide) ?_
  refine lv_aload_n hx hb dL_replayedValueAt_2 rfl (lv_at hl 0 rfl) ?_
  refine lv_iload_n hx hb dL_replayedValueAt_3 rfl (lv_at hl 1 rfl) ?_
  refine lv_iload_n hx hb dL_replayedValueAt_4 rfl (lv_at hl 2 rfl) ?_
  refine l_callX (n := 2) (a := []) (As := [.int x1, .int x2]) (rest := [.int 0, .ref (G.1 170)]) (c1 := 2) (s1 := 12) sameC adC (sG_r G) X Z (cX6_replayedValueAt_c l hst hm) (oX6 k160) rfl (gooV mB1053 mB1054 mB1055 mB409 mB571) rfl (by decide +kernel) rfl ⟨Nat.le_of_ble_eq_true rfl, Nat.le_of_ble_eq_true rfl⟩ rfl rfl ⟨Nat.le_of_ble_eq_true rfl, Nat.le_of_ble_eq_true rfl⟩ hl.1 rfl (Nat.le_of_ble_eq_true rfl) dL_replayedValueAt_5 (fun hec H locs q9 ce Z hce hcv hcl => ?_) (fun hec w9 H locs Z => ?_)
  · rw [hj] at hcl
    refine l_catch (pre := []) (suf := [(0, 10, 17, 25)]) (x := (0, 10, 13, 13)) (ec := 1) (pcx := 13) X Z.2.2 ht rfl (fun _ h => absurd h List.not_mem_nil) (by decide) (by decide) (List.mem_cons_of_mem _ mB926) (by decide) hce hcv hcl rfl ?_
    refine lv_astore (lv' := [(4, .ref q9), (0, .ref (G.1 160)), (1, .int x1), (2, .int x2), (3, .ref (G.1 170))]) hx hb dL_replayedValueAt_13 hl (by decide) rfl (fun ls hl => ?_)
    refine lv_iconst (v := nI 1) hx hb dL_replayedValueAt_15 (by decide) ?_
    exact kI _ _ _ _ _ _ (Nat.le_of_ble_eq_true rfl) (Nat.le_of_ble_eq_true rfl) dL_replayedValueAt_16 Z
  · rw [hj] at hec
    exact absurd hec (by decide)
set_option maxHeartbeats 4000000 in
set_option maxRecDepth 100000 in
theorem wL_replayedValueAt_2 (l : Launch) (hst : l.stackTraces = false) {G : LY} {gc : Mem} {ov : Nat → Int64} {n : Nat} {x1 : Int32} {x2 : Int32} {r : Nat × Int32} (hm : sX6_replayedValueAt n gc x1 x2 = some r) (hj : r.1 = 2) : cLw l yL_replayedValueAt wmL_replayedValueAt 8 133 2 12 G [.ref (G.1 160), .int x1, .int x2, .ref (G.1 170)] (wC G gc ++ [oE G ov]) (wC G gc ++ [oE G ov]) 2 := by
  refine mk_cLw (by decide +kernel) rfl (Nat.le_of_ble_eq_true rfl) (fun p e s m args below meth c A Q ls X ht kI hl Z => ?_)
  have hx := X.1
  have hb := X.2.1
  refine lv_aload_n hx hb dL_replayedValueAt_0 rfl (lv_at hl 3 rfl) ?_
  refine lv_iconst (v := 0) hx hb dL_replayedValueAt_1 (by decide) ?_
  refine lv_aload_n hx hb dL_replayedValueAt_2 rfl (lv_at hl 0 rfl) ?_
  refine lv_iload_n hx hb dL_replayedValueAt_3 rfl (lv_at hl 1 rfl) ?_
  refine lv_iload_n hx hb dL_replayedValueAt_4 rfl (lv_at hl 2 rfl) ?_
  refine l_callX (n := 2) (a := []) (As := [.int x1, .int x2]) (rest := [.int 0, .ref (G.1 170)]) (c1 := 2) (s1 := 12) sameC adC (sG_r G) X Z (cX6_replayedValueAt_c l hst hm) (oX6 k160) rfl (gooV mB1053 mB1054 mB1055 mB409 mB571) rfl (by decide +kernel) rfl ⟨Nat.le_of_ble_eq_true rfl, Nat.le_of_ble_eq_true rfl⟩ rfl rfl ⟨Nat.le_of_ble_eq_true rfl, Nat.le_of_ble_eq_true rfl⟩ hl.1 rfl (Nat.le_of_ble_eq_true rfl) dL_replayedValueAt_5 (fun hec H locs q9 ce Z hce hcv hcl => ?_) (fun hec w9 H locs Z => ?_)
  · rw [hj] at hcl
    refine l_catch (pre := [(0, 10, 13, 13)]) (suf := []) (x := (0, 10, 17, 25)) (ec := 2) (pcx := 17) X Z.2.2 ht rfl (List.forall_mem_cons.mpr ⟨⟨by decide, "java/lang/IndexOutOfBoundsException", List.mem_cons_of_mem _ mB926, by decide⟩, (fun _ h => absurd h List.not_mem_nil)⟩) (by decide) (by decide) (List.mem_cons_of_mem _ mB936) (by decide) hce hcv hcl rfl ?_
    refine lv_astore (lv' := [(4, .ref q9), (0, .ref (G.1 160)), (1, .int x1), (2, .int x2), (3, .ref (G.1 170))]) hx hb dL_replayedValueAt_17 hl (by decide) rfl (fun ls hl => ?_)
    refine lv_iconst (v := nI 2) hx hb dL_replayedValueAt_19 (by decide) ?_
    exact kI _ _ _ _ _ _ (Nat.le_of_ble_eq_true rfl) (Nat.le_of_ble_eq_true rfl) dL_replayedValueAt_20 Z
  · rw [hj] at hec
    exact absurd hec (by decide)
abbrev wmL_waitingWriter : List Cond := Cond.codeWith yL_waitingWriter cL_waitingWriter 4 (some .int) [(0, 9, 12, 13)] :: wA0
set_option maxHeartbeats 4000000 in
set_option maxRecDepth 100000 in
theorem wL_waitingWriter_0 (l : Launch) (hst : l.stackTraces = false) {G : LY} {gc : Mem} {ov : Nat → Int64} {n : Nat} {x1 : Int32} {r : Nat × Int32} (hm : sX6_waitingWriter n gc x1 = some r) (h0 : r.1 = 0) : cLw l yL_waitingWriter wmL_waitingWriter 8 132 1 6 G [.ref (G.1 160), .int x1, .ref (G.1 170)] (wC G gc ++ [oE G ov]) (wC G gc ++ [oE G (vp_updL ov (0 : Int32).toNatClampNeg r.2.toInt64)]) 0 := by
  refine mk_cLw (by decide +kernel) rfl (Nat.le_of_ble_eq_true rfl) (fun p e s m args below meth c A Q ls X ht kI hl Z => ?_)
  have hx := X.1
  have hb := X.2.1
  refine lv_aload_n hx hb dL_waitingWriter_0 rfl (lv_at hl 2 rfl) ?_
  refine lv_iconst (v := 0) hx hb dL_waitingWriter_1 (by decide) ?_
  refine lv_aload_n hx hb dL_waitingWriter_2 rfl (lv_at hl 0 rfl) ?_
  refine lv_iload_n hx hb dL_waitingWriter_3 rfl (lv_at hl 1 rfl) ?_
  refine l_callX (n := 1) (a := []) (As := [.int x1]) (rest := [.int 0, .ref (G.1 170)]) (c1 := 1) (s1 := 6) sameC adC (sG_r G) X Z (cX6_waitingWriter_c l hst hm) (oX6 k160) rfl (gooV mB1057 mB1058 mB1059 mB409 mB572) rfl (by decide +kernel) rfl ⟨Nat.le_of_ble_eq_true rfl, Nat.le_of_ble_eq_true rfl⟩ rfl rfl ⟨Nat.le_of_ble_eq_true rfl, Nat.le_of_ble_eq_true rfl⟩ hl.1 rfl (Nat.le_of_ble_eq_true rfl) dL_waitingWriter_4 (fun hec H locs q9 ce Z hce hcv hcl => ?_) (fun hec w9 H locs Z => ?_)
  · exact absurd h0 hec
  refine lv_i2l hx hb dL_waitingWriter_7 rfl ?_
  refine l_last rfl X Z dL_waitingWriter_8 (fun H locs Z => ?_)
  refine lv_goto (tgt := 15) hx hb dL_waitingWriter_9 (by decide) ?_
  refine lv_iconst (v := nI 0) hx hb dL_waitingWriter_15 (by decide) ?_
  exact kI _ _ _ _ _ _ (Nat.le_of_ble_eq_true rfl) (Nat.le_of_ble_eq_true rfl) dL_waitingWriter_16 Z
set_option maxHeartbeats 4000000 in
set_option maxRecDepth 100000 in
theorem wL_waitingWriter_1 (l : Launch) (hst : l.stackTraces = false) {G : LY} {gc : Mem} {ov : Nat → Int64} {n : Nat} {x1 : Int32} {r : Nat × Int32} (hm : sX6_waitingWriter n gc x1 = some r) (hj : r.1 = 1) : cLw l yL_waitingWriter wmL_waitingWriter 8 132 1 6 G [.ref (G.1 160), .int x1, .ref (G.1 170)] (wC G gc ++ [oE G ov]) (wC G gc ++ [oE G ov]) 1 := by
  refine mk_cLw (by decide +kernel) rfl (Nat.le_of_ble_eq_true rfl) (fun p e s m args below meth c A Q ls X ht kI hl Z => ?_)
  have hx := X.1
  have hb := X.2.1
  refine lv_aload_n hx hb dL_waitingWriter_0 rfl (lv_at hl 2 rfl) ?_
  refine lv_iconst (v := 0) hx hb dL_waitingWriter_1 (by decide) ?_
  refine lv_aload_n hx hb dL_waitingWriter_2 rfl (lv_at hl 0 rfl) ?_
  refine lv_iload_n hx hb dL_waitingWriter_3 rfl (lv_at hl 1 rfl) ?_
  refine l_callX (n := 1) (a := []) (As := [.int x1]) (rest := [.int 0, .ref (G.1 170)]) (c1 := 1) (s1 := 6) sameC adC (sG_r G) X Z (cX6_waitingWriter_c l hst hm) (oX6 k160) rfl (gooV mB1057 mB1058 mB1059 mB409 mB572) rfl (by decide +kernel) rfl ⟨Nat.le_of_ble_eq_true rfl, Nat.le_of_ble_eq_true rfl⟩ rfl rfl ⟨Nat.le_of_ble_eq_true rfl, Nat.le_of_ble_eq_true rfl⟩ hl.1 rfl (Nat.le_of_ble_eq_true rfl) dL_waitingWriter_4 (fun hec H locs q9 ce Z hce hcv hcl => ?_) (fun hec w9 H locs Z => ?_)
  · rw [hj] at hcl
    refine l_catch (pre := []) (suf := []) (x := (0, 9, 12, 13)) (ec := 1) (pcx := 12) X Z.2.2 ht rfl (fun _ h => absurd h List.not_mem_nil) (by decide) (by decide) (List.mem_cons_of_mem _ mB926) (by decide) hce hcv hcl rfl ?_
    refine lv_astore_n (lv' := [(3, .ref q9), (0, .ref (G.1 160)), (1, .int x1), (2, .ref (G.1 170))]) hx hb dL_waitingWriter_12 rfl hl (by decide) rfl (fun ls hl => ?_)
    refine lv_iconst (v := nI 1) hx hb dL_waitingWriter_13 (by decide) ?_
    exact kI _ _ _ _ _ _ (Nat.le_of_ble_eq_true rfl) (Nat.le_of_ble_eq_true rfl) dL_waitingWriter_14 Z
  · rw [hj] at hec
    exact absurd hec (by decide)
abbrev wmL_readerMark : List Cond := Cond.codeWith yL_readerMark cL_readerMark 4 (some .int) [(0, 9, 12, 13)] :: wA0
set_option maxHeartbeats 4000000 in
set_option maxRecDepth 100000 in
theorem wL_readerMark_0 (l : Launch) (hst : l.stackTraces = false) {G : LY} {gc : Mem} {ov : Nat → Int64} {n : Nat} {x1 : Int32} {r : Nat × Int32} (hm : sX6_readerMark n gc x1 = some r) (h0 : r.1 = 0) : cLw l yL_readerMark wmL_readerMark 8 132 1 6 G [.ref (G.1 160), .int x1, .ref (G.1 170)] (wC G gc ++ [oE G ov]) (wC G gc ++ [oE G (vp_updL ov (0 : Int32).toNatClampNeg r.2.toInt64)]) 0 := by
  refine mk_cLw (by decide +kernel) rfl (Nat.le_of_ble_eq_true rfl) (fun p e s m args below meth c A Q ls X ht kI hl Z => ?_)
  have hx := X.1
  have hb := X.2.1
  refine lv_aload_n hx hb dL_readerMark_0 rfl (lv_at hl 2 rfl) ?_
  refine lv_iconst (v := 0) hx hb dL_readerMark_1 (by decide) ?_
  refine lv_aload_n hx hb dL_readerMark_2 rfl (lv_at hl 0 rfl) ?_
  refine lv_iload_n hx hb dL_readerMark_3 rfl (lv_at hl 1 rfl) ?_
  refine l_callX (n := 1) (a := []) (As := [.int x1]) (rest := [.int 0, .ref (G.1 170)]) (c1 := 1) (s1 := 6) sameC adC (sG_r G) X Z (cX6_readerMark_c l hst hm) (oX6 k160) rfl (gooV mB1061 mB1062 mB1063 mB409 mB577) rfl (by decide +kernel) rfl ⟨Nat.le_of_ble_eq_true rfl, Nat.le_of_ble_eq_true rfl⟩ rfl rfl ⟨Nat.le_of_ble_eq_true rfl, Nat.le_of_ble_eq_true rfl⟩ hl.1 rfl (Nat.le_of_ble_eq_true rfl) dL_readerMark_4 (fun hec H locs q9 ce Z hce hcv hcl => ?_) (fun hec w9 H locs Z => ?_)
  · exact absurd h0 hec
  refine lv_i2l hx hb dL_readerMark_7 rfl ?_
  refine l_last rfl X Z dL_readerMark_8 (fun H locs Z => ?_)
  refine lv_goto (tgt := 15) hx hb dL_readerMark_9 (by decide) ?_
  refine lv_iconst (v := nI 0) hx hb dL_readerMark_15 (by decide) ?_
  exact kI _ _ _ _ _ _ (Nat.le_of_ble_eq_true rfl) (Nat.le_of_ble_eq_true rfl) dL_readerMark_16 Z
set_option maxHeartbeats 4000000 in
set_option maxRecDepth 100000 in
theorem wL_readerMark_1 (l : Launch) (hst : l.stackTraces = false) {G : LY} {gc : Mem} {ov : Nat → Int64} {n : Nat} {x1 : Int32} {r : Nat × Int32} (hm : sX6_readerMark n gc x1 = some r) (hj : r.1 = 1) : cLw l yL_readerMark wmL_readerMark 8 132 1 6 G [.ref (G.1 160), .int x1, .ref (G.1 170)] (wC G gc ++ [oE G ov]) (wC G gc ++ [oE G ov]) 1 := by
  refine mk_cLw (by decide +kernel) rfl (Nat.le_of_ble_eq_true rfl) (fun p e s m args below meth c A Q ls X ht kI hl Z => ?_)
  have hx := X.1
  have hb := X.2.1
  refine lv_aload_n hx hb dL_readerMark_0 rfl (lv_at hl 2 rfl) ?_
  refine lv_iconst (v := 0) hx hb dL_readerMark_1 (by decide) ?_
  refine lv_aload_n hx hb dL_readerMark_2 rfl (lv_at hl 0 rfl) ?_
  refine lv_iload_n hx hb dL_readerMark_3 rfl (lv_at hl 1 rfl) ?_
  refine l_callX (n := 1) (a := []) (As := [.int x1]) (rest := [.int 0, .ref (G.1 170)]) (c1 := 1) (s1 := 6) sameC adC (sG_r G) X Z (cX6_readerMark_c l hst hm) (oX6 k160) rfl (gooV mB1061 mB1062 mB1063 mB409 mB577) rfl (by decide +kernel) rfl ⟨Nat.le_of_ble_eq_true rfl, Nat.le_of_ble_eq_true rfl⟩ rfl rfl ⟨Nat.le_of_ble_eq_true rfl, Nat.le_of_ble_eq_true rfl⟩ hl.1 rfl (Nat.le_of_ble_eq_true rfl) dL_readerMark_4 (fun hec H locs q9 ce Z hce hcv hcl => ?_) (fun hec w9 H locs Z => ?_)
  · rw [hj] at hcl
    refine l_catch (pre := []) (suf := []) (x := (0, 9, 12, 13)) (ec := 1) (pcx := 12) X Z.2.2 ht rfl (fun _ h => absurd h List.not_mem_nil) (by decide) (by decide) (List.mem_cons_of_mem _ mB926) (by decide) hce hcv hcl rfl ?_
    refine lv_astore_n (lv' := [(3, .ref q9), (0, .ref (G.1 160)), (1, .int x1), (2, .ref (G.1 170))]) hx hb dL_readerMark_12 rfl hl (by decide) rfl (fun ls hl => ?_)
    refine lv_iconst (v := nI 1) hx hb dL_readerMark_13 (by decide) ?_
    exact kI _ _ _ _ _ _ (Nat.le_of_ble_eq_true rfl) (Nat.le_of_ble_eq_true rfl) dL_readerMark_14 Z
  · rw [hj] at hec
    exact absurd hec (by decide)
abbrev wmL_ticksUntilSafe : List Cond := Cond.codeWith yL_ticksUntilSafe cL_ticksUntilSafe 4 (some .int) [(0, 9, 12, 25)] :: wA0
set_option maxHeartbeats 4000000 in
set_option maxRecDepth 100000 in
theorem wL_ticksUntilSafe_0 (l : Launch) (hst : l.stackTraces = false) {G : LY} {gc : Mem} {ov : Nat → Int64} {n : Nat} {x1 : Int32} {r : Nat × Int32} (hm : sX6_ticksUntilSafe n gc x1 = some r) (h0 : r.1 = 0) : cLw l yL_ticksUntilSafe wmL_ticksUntilSafe 8 137 1 6 G [.ref (G.1 160), .int x1, .ref (G.1 170)] (wC G gc ++ [oE G ov]) (wC G gc ++ [oE G (vp_updL ov (0 : Int32).toNatClampNeg r.2.toInt64)]) 0 := by
  refine mk_cLw (by decide +kernel) rfl (Nat.le_of_ble_eq_true rfl) (fun p e s m args below meth c A Q ls X ht kI hl Z => ?_)
  have hx := X.1
  have hb := X.2.1
  refine lv_aload_n hx hb dL_ticksUntilSafe_0 rfl (lv_at hl 2 rfl) ?_
  refine lv_iconst (v := 0) hx hb dL_ticksUntilSafe_1 (by decide) ?_
  refine lv_aload_n hx hb dL_ticksUntilSafe_2 rfl (lv_at hl 0 rfl) ?_
  refine lv_iload_n hx hb dL_ticksUntilSafe_3 rfl (lv_at hl 1 rfl) ?_
  refine l_callX (n := 1) (a := []) (As := [.int x1]) (rest := [.int 0, .ref (G.1 170)]) (c1 := 1) (s1 := 6) sameC adC (sG_r G) X Z (cX6_ticksUntilSafe_c l hst hm) (oX6 k160) rfl (gooV mB1065 mB1066 mB1067 mB409 mB583) rfl (by decide +kernel) rfl ⟨Nat.le_of_ble_eq_true rfl, Nat.le_of_ble_eq_true rfl⟩ rfl rfl ⟨Nat.le_of_ble_eq_true rfl, Nat.le_of_ble_eq_true rfl⟩ hl.1 rfl (Nat.le_of_ble_eq_true rfl) dL_ticksUntilSafe_4 (fun hec H locs q9 ce Z hce hcv hcl => ?_) (fun hec w9 H locs Z => ?_)
  · exact absurd h0 hec
  refine lv_i2l hx hb dL_ticksUntilSafe_7 rfl ?_
  refine l_last rfl X Z dL_ticksUntilSafe_8 (fun H locs Z => ?_)
  refine lv_goto (tgt := 15) hx hb dL_ticksUntilSafe_9 (by decide) ?_
  refine lv_iconst (v := nI 0) hx hb dL_ticksUntilSafe_15 (by decide) ?_
  exact kI _ _ _ _ _ _ (Nat.le_of_ble_eq_true rfl) (Nat.le_of_ble_eq_true rfl) dL_ticksUntilSafe_16 Z
set_option maxHeartbeats 4000000 in
set_option maxRecDepth 100000 in
theorem wL_ticksUntilSafe_1 (l : Launch) (hst : l.stackTraces = false) {G : LY} {gc : Mem} {ov : Nat → Int64} {n : Nat} {x1 : Int32} {r : Nat × Int32} (hm : sX6_ticksUntilSafe n gc x1 = some r) (hj : r.1 = 2) : cLw l yL_ticksUntilSafe wmL_ticksUntilSafe 8 137 1 6 G [.ref (G.1 160), .int x1, .ref (G.1 170)] (wC G gc ++ [oE G ov]) (wC G gc ++ [oE G ov]) 1 := by
  refine mk_cLw (by decide +kernel) rfl (Nat.le_of_ble_eq_true rfl) (fun p e s m args below meth c A Q ls X ht kI hl Z => ?_)
  have hx := X.1
  have hb := X.2.1
  refine lv_aload_n hx hb dL_ticksUntilSafe_0 rfl (lv_at hl 2 rfl) ?_
  refine lv_iconst (v := 0) hx hb dL_ticksUntilSafe_1 (by decide) ?_
  refine lv_aload_n hx hb dL_ticksUntilSafe_2 rfl (lv_at hl 0 rfl) ?_
  refine lv_iload_n hx hb dL_ticksUntilSafe_3 rfl (lv_at hl 1 rfl) ?_
  refine l_callX (n := 1) (a := []) (As := [.int x1]) (rest := [.int 0, .ref (G.1 170)]) (c1 := 1) (s1 := 6) sameC adC (sG_r G) X Z (cX6_ticksUntilSafe_c l hst hm) (oX6 k160) rfl (gooV mB1065 mB1066 mB1067 mB409 mB583) rfl (by decide +kernel) rfl ⟨Nat.le_of_ble_eq_true rfl, Nat.le_of_ble_eq_true rfl⟩ rfl rfl ⟨Nat.le_of_ble_eq_true rfl, Nat.le_of_ble_eq_true rfl⟩ hl.1 rfl (Nat.le_of_ble_eq_true rfl) dL_ticksUntilSafe_4 (fun hec H locs q9 ce Z hce hcv hcl => ?_) (fun hec w9 H locs Z => ?_)
  · rw [hj] at hcl
    refine l_catch (pre := []) (suf := []) (x := (0, 9, 12, 25)) (ec := 2) (pcx := 12) X Z.2.2 ht rfl (fun _ h => absurd h List.not_mem_nil) (by decide) (by decide) (List.mem_cons_of_mem _ mB936) (by decide) hce hcv hcl rfl ?_
    refine lv_astore_n (lv' := [(3, .ref q9), (0, .ref (G.1 160)), (1, .int x1), (2, .ref (G.1 170))]) hx hb dL_ticksUntilSafe_12 rfl hl (by decide) rfl (fun ls hl => ?_)
    refine lv_iconst (v := nI 1) hx hb dL_ticksUntilSafe_13 (by decide) ?_
    exact kI _ _ _ _ _ _ (Nat.le_of_ble_eq_true rfl) (Nat.le_of_ble_eq_true rfl) dL_ticksUntilSafe_14 Z
  · rw [hj] at hec
    exact absurd hec (by decide)
abbrev wmL_countInState : List Cond := Cond.codeWith yL_countInState cL_countInState 4 (some .int) [(0, 9, 12, 25)] :: wA0
set_option maxHeartbeats 4000000 in
set_option maxRecDepth 100000 in
theorem wL_countInState_0 (l : Launch) (hst : l.stackTraces = false) {G : LY} {gc : Mem} {ov : Nat → Int64} {n : Nat} {x1 : Int32} {r : Nat × Int32} (hm : sX6_countInState n gc x1 = some r) (h0 : r.1 = 0) : cLw l yL_countInState wmL_countInState 8 134 1 6 G [.ref (G.1 160), .int x1, .ref (G.1 170)] (wC G gc ++ [oE G ov]) (wC G gc ++ [oE G (vp_updL ov (0 : Int32).toNatClampNeg r.2.toInt64)]) 0 := by
  refine mk_cLw (by decide +kernel) rfl (Nat.le_of_ble_eq_true rfl) (fun p e s m args below meth c A Q ls X ht kI hl Z => ?_)
  have hx := X.1
  have hb := X.2.1
  refine lv_aload_n hx hb dL_countInState_0 rfl (lv_at hl 2 rfl) ?_
  refine lv_iconst (v := 0) hx hb dL_countInState_1 (by decide) ?_
  refine lv_aload_n hx hb dL_countInState_2 rfl (lv_at hl 0 rfl) ?_
  refine lv_iload_n hx hb dL_countInState_3 rfl (lv_at hl 1 rfl) ?_
  refine l_callX (n := 1) (a := []) (As := [.int x1]) (rest := [.int 0, .ref (G.1 170)]) (c1 := 1) (s1 := 6) sameC adC (sG_r G) X Z (cX6_countInState_c l hst hm) (oX6 k160) rfl (gooV mB1070 mB1071 mB1072 mB409 mB584) rfl (by decide +kernel) rfl ⟨Nat.le_of_ble_eq_true rfl, Nat.le_of_ble_eq_true rfl⟩ rfl rfl ⟨Nat.le_of_ble_eq_true rfl, Nat.le_of_ble_eq_true rfl⟩ hl.1 rfl (Nat.le_of_ble_eq_true rfl) dL_countInState_4 (fun hec H locs q9 ce Z hce hcv hcl => ?_) (fun hec w9 H locs Z => ?_)
  · exact absurd h0 hec
  refine lv_i2l hx hb dL_countInState_7 rfl ?_
  refine l_last rfl X Z dL_countInState_8 (fun H locs Z => ?_)
  refine lv_goto (tgt := 15) hx hb dL_countInState_9 (by decide) ?_
  refine lv_iconst (v := nI 0) hx hb dL_countInState_15 (by decide) ?_
  exact kI _ _ _ _ _ _ (Nat.le_of_ble_eq_true rfl) (Nat.le_of_ble_eq_true rfl) dL_countInState_16 Z
set_option maxHeartbeats 4000000 in
set_option maxRecDepth 100000 in
theorem wL_countInState_1 (l : Launch) (hst : l.stackTraces = false) {G : LY} {gc : Mem} {ov : Nat → Int64} {n : Nat} {x1 : Int32} {r : Nat × Int32} (hm : sX6_countInState n gc x1 = some r) (hj : r.1 = 2) : cLw l yL_countInState wmL_countInState 8 134 1 6 G [.ref (G.1 160), .int x1, .ref (G.1 170)] (wC G gc ++ [oE G ov]) (wC G gc ++ [oE G ov]) 1 := by
  refine mk_cLw (by decide +kernel) rfl (Nat.le_of_ble_eq_true rfl) (fun p e s m args below meth c A Q ls X ht kI hl Z => ?_)
  have hx := X.1
  have hb := X.2.1
  refine lv_aload_n hx hb dL_countInState_0 rfl (lv_at hl 2 rfl) ?_
  refine lv_iconst (v := 0) hx hb dL_countInState_1 (by decide) ?_
  refine lv_aload_n hx hb dL_countInState_2 rfl (lv_at hl 0 rfl) ?_
  refine lv_iload_n hx hb dL_countInState_3 rfl (lv_at hl 1 rfl) ?_
  refine l_callX (n := 1) (a := []) (As := [.int x1]) (rest := [.int 0, .ref (G.1 170)]) (c1 := 1) (s1 := 6) sameC adC (sG_r G) X Z (cX6_countInState_c l hst hm) (oX6 k160) rfl (gooV mB1070 mB1071 mB1072 mB409 mB584) rfl (by decide +kernel) rfl ⟨Nat.le_of_ble_eq_true rfl, Nat.le_of_ble_eq_true rfl⟩ rfl rfl ⟨Nat.le_of_ble_eq_true rfl, Nat.le_of_ble_eq_true rfl⟩ hl.1 rfl (Nat.le_of_ble_eq_true rfl) dL_countInState_4 (fun hec H locs q9 ce Z hce hcv hcl => ?_) (fun hec w9 H locs Z => ?_)
  · rw [hj] at hcl
    refine l_catch (pre := []) (suf := []) (x := (0, 9, 12, 25)) (ec := 2) (pcx := 12) X Z.2.2 ht rfl (fun _ h => absurd h List.not_mem_nil) (by decide) (by decide) (List.mem_cons_of_mem _ mB936) (by decide) hce hcv hcl rfl ?_
    refine lv_astore_n (lv' := [(3, .ref q9), (0, .ref (G.1 160)), (1, .int x1), (2, .ref (G.1 170))]) hx hb dL_countInState_12 rfl hl (by decide) rfl (fun ls hl => ?_)
    refine lv_iconst (v := nI 1) hx hb dL_countInState_13 (by decide) ?_
    exact kI _ _ _ _ _ _ (Nat.le_of_ble_eq_true rfl) (Nat.le_of_ble_eq_true rfl) dL_countInState_14 Z
  · rw [hj] at hec
    exact absurd hec (by decide)
end GW
