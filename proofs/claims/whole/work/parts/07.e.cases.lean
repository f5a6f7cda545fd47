section GW
variable {p : Program} {l : Launch} {e : Env} {s : State} {m : MethodId} {args : Array Value} {below : List Frame} {meth : Method} {c : Code} {Q : State → Prop} {G : LY} {A : Nat → Prop} {ret : Option FieldType}
variable {H : Heap} {locs : List Loc} {cells slots b L i : Nat} {xs : Nat → Int32}
set_option maxHeartbeats 4000000 in
set_option maxRecDepth 100000 in
theorem law_begin {n : Nat} {gc gm : Mem} {ov : Nat → Int64} {x1 : Int32} (X : gC p s m args meth c cL_law 7 (Cond.initialized RX6 :: wA0) RL ret G A) (hX : va_X b L xs s s.heap) (hbl : b < s.heap.size) (hbA : ¬ A b) (hb1 : vp_in (nI i + 1) L) (ha1 : xs (nI i + 1).toNatClampNeg = x1) {gc1 : Mem} {ov1 : Nat → Int64} {k : Nat} (hk4 : k < 4) (hw : cLw l yL_begin wmL_begin 8 134 2 12 G [.ref (G.1 160), .int x1, .ref (G.1 170)] (wC G gc ++ [oE G ov]) (wC G gc1 ++ [oE G ov1]) k) {q : Int32 × Mem} (hm : sX7_begin n gm x1 = some q) (hth : q.2 0 7 = nI k) (hv : k = 0 → ov1 (0 : Int32).toNatClampNeg = q.1.toInt64) (hcs : cells + 5 ≤ room_1.cells ∧ slots + 30 ≤ room_1.slots) (kk : ∀ (H : Heap) (locs : List Loc) (ls : Array Slot), LSt G (wLw G gc1 q.2 ov1) A s.heap H locs → lv_has ls 7 [(0, .ref b), (1, .ref (G.1 160)), (2, .ref ((shG G).1 0)), (3, .ref (G.1 170)), (4, .int (nI i))] → W p l e room_1 s m args below meth c H locs (cells + 5) (slots + 30) Q (F0 m 2538 ls [])) : ∀ (H : Heap) (locs : List Loc) (ls : Array Slot), LSt G (wLw G gc gm ov) A s.heap H locs → lv_has ls 7 [(0, .ref b), (1, .ref (G.1 160)), (2, .ref ((shG G).1 0)), (3, .ref (G.1 170)), (4, .int (nI i))] → W p l e room_1 s m args below meth c H locs cells slots Q (F0 m 240 ls []) := by
  have hx := X.1
  have hb := X.2.1
  intro H locs ls Z hl
  refine lv_aload_n hx hb dL_law_240 rfl (lv_at hl 1 rfl) ?_
  refine lv_aload_n hx hb dL_law_241 rfl (lv_at hl 0 rfl) ?_
  refine lv_iload hx hb dL_law_242 (lv_at hl 4 rfl) ?_
  refine lv_iconst (v := 1) hx hb dL_law_244 (by decide) ?_
  refine lv_iadd hx hb dL_law_245 ?_
  refine l_sld hx hb hX hbl hbA Z.2.2 hb1 ha1 dL_law_246 ?_
  refine lv_aload_n hx hb dL_law_247 rfl (lv_at hl 3 rfl) ?_
  rw [← wLw_w] at Z
  refine l_callW (n := 3) (As := [.ref (G.1 160), .int x1, .ref (G.1 170)]) (rest := []) (c1 := cells + 2) (s1 := slots + 12) X Z (adCo G gc _ ov _) hw (gooS mB1082 mB1083 mB1084 mB931) rfl (by decide +kernel) rfl ⟨Nat.le_of_ble_eq_true rfl, Nat.le_of_ble_eq_true rfl⟩ rfl rfl ⟨Nat.le_trans (Nat.add_le_add_left (Nat.le_of_ble_eq_true rfl) _) hcs.1, Nat.le_trans (Nat.add_le_add_left (Nat.le_of_ble_eq_true rfl) _) hcs.2⟩ hl.1 rfl (Nat.le_of_ble_eq_true rfl) dL_law_248 (fun H locs Z => ?_)
  rw [wLw_w] at Z
  refine lv_istore (lv' := [(5, .int (nI k)), (0, .ref b), (1, .ref (G.1 160)), (2, .ref ((shG G).1 0)), (3, .ref (G.1 170)), (4, .int (nI i))]) hx hb dL_law_251 hl (by decide) rfl (fun ls hl => ?_)
  refine lv_aload_n hx hb dL_law_253 rfl (lv_at hl 3 rfl) ?_
  refine lv_aload_n hx hb dL_law_254 rfl (lv_at hl 1 rfl) ?_
  refine lv_iload hx hb dL_law_255 (lv_at hl 5 rfl) ?_
  refine lv_iconst (v := 1) hx hb dL_law_257 (by decide) ?_
  refine lv_iadd hx hb dL_law_258 ?_
  refine l_sld hx hb hX hbl hbA Z.2.2 hb1 ha1 dL_law_259 ?_
  rw [← wLw_m] at Z
  refine l_callI (n := 1) (As := [.int x1]) (rest := []) sameM adM (sG_sh G) X Z (cX7_begin_c l hm) oX7 rfl (gooV mB1085 mB1086 mB1087 mB614 mB754) rfl (by decide +kernel) rfl ⟨Nat.le_of_ble_eq_true rfl, Nat.le_of_ble_eq_true rfl⟩ ⟨Nat.le_trans (Nat.add_le_add_left (Nat.le_of_ble_eq_true rfl) _) hcs.1, Nat.le_trans (Nat.add_le_add_left (Nat.le_of_ble_eq_true rfl) _) hcs.2⟩ hl.1 rfl (Nat.le_of_ble_eq_true rfl) dL_law_260 (fun w9 H locs Z => ?_)
  rw [wLw_m] at Z
  refine lv_istore (lv' := [(6, .int q.1), (5, .int (nI k)), (0, .ref b), (1, .ref (G.1 160)), (2, .ref ((shG G).1 0)), (3, .ref (G.1 170)), (4, .int (nI i))]) hx hb dL_law_263 hl (by decide) rfl (fun ls hl => ?_)
  refine lv_aload_n hx hb dL_law_265 rfl (lv_at hl 4 rfl) ?_
  rw [← wLw_m] at Z
  refine l_callI (n := 0) (As := []) (rest := []) sameM adM (sG_sh G) X Z (cX7_thrown_c l (show sX7_thrown _ = some _ from rfl)) oX7 rfl (gooV mB1088 mB1089 mB1090 mB614 mB607) rfl (by decide +kernel) rfl ⟨Nat.le_of_ble_eq_true rfl, Nat.le_of_ble_eq_true rfl⟩ ⟨Nat.le_trans (Nat.add_le_add_left (Nat.le_of_ble_eq_true rfl) _) hcs.1, Nat.le_trans (Nat.add_le_add_left (Nat.le_of_ble_eq_true rfl) _) hcs.2⟩ hl.1 rfl (Nat.le_of_ble_eq_true rfl) dL_law_266 (fun w9 H locs Z => ?_)
  rw [wLw_m] at Z
  refine lv_iload hx hb dL_law_269 (lv_at hl 1 rfl) ?_
  refine lv_icmp_eq (tgt := 276) hx hb dL_law_271 (by decide) (fun cz => ?_) (fun cz => absurd hth cz)
  refine lv_iload hx hb dL_law_276 (lv_at hl 1 rfl) ?_
  refine lv_if_ne (tgt := 293) hx hb dL_law_278 (by decide) (fun cz => ?_) (fun cz => ?_)
  · skip
    refine lv_goto (tgt := 2538) hx hb dL_law_293 (by decide) ?_
    refine W.widen (k := cells + 5) (n := slots + 30) (Nat.add_le_add_left (Nat.le_of_ble_eq_true rfl) _) (Nat.add_le_add_left (Nat.le_of_ble_eq_true rfl) _) ?_
    exact kk H locs ls Z (lv_sub hl [2, 3, 4, 5, 6] rfl)
  have hk0 : k = 0 := nI_inj0 hk4 cz
  have hv := hv hk0
  refine lv_aload_n hx hb dL_law_281 rfl (lv_at hl 5 rfl) ?_
  refine lv_iconst (v := 0) hx hb dL_law_282 (by decide) ?_
  refine l_lald X Z dL_law_283 ?_
  refine lv_iload hx hb dL_law_284 (lv_at hl 0 rfl) ?_
  refine lv_i2l hx hb dL_law_286 rfl ?_
  refine W.lcmp hx hb dL_law_287 ?_
  refine lv_if_eq (tgt := 293) hx hb dL_law_288 (by decide) (fun cy => ?_) (fun cy => absurd (by rw [hv]; exact lcmp_self _) cy)
  refine lv_goto (tgt := 2538) hx hb dL_law_293 (by decide) ?_
  refine W.widen (k := cells + 5) (n := slots + 30) (Nat.add_le_add_left (Nat.le_of_ble_eq_true rfl) _) (Nat.add_le_add_left (Nat.le_of_ble_eq_true rfl) _) ?_
  exact kk H locs ls Z (lv_sub hl [2, 3, 4, 5, 6] rfl)
set_option maxHeartbeats 4000000 in
set_option maxRecDepth 100000 in
theorem law_read {n : Nat} {gc gm : Mem} {ov : Nat → Int64} {x1 : Int32} {x2 : Int32} (X : gC p s m args meth c cL_law 7 (Cond.initialized RX6 :: wA0) RL ret G A) (hX : va_X b L xs s s.heap) (hbl : b < s.heap.size) (hbA : ¬ A b) (hb1 : vp_in (nI i + 1) L) (ha1 : xs (nI i + 1).toNatClampNeg = x1) (hb2 : vp_in (nI i + 2) L) (ha2 : xs (nI i + 2).toNatClampNeg = x2) {gc1 : Mem} {ov1 : Nat → Int64} {k : Nat} (hk4 : k < 4) (hw : cLw l yL_read wmL_read 8 135 3 18 G [.ref (G.1 160), .int x1, .int x2, .ref (G.1 170)] (wC G gc ++ [oE G ov]) (wC G gc1 ++ [oE G ov1]) k) {q : Int32 × Mem} (hm : sX7_read n gm x1 x2 = some q) (hth : q.2 0 7 = nI k) (hv : k = 0 → ov1 (0 : Int32).toNatClampNeg = q.1.toInt64) (hcs : cells + 5 ≤ room_1.cells ∧ slots + 30 ≤ room_1.slots) (kk : ∀ (H : Heap) (locs : List Loc) (ls : Array Slot), LSt G (wLw G gc1 q.2 ov1) A s.heap H locs → lv_has ls 7 [(0, .ref b), (1, .ref (G.1 160)), (2, .ref ((shG G).1 0)), (3, .ref (G.1 170)), (4, .int (nI i))] → W p l e room_1 s m args below meth c H locs (cells + 5) (slots + 30) Q (F0 m 2538 ls [])) : ∀ (H : Heap) (locs : List Loc) (ls : Array Slot), LSt G (wLw G gc gm ov) A s.heap H locs → lv_has ls 7 [(0, .ref b), (1, .ref (G.1 160)), (2, .ref ((shG G).1 0)), (3, .ref (G.1 170)), (4, .int (nI i))] → W p l e room_1 s m args below meth c H locs cells slots Q (F0 m 296 ls []) := by
  have hx := X.1
  have hb := X.2.1
  intro H locs ls Z hl
  refine lv_aload_n hx hb dL_law_296 rfl (lv_at hl 1 rfl) ?_
  refine lv_aload_n hx hb dL_law_297 rfl (lv_at hl 0 rfl) ?_
  refine lv_iload hx hb dL_law_298 (lv_at hl 4 rfl) ?_
  refine lv_iconst (v := 1) hx hb dL_law_300 (by decide) ?_
  refine lv_iadd hx hb dL_law_301 ?_
  refine l_sld hx hb hX hbl hbA Z.2.2 hb1 ha1 dL_law_302 ?_
  refine lv_aload_n hx hb dL_law_303 rfl (lv_at hl 0 rfl) ?_
  refine lv_iload hx hb dL_law_304 (lv_at hl 4 rfl) ?_
  refine lv_iconst (v := 2) hx hb dL_law_306 (by decide) ?_
  refine lv_iadd hx hb dL_law_307 ?_
  refine l_sld hx hb hX hbl hbA Z.2.2 hb2 ha2 dL_law_308 ?_
  refine lv_aload_n hx hb dL_law_309 rfl (lv_at hl 3 rfl) ?_
  rw [← wLw_w] at Z
  refine l_callW (n := 4) (As := [.ref (G.1 160), .int x1, .int x2, .ref (G.1 170)]) (rest := []) (c1 := cells + 3) (s1 := slots + 18) X Z (adCo G gc _ ov _) hw (gooS mB1091 mB1092 mB1084 mB935) rfl (by decide +kernel) rfl ⟨Nat.le_of_ble_eq_true rfl, Nat.le_of_ble_eq_true rfl⟩ rfl rfl ⟨Nat.le_trans (Nat.add_le_add_left (Nat.le_of_ble_eq_true rfl) _) hcs.1, Nat.le_trans (Nat.add_le_add_left (Nat.le_of_ble_eq_true rfl) _) hcs.2⟩ hl.1 rfl (Nat.le_of_ble_eq_true rfl) dL_law_310 (fun H locs Z => ?_)
  rw [wLw_w] at Z
  refine lv_istore (lv' := [(5, .int (nI k)), (0, .ref b), (1, .ref (G.1 160)), (2, .ref ((shG G).1 0)), (3, .ref (G.1 170)), (4, .int (nI i))]) hx hb dL_law_313 hl (by decide) rfl (fun ls hl => ?_)
  refine lv_aload_n hx hb dL_law_315 rfl (lv_at hl 3 rfl) ?_
  refine lv_aload_n hx hb dL_law_316 rfl (lv_at hl 1 rfl) ?_
  refine lv_iload hx hb dL_law_317 (lv_at hl 5 rfl) ?_
  refine lv_iconst (v := 1) hx hb dL_law_319 (by decide) ?_
  refine lv_iadd hx hb dL_law_320 ?_
  refine l_sld hx hb hX hbl hbA Z.2.2 hb1 ha1 dL_law_321 ?_
  refine lv_aload_n hx hb dL_law_322 rfl (lv_at hl 1 rfl) ?_
  refine lv_iload hx hb dL_law_323 (lv_at hl 5 rfl) ?_
  refine lv_iconst (v := 2) hx hb dL_law_325 (by decide) ?_
  refine lv_iadd hx hb dL_law_326 ?_
  refine l_sld hx hb hX hbl hbA Z.2.2 hb2 ha2 dL_law_327 ?_
  rw [← wLw_m] at Z
  refine l_callI (n := 2) (As := [.int x1, .int x2]) (rest := []) sameM adM (sG_sh G) X Z (cX7_read_c l hm) oX7 rfl (gooV mB1093 mB1094 mB1095 mB614 mB761) rfl (by decide +kernel) rfl ⟨Nat.le_of_ble_eq_true rfl, Nat.le_of_ble_eq_true rfl⟩ ⟨Nat.le_trans (Nat.add_le_add_left (Nat.le_of_ble_eq_true rfl) _) hcs.1, Nat.le_trans (Nat.add_le_add_left (Nat.le_of_ble_eq_true rfl) _) hcs.2⟩ hl.1 rfl (Nat.le_of_ble_eq_true rfl) dL_law_328 (fun w9 H locs Z => ?_)
  rw [wLw_m] at Z
  refine lv_istore (lv' := [(6, .int q.1), (5, .int (nI k)), (0, .ref b), (1, .ref (G.1 160)), (2, .ref ((shG G).1 0)), (3, .ref (G.1 170)), (4, .int (nI i))]) hx hb dL_law_331 hl (by decide) rfl (fun ls hl => ?_)
  refine lv_aload_n hx hb dL_law_333 rfl (lv_at hl 4 rfl) ?_
  rw [← wLw_m] at Z
  refine l_callI (n := 0) (As := []) (rest := []) sameM adM (sG_sh G) X Z (cX7_thrown_c l (show sX7_thrown _ = some _ from rfl)) oX7 rfl (gooV mB1088 mB1089 mB1090 mB614 mB607) rfl (by decide +kernel) rfl ⟨Nat.le_of_ble_eq_true rfl, Nat.le_of_ble_eq_true rfl⟩ ⟨Nat.le_trans (Nat.add_le_add_left (Nat.le_of_ble_eq_true rfl) _) hcs.1, Nat.le_trans (Nat.add_le_add_left (Nat.le_of_ble_eq_true rfl) _) hcs.2⟩ hl.1 rfl (Nat.le_of_ble_eq_true rfl) dL_law_334 (fun w9 H locs Z => ?_)
  rw [wLw_m] at Z
  refine lv_iload hx hb dL_law_337 (lv_at hl 1 rfl) ?_
  refine lv_icmp_eq (tgt := 344) hx hb dL_law_339 (by decide) (fun cz => ?_) (fun cz => absurd hth cz)
  refine lv_iload hx hb dL_law_344 (lv_at hl 1 rfl) ?_
  refine lv_if_ne (tgt := 361) hx hb dL_law_346 (by decide) (fun cz => ?_) (fun cz => ?_)
  · skip
    refine lv_goto (tgt := 2538) hx hb dL_law_361 (by decide) ?_
    refine W.widen (k := cells + 5) (n := slots + 30) (Nat.add_le_add_left (Nat.le_of_ble_eq_true rfl) _) (Nat.add_le_add_left (Nat.le_of_ble_eq_true rfl) _) ?_
    exact kk H locs ls Z (lv_sub hl [2, 3, 4, 5, 6] rfl)
  have hk0 : k = 0 := nI_inj0 hk4 cz
  have hv := hv hk0
  refine lv_aload_n hx hb dL_law_349 rfl (lv_at hl 5 rfl) ?_
  refine lv_iconst (v := 0) hx hb dL_law_350 (by decide) ?_
  refine l_lald X Z dL_law_351 ?_
  refine lv_iload hx hb dL_law_352 (lv_at hl 0 rfl) ?_
  refine lv_i2l hx hb dL_law_354 rfl ?_
  refine W.lcmp hx hb dL_law_355 ?_
  refine lv_if_eq (tgt := 361) hx hb dL_law_356 (by decide) (fun cy => ?_) (fun cy => absurd (by rw [hv]; exact lcmp_self _) cy)
  refine lv_goto (tgt := 2538) hx hb dL_law_361 (by decide) ?_
  refine W.widen (k := cells + 5) (n := slots + 30) (Nat.add_le_add_left (Nat.le_of_ble_eq_true rfl) _) (Nat.add_le_add_left (Nat.le_of_ble_eq_true rfl) _) ?_
  exact kk H locs ls Z (lv_sub hl [2, 3, 4, 5, 6] rfl)
set_option maxHeartbeats 4000000 in
set_option maxRecDepth 100000 in
theorem law_write {n : Nat} {gc gm : Mem} {ov : Nat → Int64} {x1 : Int32} {x2 : Int32} {x3 : Int32} (X : gC p s m args meth c cL_law 7 (Cond.initialized RX6 :: wA0) RL ret G A) (hX : va_X b L xs s s.heap) (hbl : b < s.heap.size) (hbA : ¬ A b) (hb1 : vp_in (nI i + 1) L) (ha1 : xs (nI i + 1).toNatClampNeg = x1) (hb2 : vp_in (nI i + 2) L) (ha2 : xs (nI i + 2).toNatClampNeg = x2) (hb3 : vp_in (nI i + 3) L) (ha3 : xs (nI i + 3).toNatClampNeg = x3) {gc1 : Mem} {ov1 : Nat → Int64} {k : Nat} (hk4 : k < 4) (hw : cLw l yL_write wmL_write 8 136 4 24 G [.ref (G.1 160), .int x1, .int x2, .int x3, .ref (G.1 170)] (wC G gc ++ [oE G ov]) (wC G gc1 ++ [oE G ov1]) k) {q : Int32 × Mem} (hm : sX7_write n gm x1 x2 x3 = some q) (hth : q.2 0 7 = nI k) (hv : k = 0 → ov1 (0 : Int32).toNatClampNeg = q.1.toInt64) (hcs : cells + 5 ≤ room_1.cells ∧ slots + 30 ≤ room_1.slots) (kk : ∀ (H : Heap) (locs : List Loc) (ls : Array Slot), LSt G (wLw G gc1 q.2 ov1) A s.heap H locs → lv_has ls 7 [(0, .ref b), (1, .ref (G.1 160)), (2, .ref ((shG G).1 0)), (3, .ref (G.1 170)), (4, .int (nI i))] → W p l e room_1 s m args below meth c H locs (cells + 5) (slots + 30) Q (F0 m 2538 ls [])) : ∀ (H : Heap) (locs : List Loc) (ls : Array Slot), LSt G (wLw G gc gm ov) A s.heap H locs → lv_has ls 7 [(0, .ref b), (1, .ref (G.1 160)), (2, .ref ((shG G).1 0)), (3, .ref (G.1 170)), (4, .int (nI i))] → W p l e room_1 s m args below meth c H locs cells slots Q (F0 m 364 ls []) := by
  have hx := X.1
  have hb := X.2.1
  intro H locs ls Z hl
  refine lv_aload_n hx hb dL_law_364 rfl (lv_at hl 1 rfl) ?_
  refine lv_aload_n hx hb dL_law_365 rfl (lv_at hl 0 rfl) ?_
  refine lv_iload hx hb dL_law_366 (lv_at hl 4 rfl) ?_
  refine lv_iconst (v := 1) hx hb dL_law_368 (by decide) ?_
  refine lv_iadd hx hb dL_law_369 ?_
  refine l_sld hx hb hX hbl hbA Z.2.2 hb1 ha1 dL_law_370 ?_
  refine lv_aload_n hx hb dL_law_371 rfl (lv_at hl 0 rfl) ?_
  refine lv_iload hx hb dL_law_372 (lv_at hl 4 rfl) ?_
  refine lv_iconst (v := 2) hx hb dL_law_374 (by decide) ?_
  refine lv_iadd hx hb dL_law_375 ?_
  refine l_sld hx hb hX hbl hbA Z.2.2 hb2 ha2 dL_law_376 ?_
  refine lv_aload_n hx hb dL_law_377 rfl (lv_at hl 0 rfl) ?_
  refine lv_iload hx hb dL_law_378 (lv_at hl 4 rfl) ?_
  refine lv_iconst (v := 3) hx hb dL_law_380 (by decide) ?_
  refine lv_iadd hx hb dL_law_381 ?_
  refine l_sld hx hb hX hbl hbA Z.2.2 hb3 ha3 dL_law_382 ?_
  refine lv_aload_n hx hb dL_law_383 rfl (lv_at hl 3 rfl) ?_
  rw [← wLw_w] at Z
  refine l_callW (n := 5) (As := [.ref (G.1 160), .int x1, .int x2, .int x3, .ref (G.1 170)]) (rest := []) (c1 := cells + 4) (s1 := slots + 24) X Z (adCo G gc _ ov _) hw (gooS mB1096 mB1097 mB1084 mB940) rfl (by decide +kernel) rfl ⟨Nat.le_of_ble_eq_true rfl, Nat.le_of_ble_eq_true rfl⟩ rfl rfl ⟨Nat.le_trans (Nat.add_le_add_left (Nat.le_of_ble_eq_true rfl) _) hcs.1, Nat.le_trans (Nat.add_le_add_left (Nat.le_of_ble_eq_true rfl) _) hcs.2⟩ hl.1 rfl (Nat.le_of_ble_eq_true rfl) dL_law_384 (fun H locs Z => ?_)
  rw [wLw_w] at Z
  refine lv_istore (lv' := [(5, .int (nI k)), (0, .ref b), (1, .ref (G.1 160)), (2, .ref ((shG G).1 0)), (3, .ref (G.1 170)), (4, .int (nI i))]) hx hb dL_law_387 hl (by decide) rfl (fun ls hl => ?_)
  refine lv_aload_n hx hb dL_law_389 rfl (lv_at hl 3 rfl) ?_
  refine lv_aload_n hx hb dL_law_390 rfl (lv_at hl 1 rfl) ?_
  refine lv_iload hx hb dL_law_391 (lv_at hl 5 rfl) ?_
  refine lv_iconst (v := 1) hx hb dL_law_393 (by decide) ?_
  refine lv_iadd hx hb dL_law_394 ?_
  refine l_sld hx hb hX hbl hbA Z.2.2 hb1 ha1 dL_law_395 ?_
  refine lv_aload_n hx hb dL_law_396 rfl (lv_at hl 1 rfl) ?_
  refine lv_iload hx hb dL_law_397 (lv_at hl 5 rfl) ?_
  refine lv_iconst (v := 2) hx hb dL_law_399 (by decide) ?_
  refine lv_iadd hx hb dL_law_400 ?_
  refine l_sld hx hb hX hbl hbA Z.2.2 hb2 ha2 dL_law_401 ?_
  refine lv_aload_n hx hb dL_law_402 rfl (lv_at hl 1 rfl) ?_
  refine lv_iload hx hb dL_law_403 (lv_at hl 5 rfl) ?_
  refine lv_iconst (v := 3) hx hb dL_law_405 (by decide) ?_
  refine lv_iadd hx hb dL_law_406 ?_
  refine l_sld hx hb hX hbl hbA Z.2.2 hb3 ha3 dL_law_407 ?_
  rw [← wLw_m] at Z
  refine l_callI (n := 3) (As := [.int x1, .int x2, .int x3]) (rest := []) sameM adM (sG_sh G) X Z (cX7_write_c l hm) oX7 rfl (gooV mB1098 mB1099 mB1100 mB614 mB768) rfl (by decide +kernel) rfl ⟨Nat.le_of_ble_eq_true rfl, Nat.le_of_ble_eq_true rfl⟩ ⟨Nat.le_trans (Nat.add_le_add_left (Nat.le_of_ble_eq_true rfl) _) hcs.1, Nat.le_trans (Nat.add_le_add_left (Nat.le_of_ble_eq_true rfl) _) hcs.2⟩ hl.1 rfl (Nat.le_of_ble_eq_true rfl) dL_law_408 (fun w9 H locs Z => ?_)
  rw [wLw_m] at Z
  refine lv_istore (lv' := [(6, .int q.1), (5, .int (nI k)), (0, .ref b), (1, .ref (G.1 160)), (2, .ref ((shG G).1 0)), (3, .ref (G.1 170)), (4, .int (nI i))]) hx hb dL_law_411 hl (by decide) rfl (fun ls hl => ?_)
  refine lv_aload_n hx hb dL_law_413 rfl (lv_at hl 4 rfl) ?_
  rw [← wLw_m] at Z
  refine l_callI (n := 0) (As := []) (rest := []) sameM adM (sG_sh G) X Z (cX7_thrown_c l (show sX7_thrown _ = some _ from rfl)) oX7 rfl (gooV mB1088 mB1089 mB1090 mB614 mB607) rfl (by decide +kernel) rfl ⟨Nat.le_of_ble_eq_true rfl, Nat.le_of_ble_eq_true rfl⟩ ⟨Nat.le_trans (Nat.add_le_add_left (Nat.le_of_ble_eq_true rfl) _) hcs.1, Nat.le_trans (Nat.add_le_add_left (Nat.le_of_ble_eq_true rfl) _) hcs.2⟩ hl.1 rfl (Nat.le_of_ble_eq_true rfl) dL_law_414 (fun w9 H locs Z => ?_)
  rw [wLw_m] at Z
  refine lv_iload hx hb dL_law_417 (lv_at hl 1 rfl) ?_
  refine lv_icmp_eq (tgt := 424) hx hb dL_law_419 (by decide) (fun cz => ?_) (fun cz => absurd hth cz)
  refine lv_iload hx hb dL_law_424 (lv_at hl 1 rfl) ?_
  refine lv_if_ne (tgt := 441) hx hb dL_law_426 (by decide) (fun cz => ?_) (fun cz => ?_)
  · skip
    refine lv_goto (tgt := 2538) hx hb dL_law_441 (by decide) ?_
    refine W.widen (k := cells + 5) (n := slots + 30) (Nat.add_le_add_left (Nat.le_of_ble_eq_true rfl) _) (Nat.add_le_add_left (Nat.le_of_ble_eq_true rfl) _) ?_
    exact kk H locs ls Z (lv_sub hl [2, 3, 4, 5, 6] rfl)
  have hk0 : k = 0 := nI_inj0 hk4 cz
  have hv := hv hk0
  refine lv_aload_n hx hb dL_law_429 rfl (lv_at hl 5 rfl) ?_
  refine lv_iconst (v := 0) hx hb dL_law_430 (by decide) ?_
  refine l_lald X Z dL_law_431 ?_
  refine lv_iload hx hb dL_law_432 (lv_at hl 0 rfl) ?_
  refine lv_i2l hx hb dL_law_434 rfl ?_
  refine W.lcmp hx hb dL_law_435 ?_
  refine lv_if_eq (tgt := 441) hx hb dL_law_436 (by decide) (fun cy => ?_) (fun cy => absurd (by rw [hv]; exact lcmp_self _) cy)
  refine lv_goto (tgt := 2538) hx hb dL_law_441 (by decide) ?_
  refine W.widen (k := cells + 5) (n := slots + 30) (Nat.add_le_add_left (Nat.le_of_ble_eq_true rfl) _) (Nat.add_le_add_left (Nat.le_of_ble_eq_true rfl) _) ?_
  exact kk H locs ls Z (lv_sub hl [2, 3, 4, 5, 6] rfl)
set_option maxHeartbeats 4000000 in
set_option maxRecDepth 100000 in
theorem law_commit {n : Nat} {gc gm : Mem} {ov : Nat → Int64} {x1 : Int32} (X : gC p s m args meth c cL_law 7 (Cond.initialized RX6 :: wA0) RL ret G A) (hX : va_X b L xs s s.heap) (hbl : b < s.heap.size) (hbA : ¬ A b) (hb1 : vp_in (nI i + 1) L) (ha1 : xs (nI i + 1).toNatClampNeg = x1) {gc1 : Mem} {ov1 : Nat → Int64} {k : Nat} (hk4 : k < 4) (hw : cLw l yL_commit wmL_commit 8 135 2 12 G [.ref (G.1 160), .int x1, .ref (G.1 170)] (wC G gc ++ [oE G ov]) (wC G gc1 ++ [oE G ov1]) k) {q : Int32 × Mem} (hm : sX7_commit n gm x1 = some q) (hth : q.2 0 7 = nI k) (hv : k = 0 → ov1 (0 : Int32).toNatClampNeg = q.1.toInt64) (hcs : cells + 5 ≤ room_1.cells ∧ slots + 30 ≤ room_1.slots) (kk : ∀ (H : Heap) (locs : List Loc) (ls : Array Slot), LSt G (wLw G gc1 q.2 ov1) A s.heap H locs → lv_has ls 7 [(0, .ref b), (1, .ref (G.1 160)), (2, .ref ((shG G).1 0)), (3, .ref (G.1 170)), (4, .int (nI i))] → W p l e room_1 s m args below meth c H locs (cells + 5) (slots + 30) Q (F0 m 2538 ls [])) : ∀ (H : Heap) (locs : List Loc) (ls : Array Slot), LSt G (wLw G gc gm ov) A s.heap H locs → lv_has ls 7 [(0, .ref b), (1, .ref (G.1 160)), (2, .ref ((shG G).1 0)), (3, .ref (G.1 170)), (4, .int (nI i))] → W p l e room_1 s m args below meth c H locs cells slots Q (F0 m 444 ls []) := by
  have hx := X.1
  have hb := X.2.1
  intro H locs ls Z hl
  refine lv_aload_n hx hb dL_law_444 rfl (lv_at hl 1 rfl) ?_
  refine lv_aload_n hx hb dL_law_445 rfl (lv_at hl 0 rfl) ?_
  refine lv_iload hx hb dL_law_446 (lv_at hl 4 rfl) ?_
  refine lv_iconst (v := 1) hx hb dL_law_448 (by decide) ?_
  refine lv_iadd hx hb dL_law_449 ?_
  refine l_sld hx hb hX hbl hbA Z.2.2 hb1 ha1 dL_law_450 ?_
  refine lv_aload_n hx hb dL_law_451 rfl (lv_at hl 3 rfl) ?_
  rw [← wLw_w] at Z
  refine l_callW (n := 3) (As := [.ref (G.1 160), .int x1, .ref (G.1 170)]) (rest := []) (c1 := cells + 2) (s1 := slots + 12) X Z (adCo G gc _ ov _) hw (gooS mB1101 mB1102 mB1084 mB944) rfl (by decide +kernel) rfl ⟨Nat.le_of_ble_eq_true rfl, Nat.le_of_ble_eq_true rfl⟩ rfl rfl ⟨Nat.le_trans (Nat.add_le_add_left (Nat.le_of_ble_eq_true rfl) _) hcs.1, Nat.le_trans (Nat.add_le_add_left (Nat.le_of_ble_eq_true rfl) _) hcs.2⟩ hl.1 rfl (Nat.le_of_ble_eq_true rfl) dL_law_452 (fun H locs Z => ?_)
  rw [wLw_w] at Z
  refine lv_istore (lv' := [(5, .int (nI k)), (0, .ref b), (1, .ref (G.1 160)), (2, .ref ((shG G).1 0)), (3, .ref (G.1 170)), (4, .int (nI i))]) hx hb dL_law_455 hl (by decide) rfl (fun ls hl => ?_)
  refine lv_aload_n hx hb dL_law_457 rfl (lv_at hl 3 rfl) ?_
  refine lv_aload_n hx hb dL_law_458 rfl (lv_at hl 1 rfl) ?_
  refine lv_iload hx hb dL_law_459 (lv_at hl 5 rfl) ?_
  refine lv_iconst (v := 1) hx hb dL_law_461 (by decide) ?_
  refine lv_iadd hx hb dL_law_462 ?_
  refine l_sld hx hb hX hbl hbA Z.2.2 hb1 ha1 dL_law_463 ?_
  rw [← wLw_m] at Z
  refine l_callI (n := 1) (As := [.int x1]) (rest := []) sameM adM (sG_sh G) X Z (cX7_commit_c l hm) oX7 rfl (gooV mB1103 mB1104 mB1105 mB614 mB775) rfl (by decide +kernel) rfl ⟨Nat.le_of_ble_eq_true rfl, Nat.le_of_ble_eq_true rfl⟩ ⟨Nat.le_trans (Nat.add_le_add_left (Nat.le_of_ble_eq_true rfl) _) hcs.1, Nat.le_trans (Nat.add_le_add_left (Nat.le_of_ble_eq_true rfl) _) hcs.2⟩ hl.1 rfl (Nat.le_of_ble_eq_true rfl) dL_law_464 (fun w9 H locs Z => ?_)
  rw [wLw_m] at Z
  refine lv_istore (lv' := [(6, .int q.1), (5, .int (nI k)), (0, .ref b), (1, .ref (G.1 160)), (2, .ref ((shG G).1 0)), (3, .ref (G.1 170)), (4, .int (nI i))]) hx hb dL_law_467 hl (by decide) rfl (fun ls hl => ?_)
  refine lv_aload_n hx hb dL_law_469 rfl (lv_at hl 4 rfl) ?_
  rw [← wLw_m] at Z
  refine l_callI (n := 0) (As := []) (rest := []) sameM adM (sG_sh G) X Z (cX7_thrown_c l (show sX7_thrown _ = some _ from rfl)) oX7 rfl (gooV mB1088 mB1089 mB1090 mB614 mB607) rfl (by decide +kernel) rfl ⟨Nat.le_of_ble_eq_true rfl, Nat.le_of_ble_eq_true rfl⟩ ⟨Nat.le_trans (Nat.add_le_add_left (Nat.le_of_ble_eq_true rfl) _) hcs.1, Nat.le_trans (Nat.add_le_add_left (Nat.le_of_ble_eq_true rfl) _) hcs.2⟩ hl.1 rfl (Nat.le_of_ble_eq_true rfl) dL_law_470 (fun w9 H locs Z => ?_)
  rw [wLw_m] at Z
  refine lv_iload hx hb dL_law_473 (lv_at hl 1 rfl) ?_
  refine lv_icmp_eq (tgt := 480) hx hb dL_law_475 (by decide) (fun cz => ?_) (fun cz => absurd hth cz)
  refine lv_iload hx hb dL_law_480 (lv_at hl 1 rfl) ?_
  refine lv_if_ne (tgt := 497) hx hb dL_law_482 (by decide) (fun cz => ?_) (fun cz => ?_)
  · skip
    refine lv_goto (tgt := 2538) hx hb dL_law_497 (by decide) ?_
    refine W.widen (k := cells + 5) (n := slots + 30) (Nat.add_le_add_left (Nat.le_of_ble_eq_true rfl) _) (Nat.add_le_add_left (Nat.le_of_ble_eq_true rfl) _) ?_
    exact kk H locs ls Z (lv_sub hl [2, 3, 4, 5, 6] rfl)
  have hk0 : k = 0 := nI_inj0 hk4 cz
  have hv := hv hk0
  refine lv_aload_n hx hb dL_law_485 rfl (lv_at hl 5 rfl) ?_
  refine lv_iconst (v := 0) hx hb dL_law_486 (by decide) ?_
  refine l_lald X Z dL_law_487 ?_
  refine lv_iload hx hb dL_law_488 (lv_at hl 0 rfl) ?_
  refine lv_i2l hx hb dL_law_490 rfl ?_
  refine W.lcmp hx hb dL_law_491 ?_
  refine lv_if_eq (tgt := 497) hx hb dL_law_492 (by decide) (fun cy => ?_) (fun cy => absurd (by rw [hv]; exact lcmp_self _) cy)
  refine lv_goto (tgt := 2538) hx hb dL_law_497 (by decide) ?_
  refine W.widen (k := cells + 5) (n := slots + 30) (Nat.add_le_add_left (Nat.le_of_ble_eq_true rfl) _) (Nat.add_le_add_left (Nat.le_of_ble_eq_true rfl) _) ?_
  exact kk H locs ls Z (lv_sub hl [2, 3, 4, 5, 6] rfl)
set_option maxHeartbeats 4000000 in
set_option maxRecDepth 100000 in
theorem law_abort {n : Nat} {gc gm : Mem} {ov : Nat → Int64} {x1 : Int32} (X : gC p s m args meth c cL_law 7 (Cond.initialized RX6 :: wA0) RL ret G A) (hX : va_X b L xs s s.heap) (hbl : b < s.heap.size) (hbA : ¬ A b) (hb1 : vp_in (nI i + 1) L) (ha1 : xs (nI i + 1).toNatClampNeg = x1) {gc1 : Mem} {ov1 : Nat → Int64} {k : Nat} (hk4 : k < 4) (hw : cLw l yL_abort wmL_abort 8 134 2 12 G [.ref (G.1 160), .int x1, .ref (G.1 170)] (wC G gc ++ [oE G ov]) (wC G gc1 ++ [oE G ov1]) k) {q : Int32 × Mem} (hm : sX7_abort n gm x1 = some q) (hth : q.2 0 7 = nI k) (hv : k = 0 → ov1 (0 : Int32).toNatClampNeg = q.1.toInt64) (hcs : cells + 5 ≤ room_1.cells ∧ slots + 30 ≤ room_1.slots) (kk : ∀ (H : Heap) (locs : List Loc) (ls : Array Slot), LSt G (wLw G gc1 q.2 ov1) A s.heap H locs → lv_has ls 7 [(0, .ref b), (1, .ref (G.1 160)), (2, .ref ((shG G).1 0)), (3, .ref (G.1 170)), (4, .int (nI i))] → W p l e room_1 s m args below meth c H locs (cells + 5) (slots + 30) Q (F0 m 2538 ls [])) : ∀ (H : Heap) (locs : List Loc) (ls : Array Slot), LSt G (wLw G gc gm ov) A s.heap H locs → lv_has ls 7 [(0, .ref b), (1, .ref (G.1 160)), (2, .ref ((shG G).1 0)), (3, .ref (G.1 170)), (4, .int (nI i))] → W p l e room_1 s m args below meth c H locs cells slots Q (F0 m 500 ls []) := by
  have hx := X.1
  have hb := X.2.1
  intro H locs ls Z hl
  refine lv_aload_n hx hb dL_law_500 rfl (lv_at hl 1 rfl) ?_
  refine lv_aload_n hx hb dL_law_501 rfl (lv_at hl 0 rfl) ?_
  refine lv_iload hx hb dL_law_502 (lv_at hl 4 rfl) ?_
  refine lv_iconst (v := 1) hx hb dL_law_504 (by decide) ?_
  refine lv_iadd hx hb dL_law_505 ?_
  refine l_sld hx hb hX hbl hbA Z.2.2 hb1 ha1 dL_law_506 ?_
  refine lv_aload_n hx hb dL_law_507 rfl (lv_at hl 3 rfl) ?_
  rw [← wLw_w] at Z
  refine l_callW (n := 3) (As := [.ref (G.1 160), .int x1, .ref (G.1 170)]) (rest := []) (c1 := cells + 2) (s1 := slots + 12) X Z (adCo G gc _ ov _) hw (gooS mB1106 mB1107 mB1084 mB948) rfl (by decide +kernel) rfl ⟨Nat.le_of_ble_eq_true rfl, Nat.le_of_ble_eq_true rfl⟩ rfl rfl ⟨Nat.le_trans (Nat.add_le_add_left (Nat.le_of_ble_eq_true rfl) _) hcs.1, Nat.le_trans (Nat.add_le_add_left (Nat.le_of_ble_eq_true rfl) _) hcs.2⟩ hl.1 rfl (Nat.le_of_ble_eq_true rfl) dL_law_508 (fun H locs Z => ?_)
  rw [wLw_w] at Z
  refine lv_istore (lv' := [(5, .int (nI k)), (0, .ref b), (1, .ref (G.1 160)), (2, .ref ((shG G).1 0)), (3, .ref (G.1 170)), (4, .int (nI i))]) hx hb dL_law_511 hl (by decide) rfl (fun ls hl => ?_)
  refine lv_aload_n hx hb dL_law_513 rfl (lv_at hl 3 rfl) ?_
  refine lv_aload_n hx hb dL_law_514 rfl (lv_at hl 1 rfl) ?_
  refine lv_iload hx hb dL_law_515 (lv_at hl 5 rfl) ?_
  refine lv_iconst (v := 1) hx hb dL_law_517 (by decide) ?_
  refine lv_iadd hx hb dL_law_518 ?_
  refine l_sld hx hb hX hbl hbA Z.2.2 hb1 ha1 dL_law_519 ?_
  rw [← wLw_m] at Z
  refine l_callI (n := 1) (As := [.int x1]) (rest := []) sameM adM (sG_sh G) X Z (cX7_abort_c l hm) oX7 rfl (gooV mB1108 mB1109 mB1110 mB614 mB776) rfl (by decide +kernel) rfl ⟨Nat.le_of_ble_eq_true rfl, Nat.le_of_ble_eq_true rfl⟩ ⟨Nat.le_trans (Nat.add_le_add_left (Nat.le_of_ble_eq_true rfl) _) hcs.1, Nat.le_trans (Nat.add_le_add_left (Nat.le_of_ble_eq_true rfl) _) hcs.2⟩ hl.1 rfl (Nat.le_of_ble_eq_true rfl) dL_law_520 (fun w9 H locs Z => ?_)
  rw [wLw_m] at Z
  refine lv_istore (lv' := [(6, .int q.1), (5, .int (nI k)), (0, .ref b), (1, .ref (G.1 160)), (2, .ref ((shG G).1 0)), (3, .ref (G.1 170)), (4, .int (nI i))]) hx hb dL_law_523 hl (by decide) rfl (fun ls hl => ?_)
  refine lv_aload_n hx hb dL_law_525 rfl (lv_at hl 4 rfl) ?_
  rw [← wLw_m] at Z
  refine l_callI (n := 0) (As := []) (rest := []) sameM adM (sG_sh G) X Z (cX7_thrown_c l (show sX7_thrown _ = some _ from rfl)) oX7 rfl (gooV mB1088 mB1089 mB1090 mB614 mB607) rfl (by decide +kernel) rfl ⟨Nat.le_of_ble_eq_true rfl, Nat.le_of_ble_eq_true rfl⟩ ⟨Nat.le_trans (Nat.add_le_add_left (Nat.le_of_ble_eq_true rfl) _) hcs.1, Nat.le_trans (Nat.add_le_add_left (Nat.le_of_ble_eq_true rfl) _) hcs.2⟩ hl.1 rfl (Nat.le_of_ble_eq_true rfl) dL_law_526 (fun w9 H locs Z => ?_)
  rw [wLw_m] at Z
  refine lv_iload hx hb dL_law_529 (lv_at hl 1 rfl) ?_
  refine lv_icmp_eq (tgt := 536) hx hb dL_law_531 (by decide) (fun cz => ?_) (fun cz => absurd hth cz)
  refine lv_iload hx hb dL_law_536 (lv_at hl 1 rfl) ?_
  refine lv_if_ne (tgt := 553) hx hb dL_law_538 (by decide) (fun cz => ?_) (fun cz => ?_)
  · skip
    refine lv_goto (tgt := 2538) hx hb dL_law_553 (by decide) ?_
    refine W.widen (k := cells + 5) (n := slots + 30) (Nat.add_le_add_left (Nat.le_of_ble_eq_true rfl) _) (Nat.add_le_add_left (Nat.le_of_ble_eq_true rfl) _) ?_
    exact kk H locs ls Z (lv_sub hl [2, 3, 4, 5, 6] rfl)
  have hk0 : k = 0 := nI_inj0 hk4 cz
  have hv := hv hk0
  refine lv_aload_n hx hb dL_law_541 rfl (lv_at hl 5 rfl) ?_
  refine lv_iconst (v := 0) hx hb dL_law_542 (by decide) ?_
  refine l_lald X Z dL_law_543 ?_
  refine lv_iload hx hb dL_law_544 (lv_at hl 0 rfl) ?_
  refine lv_i2l hx hb dL_law_546 rfl ?_
  refine W.lcmp hx hb dL_law_547 ?_
  refine lv_if_eq (tgt := 553) hx hb dL_law_548 (by decide) (fun cy => ?_) (fun cy => absurd (by rw [hv]; exact lcmp_self _) cy)
  refine lv_goto (tgt := 2538) hx hb dL_law_553 (by decide) ?_
  refine W.widen (k := cells + 5) (n := slots + 30) (Nat.add_le_add_left (Nat.le_of_ble_eq_true rfl) _) (Nat.add_le_add_left (Nat.le_of_ble_eq_true rfl) _) ?_
  exact kk H locs ls Z (lv_sub hl [2, 3, 4, 5, 6] rfl)
set_option maxHeartbeats 4000000 in
set_option maxRecDepth 100000 in
theorem law_advance {n : Nat} {gc gm : Mem} {ov : Nat → Int64} {x1 : Int32} (X : gC p s m args meth c cL_law 7 (Cond.initialized RX6 :: wA0) RL ret G A) (hX : va_X b L xs s s.heap) (hbl : b < s.heap.size) (hbA : ¬ A b) (hb1 : vp_in (nI i + 1) L) (ha1 : xs (nI i + 1).toNatClampNeg = x1) {gc1 : Mem} {ov1 : Nat → Int64} {k : Nat} (hk4 : k < 4) (hw : cLw l yL_advance wmL_advance 8 134 2 12 G [.ref (G.1 160), .int x1, .ref (G.1 170)] (wC G gc ++ [oE G ov]) (wC G gc1 ++ [oE G ov1]) k) {q : Int32 × Mem} (hm : sX7_advance n gm x1 = some q) (hth : q.2 0 7 = nI k) (hv : k = 0 → ov1 (0 : Int32).toNatClampNeg = q.1.toInt64) (hcs : cells + 5 ≤ room_1.cells ∧ slots + 30 ≤ room_1.slots) (kk : ∀ (H : Heap) (locs : List Loc) (ls : Array Slot), LSt G (wLw G gc1 q.2 ov1) A s.heap H locs → lv_has ls 7 [(0, .ref b), (1, .ref (G.1 160)), (2, .ref ((shG G).1 0)), (3, .ref (G.1 170)), (4, .int (nI i))] → W p l e room_1 s m args below meth c H locs (cells + 5) (slots + 30) Q (F0 m 2538 ls [])) : ∀ (H : Heap) (locs : List Loc) (ls : Array Slot), LSt G (wLw G gc gm ov) A s.heap H locs → lv_has ls 7 [(0, .ref b), (1, .ref (G.1 160)), (2, .ref ((shG G).1 0)), (3, .ref (G.1 170)), (4, .int (nI i))] → W p l e room_1 s m args below meth c H locs cells slots Q (F0 m 556 ls []) := by
  have hx := X.1
  have hb := X.2.1
  intro H locs ls Z hl
  refine lv_aload_n hx hb dL_law_556 rfl (lv_at hl 1 rfl) ?_
  refine lv_aload_n hx hb dL_law_557 rfl (lv_at hl 0 rfl) ?_
  refine lv_iload hx hb dL_law_558 (lv_at hl 4 rfl) ?_
  refine lv_iconst (v := 1) hx hb dL_law_560 (by decide) ?_
  refine lv_iadd hx hb dL_law_561 ?_
  refine l_sld hx hb hX hbl hbA Z.2.2 hb1 ha1 dL_law_562 ?_
  refine lv_aload_n hx hb dL_law_563 rfl (lv_at hl 3 rfl) ?_
  rw [← wLw_w] at Z
  refine l_callW (n := 3) (As := [.ref (G.1 160), .int x1, .ref (G.1 170)]) (rest := []) (c1 := cells + 2) (s1 := slots + 12) X Z (adCo G gc _ ov _) hw (gooS mB1111 mB1112 mB1084 mB952) rfl (by decide +kernel) rfl ⟨Nat.le_of_ble_eq_true rfl, Nat.le_of_ble_eq_true rfl⟩ rfl rfl ⟨Nat.le_trans (Nat.add_le_add_left (Nat.le_of_ble_eq_true rfl) _) hcs.1, Nat.le_trans (Nat.add_le_add_left (Nat.le_of_ble_eq_true rfl) _) hcs.2⟩ hl.1 rfl (Nat.le_of_ble_eq_true rfl) dL_law_564 (fun H locs Z => ?_)
  rw [wLw_w] at Z
  refine lv_istore (lv' := [(5, .int (nI k)), (0, .ref b), (1, .ref (G.1 160)), (2, .ref ((shG G).1 0)), (3, .ref (G.1 170)), (4, .int (nI i))]) hx hb dL_law_567 hl (by decide) rfl (fun ls hl => ?_)
  refine lv_aload_n hx hb dL_law_569 rfl (lv_at hl 3 rfl) ?_
  refine lv_aload_n hx hb dL_law_570 rfl (lv_at hl 1 rfl) ?_
  refine lv_iload hx hb dL_law_571 (lv_at hl 5 rfl) ?_
  refine lv_iconst (v := 1) hx hb dL_law_573 (by decide) ?_
  refine lv_iadd hx hb dL_law_574 ?_
  refine l_sld hx hb hX hbl hbA Z.2.2 hb1 ha1 dL_law_575 ?_
  rw [← wLw_m] at Z
  refine l_callI (n := 1) (As := [.int x1]) (rest := []) sameM adM (sG_sh G) X Z (cX7_advance_c l hm) oX7 rfl (gooV mB1113 mB1114 mB1115 mB614 mB783) rfl (by decide +kernel) rfl ⟨Nat.le_of_ble_eq_true rfl, Nat.le_of_ble_eq_true rfl⟩ ⟨Nat.le_trans (Nat.add_le_add_left (Nat.le_of_ble_eq_true rfl) _) hcs.1, Nat.le_trans (Nat.add_le_add_left (Nat.le_of_ble_eq_true rfl) _) hcs.2⟩ hl.1 rfl (Nat.le_of_ble_eq_true rfl) dL_law_576 (fun w9 H locs Z => ?_)
  rw [wLw_m] at Z
  refine lv_istore (lv' := [(6, .int q.1), (5, .int (nI k)), (0, .ref b), (1, .ref (G.1 160)), (2, .ref ((shG G).1 0)), (3, .ref (G.1 170)), (4, .int (nI i))]) hx hb dL_law_579 hl (by decide) rfl (fun ls hl => ?_)
  refine lv_aload_n hx hb dL_law_581 rfl (lv_at hl 4 rfl) ?_
  rw [← wLw_m] at Z
  refine l_callI (n := 0) (As := []) (rest := []) sameM adM (sG_sh G) X Z (cX7_thrown_c l (show sX7_thrown _ = some _ from rfl)) oX7 rfl (gooV mB1088 mB1089 mB1090 mB614 mB607) rfl (by decide +kernel) rfl ⟨Nat.le_of_ble_eq_true rfl, Nat.le_of_ble_eq_true rfl⟩ ⟨Nat.le_trans (Nat.add_le_add_left (Nat.le_of_ble_eq_true rfl) _) hcs.1, Nat.le_trans (Nat.add_le_add_left (Nat.le_of_ble_eq_true rfl) _) hcs.2⟩ hl.1 rfl (Nat.le_of_ble_eq_true rfl) dL_law_582 (fun w9 H locs Z => ?_)
  rw [wLw_m] at Z
  refine lv_iload hx hb dL_law_585 (lv_at hl 1 rfl) ?_
  refine lv_icmp_eq (tgt := 592) hx hb dL_law_587 (by decide) (fun cz => ?_) (fun cz => absurd hth cz)
  refine lv_iload hx hb dL_law_592 (lv_at hl 1 rfl) ?_
  refine lv_if_ne (tgt := 609) hx hb dL_law_594 (by decide) (fun cz => ?_) (fun cz => ?_)
  · skip
    refine lv_goto (tgt := 2538) hx hb dL_law_609 (by decide) ?_
    refine W.widen (k := cells + 5) (n := slots + 30) (Nat.add_le_add_left (Nat.le_of_ble_eq_true rfl) _) (Nat.add_le_add_left (Nat.le_of_ble_eq_true rfl) _) ?_
    exact kk H locs ls Z (lv_sub hl [2, 3, 4, 5, 6] rfl)
  have hk0 : k = 0 := nI_inj0 hk4 cz
  have hv := hv hk0
  refine lv_aload_n hx hb dL_law_597 rfl (lv_at hl 5 rfl) ?_
  refine lv_iconst (v := 0) hx hb dL_law_598 (by decide) ?_
  refine l_lald X Z dL_law_599 ?_
  refine lv_iload hx hb dL_law_600 (lv_at hl 0 rfl) ?_
  refine lv_i2l hx hb dL_law_602 rfl ?_
  refine W.lcmp hx hb dL_law_603 ?_
  refine lv_if_eq (tgt := 609) hx hb dL_law_604 (by decide) (fun cy => ?_) (fun cy => absurd (by rw [hv]; exact lcmp_self _) cy)
  refine lv_goto (tgt := 2538) hx hb dL_law_609 (by decide) ?_
  refine W.widen (k := cells + 5) (n := slots + 30) (Nat.add_le_add_left (Nat.le_of_ble_eq_true rfl) _) (Nat.add_le_add_left (Nat.le_of_ble_eq_true rfl) _) ?_
  exact kk H locs ls Z (lv_sub hl [2, 3, 4, 5, 6] rfl)
set_option maxHeartbeats 4000000 in
set_option maxRecDepth 100000 in
theorem law_synchronize {n : Nat} {gc gm : Mem} {ov : Nat → Int64} {x1 : Int32} {x2 : Int32} (X : gC p s m args meth c cL_law 7 (Cond.initialized RX6 :: wA0) RL ret G A) (hX : va_X b L xs s s.heap) (hbl : b < s.heap.size) (hbA : ¬ A b) (hb1 : vp_in (nI i + 1) L) (ha1 : xs (nI i + 1).toNatClampNeg = x1) (hb2 : vp_in (nI i + 2) L) (ha2 : xs (nI i + 2).toNatClampNeg = x2) {gc1 : Mem} {ov1 : Nat → Int64} {k : Nat} (hk4 : k < 4) (hw : cLw l yL_synchronize wmL_synchronize 8 135 2 12 G [.ref (G.1 160), .int x1, .int x2, .ref (G.1 170)] (wC G gc ++ [oE G ov]) (wC G gc1 ++ [oE G ov1]) k) {q : Int32 × Mem} (hm : sX7_synchronize n gm x1 x2 = some q) (hth : q.2 0 7 = nI k) (hv : k = 0 → ov1 (0 : Int32).toNatClampNeg = q.1.toInt64) (hcs : cells + 5 ≤ room_1.cells ∧ slots + 30 ≤ room_1.slots) (kk : ∀ (H : Heap) (locs : List Loc) (ls : Array Slot), LSt G (wLw G gc1 q.2 ov1) A s.heap H locs → lv_has ls 7 [(0, .ref b), (1, .ref (G.1 160)), (2, .ref ((shG G).1 0)), (3, .ref (G.1 170)), (4, .int (nI i))] → W p l e room_1 s m args below meth c H locs (cells + 5) (slots + 30) Q (F0 m 2538 ls [])) : ∀ (H : Heap) (locs : List Loc) (ls : Array Slot), LSt G (wLw G gc gm ov) A s.heap H locs → lv_has ls 7 [(0, .ref b), (1, .ref (G.1 160)), (2, .ref ((shG G).1 0)), (3, .ref (G.1 170)), (4, .int (nI i))] → W p l e room_1 s m args below meth c H locs cells slots Q (F0 m 612 ls []) := by
  have hx := X.1
  have hb := X.2.1
  intro H locs ls Z hl
  refine lv_aload_n hx hb dL_law_612 rfl (lv_at hl 1 rfl) ?_
  refine lv_aload_n hx hb dL_law_613 rfl (lv_at hl 0 rfl) ?_
  refine lv_iload hx hb dL_law_614 (lv_at hl 4 rfl) ?_
  refine lv_iconst (v := 1) hx hb dL_law_616 (by decide) ?_
  refine lv_iadd hx hb dL_law_617 ?_
  refine l_sld hx hb hX hbl hbA Z.2.2 hb1 ha1 dL_law_618 ?_
  refine lv_aload_n hx hb dL_law_619 rfl (lv_at hl 0 rfl) ?_
  refine lv_iload hx hb dL_law_620 (lv_at hl 4 rfl) ?_
  refine lv_iconst (v := 2) hx hb dL_law_622 (by decide) ?_
  refine lv_iadd hx hb dL_law_623 ?_
  refine l_sld hx hb hX hbl hbA Z.2.2 hb2 ha2 dL_law_624 ?_
  refine lv_aload_n hx hb dL_law_625 rfl (lv_at hl 3 rfl) ?_
  rw [← wLw_w] at Z
  refine l_callW (n := 4) (As := [.ref (G.1 160), .int x1, .int x2, .ref (G.1 170)]) (rest := []) (c1 := cells + 2) (s1 := slots + 12) X Z (adCo G gc _ ov _) hw (gooS mB1116 mB1117 mB1084 mB956) rfl (by decide +kernel) rfl ⟨Nat.le_of_ble_eq_true rfl, Nat.le_of_ble_eq_true rfl⟩ rfl rfl ⟨Nat.le_trans (Nat.add_le_add_left (Nat.le_of_ble_eq_true rfl) _) hcs.1, Nat.le_trans (Nat.add_le_add_left (Nat.le_of_ble_eq_true rfl) _) hcs.2⟩ hl.1 rfl (Nat.le_of_ble_eq_true rfl) dL_law_626 (fun H locs Z => ?_)
  rw [wLw_w] at Z
  refine lv_istore (lv' := [(5, .int (nI k)), (0, .ref b), (1, .ref (G.1 160)), (2, .ref ((shG G).1 0)), (3, .ref (G.1 170)), (4, .int (nI i))]) hx hb dL_law_629 hl (by decide) rfl (fun ls hl => ?_)
  refine lv_aload_n hx hb dL_law_631 rfl (lv_at hl 3 rfl) ?_
  refine lv_aload_n hx hb dL_law_632 rfl (lv_at hl 1 rfl) ?_
  refine lv_iload hx hb dL_law_633 (lv_at hl 5 rfl) ?_
  refine lv_iconst (v := 1) hx hb dL_law_635 (by decide) ?_
  refine lv_iadd hx hb dL_law_636 ?_
  refine l_sld hx hb hX hbl hbA Z.2.2 hb1 ha1 dL_law_637 ?_
  refine lv_aload_n hx hb dL_law_638 rfl (lv_at hl 1 rfl) ?_
  refine lv_iload hx hb dL_law_639 (lv_at hl 5 rfl) ?_
  refine lv_iconst (v := 2) hx hb dL_law_641 (by decide) ?_
  refine lv_iadd hx hb dL_law_642 ?_
  refine l_sld hx hb hX hbl hbA Z.2.2 hb2 ha2 dL_law_643 ?_
  rw [← wLw_m] at Z
  refine l_callI (n := 2) (As := [.int x1, .int x2]) (rest := []) sameM adM (sG_sh G) X Z (cX7_synchronize_c l hm) oX7 rfl (gooV mB1118 mB1119 mB1120 mB614 mB790) rfl (by decide +kernel) rfl ⟨Nat.le_of_ble_eq_true rfl, Nat.le_of_ble_eq_true rfl⟩ ⟨Nat.le_trans (Nat.add_le_add_left (Nat.le_of_ble_eq_true rfl) _) hcs.1, Nat.le_trans (Nat.add_le_add_left (Nat.le_of_ble_eq_true rfl) _) hcs.2⟩ hl.1 rfl (Nat.le_of_ble_eq_true rfl) dL_law_644 (fun w9 H locs Z => ?_)
  rw [wLw_m] at Z
  refine lv_istore (lv' := [(6, .int q.1), (5, .int (nI k)), (0, .ref b), (1, .ref (G.1 160)), (2, .ref ((shG G).1 0)), (3, .ref (G.1 170)), (4, .int (nI i))]) hx hb dL_law_647 hl (by decide) rfl (fun ls hl => ?_)
  refine lv_aload_n hx hb dL_law_649 rfl (lv_at hl 4 rfl) ?_
  rw [← wLw_m] at Z
  refine l_callI (n := 0) (As := []) (rest := []) sameM adM (sG_sh G) X Z (cX7_thrown_c l (show sX7_thrown _ = some _ from rfl)) oX7 rfl (gooV mB1088 mB1089 mB1090 mB614 mB607) rfl (by decide +kernel) rfl ⟨Nat.le_of_ble_eq_true rfl, Nat.le_of_ble_eq_true rfl⟩ ⟨Nat.le_trans (Nat.add_le_add_left (Nat.le_of_ble_eq_true rfl) _) hcs.1, Nat.le_trans (Nat.add_le_add_left (Nat.le_of_ble_eq_true rfl) _) hcs.2⟩ hl.1 rfl (Nat.le_of_ble_eq_true rfl) dL_law_650 (fun w9 H locs Z => ?_)
  rw [wLw_m] at Z
  refine lv_iload hx hb dL_law_653 (lv_at hl 1 rfl) ?_
  refine lv_icmp_eq (tgt := 660) hx hb dL_law_655 (by decide) (fun cz => ?_) (fun cz => absurd hth cz)
  refine lv_iload hx hb dL_law_660 (lv_at hl 1 rfl) ?_
  refine lv_if_ne (tgt := 677) hx hb dL_law_662 (by decide) (fun cz => ?_) (fun cz => ?_)
  · skip
    refine lv_goto (tgt := 2538) hx hb dL_law_677 (by decide) ?_
    refine W.widen (k := cells + 5) (n := slots + 30) (Nat.add_le_add_left (Nat.le_of_ble_eq_true rfl) _) (Nat.add_le_add_left (Nat.le_of_ble_eq_true rfl) _) ?_
    exact kk H locs ls Z (lv_sub hl [2, 3, 4, 5, 6] rfl)
  have hk0 : k = 0 := nI_inj0 hk4 cz
  have hv := hv hk0
  refine lv_aload_n hx hb dL_law_665 rfl (lv_at hl 5 rfl) ?_
  refine lv_iconst (v := 0) hx hb dL_law_666 (by decide) ?_
  refine l_lald X Z dL_law_667 ?_
  refine lv_iload hx hb dL_law_668 (lv_at hl 0 rfl) ?_
  refine lv_i2l hx hb dL_law_670 rfl ?_
  refine W.lcmp hx hb dL_law_671 ?_
  refine lv_if_eq (tgt := 677) hx hb dL_law_672 (by decide) (fun cy => ?_) (fun cy => absurd (by rw [hv]; exact lcmp_self _) cy)
  refine lv_goto (tgt := 2538) hx hb dL_law_677 (by decide) ?_
  refine W.widen (k := cells + 5) (n := slots + 30) (Nat.add_le_add_left (Nat.le_of_ble_eq_true rfl) _) (Nat.add_le_add_left (Nat.le_of_ble_eq_true rfl) _) ?_
  exact kk H locs ls Z (lv_sub hl [2, 3, 4, 5, 6] rfl)
set_option maxHeartbeats 4000000 in
set_option maxRecDepth 100000 in
theorem law_setDrift {n : Nat} {gc gm : Mem} {ov : Nat → Int64} {x1 : Int32} {x2 : Int32} (X : gC p s m args meth c cL_law 7 (Cond.initialized RX6 :: wA0) RL ret G A) (hX : va_X b L xs s s.heap) (hbl : b < s.heap.size) (hbA : ¬ A b) (hb1 : vp_in (nI i + 1) L) (ha1 : xs (nI i + 1).toNatClampNeg = x1) (hb2 : vp_in (nI i + 2) L) (ha2 : xs (nI i + 2).toNatClampNeg = x2) {gc1 : Mem} {ov1 : Nat → Int64} {k : Nat} (hk4 : k < 4) (hw : cLw l yL_setDrift wmL_setDrift 8 135 2 12 G [.ref (G.1 160), .int x1, .int x2, .ref (G.1 170)] (wC G gc ++ [oE G ov]) (wC G gc1 ++ [oE G ov1]) k) {q : Int32 × Mem} (hm : sX7_setDrift n gm x1 x2 = some q) (hth : q.2 0 7 = nI k) (hv : k = 0 → ov1 (0 : Int32).toNatClampNeg = q.1.toInt64) (hcs : cells + 5 ≤ room_1.cells ∧ slots + 30 ≤ room_1.slots) (kk : ∀ (H : Heap) (locs : List Loc) (ls : Array Slot), LSt G (wLw G gc1 q.2 ov1) A s.heap H locs → lv_has ls 7 [(0, .ref b), (1, .ref (G.1 160)), (2, .ref ((shG G).1 0)), (3, .ref (G.1 170)), (4, .int (nI i))] → W p l e room_1 s m args below meth c H locs (cells + 5) (slots + 30) Q (F0 m 2538 ls [])) : ∀ (H : Heap) (locs : List Loc) (ls : Array Slot), LSt G (wLw G gc gm ov) A s.heap H locs → lv_has ls 7 [(0, .ref b), (1, .ref (G.1 160)), (2, .ref ((shG G).1 0)), (3, .ref (G.1 170)), (4, .int (nI i))] → W p l e room_1 s m args below meth c H locs cells slots Q (F0 m 680 ls []) := by
  have hx := X.1
  have hb := X.2.1
  intro H locs ls Z hl
  refine lv_aload_n hx hb dL_law_680 rfl (lv_at hl 1 rfl) ?_
  refine lv_aload_n hx hb dL_law_681 rfl (lv_at hl 0 rfl) ?_
  refine lv_iload hx hb dL_law_682 (lv_at hl 4 rfl) ?_
  refine lv_iconst (v := 1) hx hb dL_law_684 (by decide) ?_
  refine lv_iadd hx hb dL_law_685 ?_
  refine l_sld hx hb hX hbl hbA Z.2.2 hb1 ha1 dL_law_686 ?_
  refine lv_aload_n hx hb dL_law_687 rfl (lv_at hl 0 rfl) ?_
  refine lv_iload hx hb dL_law_688 (lv_at hl 4 rfl) ?_
  refine lv_iconst (v := 2) hx hb dL_law_690 (by decide) ?_
  refine lv_iadd hx hb dL_law_691 ?_
  refine l_sld hx hb hX hbl hbA Z.2.2 hb2 ha2 dL_law_692 ?_
  refine lv_aload_n hx hb dL_law_693 rfl (lv_at hl 3 rfl) ?_
  rw [← wLw_w] at Z
  refine l_callW (n := 4) (As := [.ref (G.1 160), .int x1, .int x2, .ref (G.1 170)]) (rest := []) (c1 := cells + 2) (s1 := slots + 12) X Z (adCo G gc _ ov _) hw (gooS mB1121 mB1122 mB1084 mB960) rfl (by decide +kernel) rfl ⟨Nat.le_of_ble_eq_true rfl, Nat.le_of_ble_eq_true rfl⟩ rfl rfl ⟨Nat.le_trans (Nat.add_le_add_left (Nat.le_of_ble_eq_true rfl) _) hcs.1, Nat.le_trans (Nat.add_le_add_left (Nat.le_of_ble_eq_true rfl) _) hcs.2⟩ hl.1 rfl (Nat.le_of_ble_eq_true rfl) dL_law_694 (fun H locs Z => ?_)
  rw [wLw_w] at Z
  refine lv_istore (lv' := [(5, .int (nI k)), (0, .ref b), (1, .ref (G.1 160)), (2, .ref ((shG G).1 0)), (3, .ref (G.1 170)), (4, .int (nI i))]) hx hb dL_law_697 hl (by decide) rfl (fun ls hl => ?_)
  refine lv_aload_n hx hb dL_law_699 rfl (lv_at hl 3 rfl) ?_
  refine lv_aload_n hx hb dL_law_700 rfl (lv_at hl 1 rfl) ?_
  refine lv_iload hx hb dL_law_701 (lv_at hl 5 rfl) ?_
  refine lv_iconst (v := 1) hx hb dL_law_703 (by decide) ?_
  refine lv_iadd hx hb dL_law_704 ?_
  refine l_sld hx hb hX hbl hbA Z.2.2 hb1 ha1 dL_law_705 ?_
  refine lv_aload_n hx hb dL_law_706 rfl (lv_at hl 1 rfl) ?_
  refine lv_iload hx hb dL_law_707 (lv_at hl 5 rfl) ?_
  refine lv_iconst (v := 2) hx hb dL_law_709 (by decide) ?_
  refine lv_iadd hx hb dL_law_710 ?_
  refine l_sld hx hb hX hbl hbA Z.2.2 hb2 ha2 dL_law_711 ?_
  rw [← wLw_m] at Z
  refine l_callI (n := 2) (As := [.int x1, .int x2]) (rest := []) sameM adM (sG_sh G) X Z (cX7_setDrift_c l hm) oX7 rfl (gooV mB1123 mB1124 mB1125 mB614 mB791) rfl (by decide +kernel) rfl ⟨Nat.le_of_ble_eq_true rfl, Nat.le_of_ble_eq_true rfl⟩ ⟨Nat.le_trans (Nat.add_le_add_left (Nat.le_of_ble_eq_true rfl) _) hcs.1, Nat.le_trans (Nat.add_le_add_left (Nat.le_of_ble_eq_true rfl) _) hcs.2⟩ hl.1 rfl (Nat.le_of_ble_eq_true rfl) dL_law_712 (fun w9 H locs Z => ?_)
  rw [wLw_m] at Z
  refine lv_istore (lv' := [(6, .int q.1), (5, .int (nI k)), (0, .ref b), (1, .ref (G.1 160)), (2, .ref ((shG G).1 0)), (3, .ref (G.1 170)), (4, .int (nI i))]) hx hb dL_law_715 hl (by decide) rfl (fun ls hl => ?_)
  refine lv_aload_n hx hb dL_law_717 rfl (lv_at hl 4 rfl) ?_
  rw [← wLw_m] at Z
  refine l_callI (n := 0) (As := []) (rest := []) sameM adM (sG_sh G) X Z (cX7_thrown_c l (show sX7_thrown _ = some _ from rfl)) oX7 rfl (gooV mB1088 mB1089 mB1090 mB614 mB607) rfl (by decide +kernel) rfl ⟨Nat.le_of_ble_eq_true rfl, Nat.le_of_ble_eq_true rfl⟩ ⟨Nat.le_trans (Nat.add_le_add_left (Nat.le_of_ble_eq_true rfl) _) hcs.1, Nat.le_trans (Nat.add_le_add_left (Nat.le_of_ble_eq_true rfl) _) hcs.2⟩ hl.1 rfl (Nat.le_of_ble_eq_true rfl) dL_law_718 (fun w9 H locs Z => ?_)
  rw [wLw_m] at Z
  refine lv_iload hx hb dL_law_721 (lv_at hl 1 rfl) ?_
  refine lv_icmp_eq (tgt := 728) hx hb dL_law_723 (by decide) (fun cz => ?_) (fun cz => absurd hth cz)
  refine lv_iload hx hb dL_law_728 (lv_at hl 1 rfl) ?_
  refine lv_if_ne (tgt := 745) hx hb dL_law_730 (by decide) (fun cz => ?_) (fun cz => ?_)
  · skip
    refine lv_goto (tgt := 2538) hx hb dL_law_745 (by decide) ?_
    refine W.widen (k := cells + 5) (n := slots + 30) (Nat.add_le_add_left (Nat.le_of_ble_eq_true rfl) _) (Nat.add_le_add_left (Nat.le_of_ble_eq_true rfl) _) ?_
    exact kk H locs ls Z (lv_sub hl [2, 3, 4, 5, 6] rfl)
  have hk0 : k = 0 := nI_inj0 hk4 cz
  have hv := hv hk0
  refine lv_aload_n hx hb dL_law_733 rfl (lv_at hl 5 rfl) ?_
  refine lv_iconst (v := 0) hx hb dL_law_734 (by decide) ?_
  refine l_lald X Z dL_law_735 ?_
  refine lv_iload hx hb dL_law_736 (lv_at hl 0 rfl) ?_
  refine lv_i2l hx hb dL_law_738 rfl ?_
  refine W.lcmp hx hb dL_law_739 ?_
  refine lv_if_eq (tgt := 745) hx hb dL_law_740 (by decide) (fun cy => ?_) (fun cy => absurd (by rw [hv]; exact lcmp_self _) cy)
  refine lv_goto (tgt := 2538) hx hb dL_law_745 (by decide) ?_
  refine W.widen (k := cells + 5) (n := slots + 30) (Nat.add_le_add_left (Nat.le_of_ble_eq_true rfl) _) (Nat.add_le_add_left (Nat.le_of_ble_eq_true rfl) _) ?_
  exact kk H locs ls Z (lv_sub hl [2, 3, 4, 5, 6] rfl)
set_option maxHeartbeats 4000000 in
set_option maxRecDepth 100000 in
theorem law_setUncertainty {n : Nat} {gc gm : Mem} {ov : Nat → Int64} {x1 : Int32} {x2 : Int32} {x3 : Int32} (X : gC p s m args meth c cL_law 7 (Cond.initialized RX6 :: wA0) RL ret G A) (hX : va_X b L xs s s.heap) (hbl : b < s.heap.size) (hbA : ¬ A b) (hb1 : vp_in (nI i + 1) L) (ha1 : xs (nI i + 1).toNatClampNeg = x1) (hb2 : vp_in (nI i + 2) L) (ha2 : xs (nI i + 2).toNatClampNeg = x2) (hb3 : vp_in (nI i + 3) L) (ha3 : xs (nI i + 3).toNatClampNeg = x3) {gc1 : Mem} {ov1 : Nat → Int64} {k : Nat} (hk4 : k < 4) (hw : cLw l yL_setUncertainty wmL_setUncertainty 8 136 3 18 G [.ref (G.1 160), .int x1, .int x2, .int x3, .ref (G.1 170)] (wC G gc ++ [oE G ov]) (wC G gc1 ++ [oE G ov1]) k) {q : Int32 × Mem} (hm : sX7_setUncertainty n gm x1 x2 x3 = some q) (hth : q.2 0 7 = nI k) (hv : k = 0 → ov1 (0 : Int32).toNatClampNeg = q.1.toInt64) (hcs : cells + 5 ≤ room_1.cells ∧ slots + 30 ≤ room_1.slots) (kk : ∀ (H : Heap) (locs : List Loc) (ls : Array Slot), LSt G (wLw G gc1 q.2 ov1) A s.heap H locs → lv_has ls 7 [(0, .ref b), (1, .ref (G.1 160)), (2, .ref ((shG G).1 0)), (3, .ref (G.1 170)), (4, .int (nI i))] → W p l e room_1 s m args below meth c H locs (cells + 5) (slots + 30) Q (F0 m 2538 ls [])) : ∀ (H : Heap) (locs : List Loc) (ls : Array Slot), LSt G (wLw G gc gm ov) A s.heap H locs → lv_has ls 7 [(0, .ref b), (1, .ref (G.1 160)), (2, .ref ((shG G).1 0)), (3, .ref (G.1 170)), (4, .int (nI i))] → W p l e room_1 s m args below meth c H locs cells slots Q (F0 m 748 ls []) := by
  have hx := X.1
  have hb := X.2.1
  intro H locs ls Z hl
  refine lv_aload_n hx hb dL_law_748 rfl (lv_at hl 1 rfl) ?_
  refine lv_aload_n hx hb dL_law_749 rfl (lv_at hl 0 rfl) ?_
  refine lv_iload hx hb dL_law_750 (lv_at hl 4 rfl) ?_
  refine lv_iconst (v := 1) hx hb dL_law_752 (by decide) ?_
  refine lv_iadd hx hb dL_law_753 ?_
  refine l_sld hx hb hX hbl hbA Z.2.2 hb1 ha1 dL_law_754 ?_
  refine lv_aload_n hx hb dL_law_755 rfl (lv_at hl 0 rfl) ?_
  refine lv_iload hx hb dL_law_756 (lv_at hl 4 rfl) ?_
  refine lv_iconst (v := 2) hx hb dL_law_758 (by decide) ?_
  refine lv_iadd hx hb dL_law_759 ?_
  refine l_sld hx hb hX hbl hbA Z.2.2 hb2 ha2 dL_law_760 ?_
  refine lv_aload_n hx hb dL_law_761 rfl (lv_at hl 0 rfl) ?_
  refine lv_iload hx hb dL_law_762 (lv_at hl 4 rfl) ?_
  refine lv_iconst (v := 3) hx hb dL_law_764 (by decide) ?_
  refine lv_iadd hx hb dL_law_765 ?_
  refine l_sld hx hb hX hbl hbA Z.2.2 hb3 ha3 dL_law_766 ?_
  refine lv_aload_n hx hb dL_law_767 rfl (lv_at hl 3 rfl) ?_
  rw [← wLw_w] at Z
  refine l_callW (n := 5) (As := [.ref (G.1 160), .int x1, .int x2, .int x3, .ref (G.1 170)]) (rest := []) (c1 := cells + 3) (s1 := slots + 18) X Z (adCo G gc _ ov _) hw (gooS mB1126 mB1127 mB1084 mB964) rfl (by decide +kernel) rfl ⟨Nat.le_of_ble_eq_true rfl, Nat.le_of_ble_eq_true rfl⟩ rfl rfl ⟨Nat.le_trans (Nat.add_le_add_left (Nat.le_of_ble_eq_true rfl) _) hcs.1, Nat.le_trans (Nat.add_le_add_left (Nat.le_of_ble_eq_true rfl) _) hcs.2⟩ hl.1 rfl (Nat.le_of_ble_eq_true rfl) dL_law_768 (fun H locs Z => ?_)
  rw [wLw_w] at Z
  refine lv_istore (lv' := [(5, .int (nI k)), (0, .ref b), (1, .ref (G.1 160)), (2, .ref ((shG G).1 0)), (3, .ref (G.1 170)), (4, .int (nI i))]) hx hb dL_law_771 hl (by decide) rfl (fun ls hl => ?_)
  refine lv_aload_n hx hb dL_law_773 rfl (lv_at hl 3 rfl) ?_
  refine lv_aload_n hx hb dL_law_774 rfl (lv_at hl 1 rfl) ?_
  refine lv_iload hx hb dL_law_775 (lv_at hl 5 rfl) ?_
  refine lv_iconst (v := 1) hx hb dL_law_777 (by decide) ?_
  refine lv_iadd hx hb dL_law_778 ?_
  refine l_sld hx hb hX hbl hbA Z.2.2 hb1 ha1 dL_law_779 ?_
  refine lv_aload_n hx hb dL_law_780 rfl (lv_at hl 1 rfl) ?_
  refine lv_iload hx hb dL_law_781 (lv_at hl 5 rfl) ?_
  refine lv_iconst (v := 2) hx hb dL_law_783 (by decide) ?_
  refine lv_iadd hx hb dL_law_784 ?_
  refine l_sld hx hb hX hbl hbA Z.2.2 hb2 ha2 dL_law_785 ?_
  refine lv_aload_n hx hb dL_law_786 rfl (lv_at hl 1 rfl) ?_
  refine lv_iload hx hb dL_law_787 (lv_at hl 5 rfl) ?_
  refine lv_iconst (v := 3) hx hb dL_law_789 (by decide) ?_
  refine lv_iadd hx hb dL_law_790 ?_
  refine l_sld hx hb hX hbl hbA Z.2.2 hb3 ha3 dL_law_791 ?_
  rw [← wLw_m] at Z
  refine l_callI (n := 3) (As := [.int x1, .int x2, .int x3]) (rest := []) sameM adM (sG_sh G) X Z (cX7_setUncertainty_c l hm) oX7 rfl (gooV mB1128 mB1129 mB1130 mB614 mB792) rfl (by decide +kernel) rfl ⟨Nat.le_of_ble_eq_true rfl, Nat.le_of_ble_eq_true rfl⟩ ⟨Nat.le_trans (Nat.add_le_add_left (Nat.le_of_ble_eq_true rfl) _) hcs.1, Nat.le_trans (Nat.add_le_add_left (Nat.le_of_ble_eq_true rfl) _) hcs.2⟩ hl.1 rfl (Nat.le_of_ble_eq_true rfl) dL_law_792 (fun w9 H locs Z => ?_)
  rw [wLw_m] at Z
  refine lv_istore (lv' := [(6, .int q.1), (5, .int (nI k)), (0, .ref b), (1, .ref (G.1 160)), (2, .ref ((shG G).1 0)), (3, .ref (G.1 170)), (4, .int (nI i))]) hx hb dL_law_795 hl (by decide) rfl (fun ls hl => ?_)
  refine lv_aload_n hx hb dL_law_797 rfl (lv_at hl 4 rfl) ?_
  rw [← wLw_m] at Z
  refine l_callI (n := 0) (As := []) (rest := []) sameM adM (sG_sh G) X Z (cX7_thrown_c l (show sX7_thrown _ = some _ from rfl)) oX7 rfl (gooV mB1088 mB1089 mB1090 mB614 mB607) rfl (by decide +kernel) rfl ⟨Nat.le_of_ble_eq_true rfl, Nat.le_of_ble_eq_true rfl⟩ ⟨Nat.le_trans (Nat.add_le_add_left (Nat.le_of_ble_eq_true rfl) _) hcs.1, Nat.le_trans (Nat.add_le_add_left (Nat.le_of_ble_eq_true rfl) _) hcs.2⟩ hl.1 rfl (Nat.le_of_ble_eq_true rfl) dL_law_798 (fun w9 H locs Z => ?_)
  rw [wLw_m] at Z
  refine lv_iload hx hb dL_law_801 (lv_at hl 1 rfl) ?_
  refine lv_icmp_eq (tgt := 808) hx hb dL_law_803 (by decide) (fun cz => ?_) (fun cz => absurd hth cz)
  refine lv_iload hx hb dL_law_808 (lv_at hl 1 rfl) ?_
  refine lv_if_ne (tgt := 825) hx hb dL_law_810 (by decide) (fun cz => ?_) (fun cz => ?_)
  · skip
    refine lv_goto (tgt := 2538) hx hb dL_law_825 (by decide) ?_
    refine W.widen (k := cells + 5) (n := slots + 30) (Nat.add_le_add_left (Nat.le_of_ble_eq_true rfl) _) (Nat.add_le_add_left (Nat.le_of_ble_eq_true rfl) _) ?_
    exact kk H locs ls Z (lv_sub hl [2, 3, 4, 5, 6] rfl)
  have hk0 : k = 0 := nI_inj0 hk4 cz
  have hv := hv hk0
  refine lv_aload_n hx hb dL_law_813 rfl (lv_at hl 5 rfl) ?_
  refine lv_iconst (v := 0) hx hb dL_law_814 (by decide) ?_
  refine l_lald X Z dL_law_815 ?_
  refine lv_iload hx hb dL_law_816 (lv_at hl 0 rfl) ?_
  refine lv_i2l hx hb dL_law_818 rfl ?_
  refine W.lcmp hx hb dL_law_819 ?_
  refine lv_if_eq (tgt := 825) hx hb dL_law_820 (by decide) (fun cy => ?_) (fun cy => absurd (by rw [hv]; exact lcmp_self _) cy)
  refine lv_goto (tgt := 2538) hx hb dL_law_825 (by decide) ?_
  refine W.widen (k := cells + 5) (n := slots + 30) (Nat.add_le_add_left (Nat.le_of_ble_eq_true rfl) _) (Nat.add_le_add_left (Nat.le_of_ble_eq_true rfl) _) ?_
  exact kk H locs ls Z (lv_sub hl [2, 3, 4, 5, 6] rfl)
set_option maxHeartbeats 4000000 in
set_option maxRecDepth 100000 in
theorem law_snapshotRead {n : Nat} {gc gm : Mem} {ov : Nat → Int64} {x1 : Int32} {x2 : Int32} (X : gC p s m args meth c cL_law 7 (Cond.initialized RX6 :: wA0) RL ret G A) (hX : va_X b L xs s s.heap) (hbl : b < s.heap.size) (hbA : ¬ A b) (hb1 : vp_in (nI i + 1) L) (ha1 : xs (nI i + 1).toNatClampNeg = x1) (hb2 : vp_in (nI i + 2) L) (ha2 : xs (nI i + 2).toNatClampNeg = x2) {gc1 : Mem} {ov1 : Nat → Int64} {k : Nat} (hk4 : k < 4) (hw : cLw l yL_snapshotRead wmL_snapshotRead 8 135 3 18 G [.ref (G.1 160), .int x1, .int x2, .ref (G.1 170)] (wC G gc ++ [oE G ov]) (wC G gc1 ++ [oE G ov1]) k) {q : Int32 × Mem} (hm : sX7_snapshotRead n gm x1 x2 = some q) (hth : q.2 0 7 = nI k) (hv : k = 0 → ov1 (0 : Int32).toNatClampNeg = q.1.toInt64) (hcs : cells + 5 ≤ room_1.cells ∧ slots + 30 ≤ room_1.slots) (kk : ∀ (H : Heap) (locs : List Loc) (ls : Array Slot), LSt G (wLw G gc1 q.2 ov1) A s.heap H locs → lv_has ls 7 [(0, .ref b), (1, .ref (G.1 160)), (2, .ref ((shG G).1 0)), (3, .ref (G.1 170)), (4, .int (nI i))] → W p l e room_1 s m args below meth c H locs (cells + 5) (slots + 30) Q (F0 m 2538 ls [])) : ∀ (H : Heap) (locs : List Loc) (ls : Array Slot), LSt G (wLw G gc gm ov) A s.heap H locs → lv_has ls 7 [(0, .ref b), (1, .ref (G.1 160)), (2, .ref ((shG G).1 0)), (3, .ref (G.1 170)), (4, .int (nI i))] → W p l e room_1 s m args below meth c H locs cells slots Q (F0 m 828 ls []) := by
  have hx := X.1
  have hb := X.2.1
  intro H locs ls Z hl
  refine lv_aload_n hx hb dL_law_828 rfl (lv_at hl 1 rfl) ?_
  refine lv_aload_n hx hb dL_law_829 rfl (lv_at hl 0 rfl) ?_
  refine lv_iload hx hb dL_law_830 (lv_at hl 4 rfl) ?_
  refine lv_iconst (v := 1) hx hb dL_law_832 (by decide) ?_
  refine lv_iadd hx hb dL_law_833 ?_
  refine l_sld hx hb hX hbl hbA Z.2.2 hb1 ha1 dL_law_834 ?_
  refine lv_aload_n hx hb dL_law_835 rfl (lv_at hl 0 rfl) ?_
  refine lv_iload hx hb dL_law_836 (lv_at hl 4 rfl) ?_
  refine lv_iconst (v := 2) hx hb dL_law_838 (by decide) ?_
  refine lv_iadd hx hb dL_law_839 ?_
  refine l_sld hx hb hX hbl hbA Z.2.2 hb2 ha2 dL_law_840 ?_
  refine lv_aload_n hx hb dL_law_841 rfl (lv_at hl 3 rfl) ?_
  rw [← wLw_w] at Z
  refine l_callW (n := 4) (As := [.ref (G.1 160), .int x1, .int x2, .ref (G.1 170)]) (rest := []) (c1 := cells + 3) (s1 := slots + 18) X Z (adCo G gc _ ov _) hw (gooS mB1131 mB1132 mB1084 mB968) rfl (by decide +kernel) rfl ⟨Nat.le_of_ble_eq_true rfl, Nat.le_of_ble_eq_true rfl⟩ rfl rfl ⟨Nat.le_trans (Nat.add_le_add_left (Nat.le_of_ble_eq_true rfl) _) hcs.1, Nat.le_trans (Nat.add_le_add_left (Nat.le_of_ble_eq_true rfl) _) hcs.2⟩ hl.1 rfl (Nat.le_of_ble_eq_true rfl) dL_law_842 (fun H locs Z => ?_)
  rw [wLw_w] at Z
  refine lv_istore (lv' := [(5, .int (nI k)), (0, .ref b), (1, .ref (G.1 160)), (2, .ref ((shG G).1 0)), (3, .ref (G.1 170)), (4, .int (nI i))]) hx hb dL_law_845 hl (by decide) rfl (fun ls hl => ?_)
  refine lv_aload_n hx hb dL_law_847 rfl (lv_at hl 3 rfl) ?_
  refine lv_aload_n hx hb dL_law_848 rfl (lv_at hl 1 rfl) ?_
  refine lv_iload hx hb dL_law_849 (lv_at hl 5 rfl) ?_
  refine lv_iconst (v := 1) hx hb dL_law_851 (by decide) ?_
  refine lv_iadd hx hb dL_law_852 ?_
  refine l_sld hx hb hX hbl hbA Z.2.2 hb1 ha1 dL_law_853 ?_
  refine lv_aload_n hx hb dL_law_854 rfl (lv_at hl 1 rfl) ?_
  refine lv_iload hx hb dL_law_855 (lv_at hl 5 rfl) ?_
  refine lv_iconst (v := 2) hx hb dL_law_857 (by decide) ?_
  refine lv_iadd hx hb dL_law_858 ?_
  refine l_sld hx hb hX hbl hbA Z.2.2 hb2 ha2 dL_law_859 ?_
  rw [← wLw_m] at Z
  refine l_callI (n := 2) (As := [.int x1, .int x2]) (rest := []) sameM adM (sG_sh G) X Z (cX7_snapshotRead_c l hm) oX7 rfl (gooV mB1133 mB1134 mB1135 mB614 mB801) rfl (by decide +kernel) rfl ⟨Nat.le_of_ble_eq_true rfl, Nat.le_of_ble_eq_true rfl⟩ ⟨Nat.le_trans (Nat.add_le_add_left (Nat.le_of_ble_eq_true rfl) _) hcs.1, Nat.le_trans (Nat.add_le_add_left (Nat.le_of_ble_eq_true rfl) _) hcs.2⟩ hl.1 rfl (Nat.le_of_ble_eq_true rfl) dL_law_860 (fun w9 H locs Z => ?_)
  rw [wLw_m] at Z
  refine lv_istore (lv' := [(6, .int q.1), (5, .int (nI k)), (0, .ref b), (1, .ref (G.1 160)), (2, .ref ((shG G).1 0)), (3, .ref (G.1 170)), (4, .int (nI i))]) hx hb dL_law_863 hl (by decide) rfl (fun ls hl => ?_)
  refine lv_aload_n hx hb dL_law_865 rfl (lv_at hl 4 rfl) ?_
  rw [← wLw_m] at Z
  refine l_callI (n := 0) (As := []) (rest := []) sameM adM (sG_sh G) X Z (cX7_thrown_c l (show sX7_thrown _ = some _ from rfl)) oX7 rfl (gooV mB1088 mB1089 mB1090 mB614 mB607) rfl (by decide +kernel) rfl ⟨Nat.le_of_ble_eq_true rfl, Nat.le_of_ble_eq_true rfl⟩ ⟨Nat.le_trans (Nat.add_le_add_left (Nat.le_of_ble_eq_true rfl) _) hcs.1, Nat.le_trans (Nat.add_le_add_left (Nat.le_of_ble_eq_true rfl) _) hcs.2⟩ hl.1 rfl (Nat.le_of_ble_eq_true rfl) dL_law_866 (fun w9 H locs Z => ?_)
  rw [wLw_m] at Z
  refine lv_iload hx hb dL_law_869 (lv_at hl 1 rfl) ?_
  refine lv_icmp_eq (tgt := 876) hx hb dL_law_871 (by decide) (fun cz => ?_) (fun cz => absurd hth cz)
  refine lv_iload hx hb dL_law_876 (lv_at hl 1 rfl) ?_
  refine lv_if_ne (tgt := 893) hx hb dL_law_878 (by decide) (fun cz => ?_) (fun cz => ?_)
  · skip
    refine lv_goto (tgt := 2538) hx hb dL_law_893 (by decide) ?_
    refine W.widen (k := cells + 5) (n := slots + 30) (Nat.add_le_add_left (Nat.le_of_ble_eq_true rfl) _) (Nat.add_le_add_left (Nat.le_of_ble_eq_true rfl) _) ?_
    exact kk H locs ls Z (lv_sub hl [2, 3, 4, 5, 6] rfl)
  have hk0 : k = 0 := nI_inj0 hk4 cz
  have hv := hv hk0
  refine lv_aload_n hx hb dL_law_881 rfl (lv_at hl 5 rfl) ?_
  refine lv_iconst (v := 0) hx hb dL_law_882 (by decide) ?_
  refine l_lald X Z dL_law_883 ?_
  refine lv_iload hx hb dL_law_884 (lv_at hl 0 rfl) ?_
  refine lv_i2l hx hb dL_law_886 rfl ?_
  refine W.lcmp hx hb dL_law_887 ?_
  refine lv_if_eq (tgt := 893) hx hb dL_law_888 (by decide) (fun cy => ?_) (fun cy => absurd (by rw [hv]; exact lcmp_self _) cy)
  refine lv_goto (tgt := 2538) hx hb dL_law_893 (by decide) ?_
  refine W.widen (k := cells + 5) (n := slots + 30) (Nat.add_le_add_left (Nat.le_of_ble_eq_true rfl) _) (Nat.add_le_add_left (Nat.le_of_ble_eq_true rfl) _) ?_
  exact kk H locs ls Z (lv_sub hl [2, 3, 4, 5, 6] rfl)
set_option maxHeartbeats 4000000 in
set_option maxRecDepth 100000 in
theorem law_appendText {gc gm : Mem} {ov : Nat → Int64} {x1 : Int32} (X : gC p s m args meth c cL_law 7 (Cond.initialized RX6 :: wA0) RL ret G A) (hX : va_X b L xs s s.heap) (hbl : b < s.heap.size) (hbA : ¬ A b) (hb1 : vp_in (nI i + 1) L) (ha1 : xs (nI i + 1).toNatClampNeg = x1) {gc1 : Mem} {ov1 : Nat → Int64} {k : Nat} (hk4 : k < 4) (hw : cLw l yL_appendText wmL_appendText 8 134 2 12 G [.ref (G.1 160), .int x1, .ref (G.1 170)] (wC G gc ++ [oE G ov]) (wC G gc1 ++ [oE G ov1]) k) {q : Int32 × Mem} (hm : sX7_appendText gm x1 = some q) (hth : q.2 0 7 = nI k) (hv : k = 0 → ov1 (0 : Int32).toNatClampNeg = q.1.toInt64) (hcs : cells + 5 ≤ room_1.cells ∧ slots + 30 ≤ room_1.slots) (kk : ∀ (H : Heap) (locs : List Loc) (ls : Array Slot), LSt G (wLw G gc1 q.2 ov1) A s.heap H locs → lv_has ls 7 [(0, .ref b), (1, .ref (G.1 160)), (2, .ref ((shG G).1 0)), (3, .ref (G.1 170)), (4, .int (nI i))] → W p l e room_1 s m args below meth c H locs (cells + 5) (slots + 30) Q (F0 m 2538 ls [])) : ∀ (H : Heap) (locs : List Loc) (ls : Array Slot), LSt G (wLw G gc gm ov) A s.heap H locs → lv_has ls 7 [(0, .ref b), (1, .ref (G.1 160)), (2, .ref ((shG G).1 0)), (3, .ref (G.1 170)), (4, .int (nI i))] → W p l e room_1 s m args below meth c H locs cells slots Q (F0 m 896 ls []) := by
  have hx := X.1
  have hb := X.2.1
  intro H locs ls Z hl
  refine lv_aload_n hx hb dL_law_896 rfl (lv_at hl 1 rfl) ?_
  refine lv_aload_n hx hb dL_law_897 rfl (lv_at hl 0 rfl) ?_
  refine lv_iload hx hb dL_law_898 (lv_at hl 4 rfl) ?_
  refine lv_iconst (v := 1) hx hb dL_law_900 (by decide) ?_
  refine lv_iadd hx hb dL_law_901 ?_
  refine l_sld hx hb hX hbl hbA Z.2.2 hb1 ha1 dL_law_902 ?_
  refine lv_aload_n hx hb dL_law_903 rfl (lv_at hl 3 rfl) ?_
  rw [← wLw_w] at Z
  refine l_callW (n := 3) (As := [.ref (G.1 160), .int x1, .ref (G.1 170)]) (rest := []) (c1 := cells + 2) (s1 := slots + 12) X Z (adCo G gc _ ov _) hw (gooS mB1136 mB1137 mB1084 mB972) rfl (by decide +kernel) rfl ⟨Nat.le_of_ble_eq_true rfl, Nat.le_of_ble_eq_true rfl⟩ rfl rfl ⟨Nat.le_trans (Nat.add_le_add_left (Nat.le_of_ble_eq_true rfl) _) hcs.1, Nat.le_trans (Nat.add_le_add_left (Nat.le_of_ble_eq_true rfl) _) hcs.2⟩ hl.1 rfl (Nat.le_of_ble_eq_true rfl) dL_law_904 (fun H locs Z => ?_)
  rw [wLw_w] at Z
  refine lv_istore (lv' := [(5, .int (nI k)), (0, .ref b), (1, .ref (G.1 160)), (2, .ref ((shG G).1 0)), (3, .ref (G.1 170)), (4, .int (nI i))]) hx hb dL_law_907 hl (by decide) rfl (fun ls hl => ?_)
  refine lv_aload_n hx hb dL_law_909 rfl (lv_at hl 3 rfl) ?_
  refine lv_aload_n hx hb dL_law_910 rfl (lv_at hl 1 rfl) ?_
  refine lv_iload hx hb dL_law_911 (lv_at hl 5 rfl) ?_
  refine lv_iconst (v := 1) hx hb dL_law_913 (by decide) ?_
  refine lv_iadd hx hb dL_law_914 ?_
  refine l_sld hx hb hX hbl hbA Z.2.2 hb1 ha1 dL_law_915 ?_
  rw [← wLw_m] at Z
  refine l_callI (n := 1) (As := [.int x1]) (rest := []) sameM adM (sG_sh G) X Z (cX7_appendText_c l hm) oX7 rfl (gooV mB1138 mB1139 mB1140 mB614 mB802) rfl (by decide +kernel) rfl ⟨Nat.le_of_ble_eq_true rfl, Nat.le_of_ble_eq_true rfl⟩ ⟨Nat.le_trans (Nat.add_le_add_left (Nat.le_of_ble_eq_true rfl) _) hcs.1, Nat.le_trans (Nat.add_le_add_left (Nat.le_of_ble_eq_true rfl) _) hcs.2⟩ hl.1 rfl (Nat.le_of_ble_eq_true rfl) dL_law_916 (fun w9 H locs Z => ?_)
  rw [wLw_m] at Z
  refine lv_istore (lv' := [(6, .int q.1), (5, .int (nI k)), (0, .ref b), (1, .ref (G.1 160)), (2, .ref ((shG G).1 0)), (3, .ref (G.1 170)), (4, .int (nI i))]) hx hb dL_law_919 hl (by decide) rfl (fun ls hl => ?_)
  refine lv_aload_n hx hb dL_law_921 rfl (lv_at hl 4 rfl) ?_
  rw [← wLw_m] at Z
  refine l_callI (n := 0) (As := []) (rest := []) sameM adM (sG_sh G) X Z (cX7_thrown_c l (show sX7_thrown _ = some _ from rfl)) oX7 rfl (gooV mB1088 mB1089 mB1090 mB614 mB607) rfl (by decide +kernel) rfl ⟨Nat.le_of_ble_eq_true rfl, Nat.le_of_ble_eq_true rfl⟩ ⟨Nat.le_trans (Nat.add_le_add_left (Nat.le_of_ble_eq_true rfl) _) hcs.1, Nat.le_trans (Nat.add_le_add_left (Nat.le_of_ble_eq_true rfl) _) hcs.2⟩ hl.1 rfl (Nat.le_of_ble_eq_true rfl) dL_law_922 (fun w9 H locs Z => ?_)
  rw [wLw_m] at Z
  refine lv_iload hx hb dL_law_925 (lv_at hl 1 rfl) ?_
  refine lv_icmp_eq (tgt := 932) hx hb dL_law_927 (by decide) (fun cz => ?_) (fun cz => absurd hth cz)
  refine lv_iload hx hb dL_law_932 (lv_at hl 1 rfl) ?_
  refine lv_if_ne (tgt := 949) hx hb dL_law_934 (by decide) (fun cz => ?_) (fun cz => ?_)
  · skip
    refine lv_goto (tgt := 2538) hx hb dL_law_949 (by decide) ?_
    refine W.widen (k := cells + 5) (n := slots + 30) (Nat.add_le_add_left (Nat.le_of_ble_eq_true rfl) _) (Nat.add_le_add_left (Nat.le_of_ble_eq_true rfl) _) ?_
    exact kk H locs ls Z (lv_sub hl [2, 3, 4, 5, 6] rfl)
  have hk0 : k = 0 := nI_inj0 hk4 cz
  have hv := hv hk0
  refine lv_aload_n hx hb dL_law_937 rfl (lv_at hl 5 rfl) ?_
  refine lv_iconst (v := 0) hx hb dL_law_938 (by decide) ?_
  refine l_lald X Z dL_law_939 ?_
  refine lv_iload hx hb dL_law_940 (lv_at hl 0 rfl) ?_
  refine lv_i2l hx hb dL_law_942 rfl ?_
  refine W.lcmp hx hb dL_law_943 ?_
  refine lv_if_eq (tgt := 949) hx hb dL_law_944 (by decide) (fun cy => ?_) (fun cy => absurd (by rw [hv]; exact lcmp_self _) cy)
  refine lv_goto (tgt := 2538) hx hb dL_law_949 (by decide) ?_
  refine W.widen (k := cells + 5) (n := slots + 30) (Nat.add_le_add_left (Nat.le_of_ble_eq_true rfl) _) (Nat.add_le_add_left (Nat.le_of_ble_eq_true rfl) _) ?_
  exact kk H locs ls Z (lv_sub hl [2, 3, 4, 5, 6] rfl)
set_option maxHeartbeats 4000000 in
set_option maxRecDepth 100000 in
theorem law_clearText {gc gm : Mem} {ov : Nat → Int64} (X : gC p s m args meth c cL_law 7 (Cond.initialized RX6 :: wA0) RL ret G A) (hX : va_X b L xs s s.heap) (hbl : b < s.heap.size) (hbA : ¬ A b) {r : Int32 × Mem} (hc : sX6_clearText gc = some r) {q : Int32 × Mem} (hm : sX7_clearText gm = some q) (hv : r.1 = q.1) (hcs : cells + 5 ≤ room_1.cells ∧ slots + 30 ≤ room_1.slots) (kk : ∀ (H : Heap) (locs : List Loc) (ls : Array Slot), LSt G (wLw G r.2 q.2 ov) A s.heap H locs → lv_has ls 7 [(0, .ref b), (1, .ref (G.1 160)), (2, .ref ((shG G).1 0)), (3, .ref (G.1 170)), (4, .int (nI i))] → W p l e room_1 s m args below meth c H locs (cells + 5) (slots + 30) Q (F0 m 2538 ls [])) : ∀ (H : Heap) (locs : List Loc) (ls : Array Slot), LSt G (wLw G gc gm ov) A s.heap H locs → lv_has ls 7 [(0, .ref b), (1, .ref (G.1 160)), (2, .ref ((shG G).1 0)), (3, .ref (G.1 170)), (4, .int (nI i))] → W p l e room_1 s m args below meth c H locs cells slots Q (F0 m 952 ls []) := by
  have hx := X.1
  have hb := X.2.1
  intro H locs ls Z hl
  refine lv_aload_n hx hb dL_law_952 rfl (lv_at hl 1 rfl) ?_
  rw [← wLw_c] at Z
  refine l_callI (n := 0) (As := []) (rest := []) sameC adC (sG_r G) X Z (cX6_clearText_c l hc) (oX6 k160) rfl (gooV mB1141 mB1142 mB1143 mB409 mB504) rfl (by decide +kernel) rfl ⟨Nat.le_of_ble_eq_true rfl, Nat.le_of_ble_eq_true rfl⟩ ⟨Nat.le_trans (Nat.le_add_right _ _) hcs.1, Nat.le_trans (Nat.le_add_right _ _) hcs.2⟩ hl.1 rfl (Nat.le_of_ble_eq_true rfl) dL_law_953 (fun w9 H locs Z => ?_)
  rw [wLw_c] at Z
  refine lv_aload_n hx hb dL_law_956 rfl (lv_at hl 2 rfl) ?_
  rw [← wLw_m] at Z
  refine l_callI (n := 0) (As := []) (rest := [.int r.1]) sameM adM (sG_sh G) X Z (cX7_clearText_c l hm) oX7 rfl (gooV mB1144 mB1145 mB1146 mB614 mB804) rfl (by decide +kernel) rfl ⟨Nat.le_of_ble_eq_true rfl, Nat.le_of_ble_eq_true rfl⟩ ⟨Nat.le_trans (Nat.le_add_right _ _) hcs.1, Nat.le_trans (Nat.le_add_right _ _) hcs.2⟩ hl.1 rfl (Nat.le_of_ble_eq_true rfl) dL_law_957 (fun w9 H locs Z => ?_)
  rw [wLw_m] at Z
  refine lv_icmp_eq (tgt := 2538) hx hb dL_law_960 (by decide) (fun cz => ?_) (fun cz => absurd hv cz)
  refine W.widen (k := cells + 5) (n := slots + 30) (Nat.le_add_right _ _) (Nat.le_add_right _ _) ?_
  exact kk H locs ls Z hl
set_option maxHeartbeats 4000000 in
set_option maxRecDepth 100000 in
theorem law_errorPosition {n : Nat} {gc gm : Mem} {ov : Nat → Int64} (X : gC p s m args meth c cL_law 7 (Cond.initialized RX6 :: wA0) RL ret G A) (hX : va_X b L xs s s.heap) (hbl : b < s.heap.size) (hbA : ¬ A b) {r : Int32 × Mem} (hc : sX6_errorPosition n gc = some r) {q : Int32 × Mem} (hm : sX7_errorPosition n gm = some q) (hv : r.1 = q.1) (hcs : cells + 5 ≤ room_1.cells ∧ slots + 30 ≤ room_1.slots) (kk : ∀ (H : Heap) (locs : List Loc) (ls : Array Slot), LSt G (wLw G r.2 q.2 ov) A s.heap H locs → lv_has ls 7 [(0, .ref b), (1, .ref (G.1 160)), (2, .ref ((shG G).1 0)), (3, .ref (G.1 170)), (4, .int (nI i))] → W p l e room_1 s m args below meth c H locs (cells + 5) (slots + 30) Q (F0 m 2538 ls [])) : ∀ (H : Heap) (locs : List Loc) (ls : Array Slot), LSt G (wLw G gc gm ov) A s.heap H locs → lv_has ls 7 [(0, .ref b), (1, .ref (G.1 160)), (2, .ref ((shG G).1 0)), (3, .ref (G.1 170)), (4, .int (nI i))] → W p l e room_1 s m args below meth c H locs cells slots Q (F0 m 965 ls []) := by
  have hx := X.1
  have hb := X.2.1
  intro H locs ls Z hl
  refine lv_aload_n hx hb dL_law_965 rfl (lv_at hl 1 rfl) ?_
  rw [← wLw_c] at Z
  refine l_callI (n := 0) (As := []) (rest := []) sameC adC (sG_r G) X Z (cX6_errorPosition_c l hc) (oX6 k160) rfl (gooV mB1147 mB1148 mB1149 mB409 mB508) rfl (by decide +kernel) rfl ⟨Nat.le_of_ble_eq_true rfl, Nat.le_of_ble_eq_true rfl⟩ ⟨Nat.le_trans (Nat.le_add_right _ _) hcs.1, Nat.le_trans (Nat.le_add_right _ _) hcs.2⟩ hl.1 rfl (Nat.le_of_ble_eq_true rfl) dL_law_966 (fun w9 H locs Z => ?_)
  rw [wLw_c] at Z
  refine lv_aload_n hx hb dL_law_969 rfl (lv_at hl 2 rfl) ?_
  rw [← wLw_m] at Z
  refine l_callI (n := 0) (As := []) (rest := [.int r.1]) sameM adM (sG_sh G) X Z (cX7_errorPosition_c l hm) oX7 rfl (gooV mB1150 mB1151 mB1152 mB614 mB837) rfl (by decide +kernel) rfl ⟨Nat.le_of_ble_eq_true rfl, Nat.le_of_ble_eq_true rfl⟩ ⟨Nat.le_trans (Nat.le_add_right _ _) hcs.1, Nat.le_trans (Nat.le_add_right _ _) hcs.2⟩ hl.1 rfl (Nat.le_of_ble_eq_true rfl) dL_law_970 (fun w9 H locs Z => ?_)
  rw [wLw_m] at Z
  refine lv_icmp_eq (tgt := 2538) hx hb dL_law_973 (by decide) (fun cz => ?_) (fun cz => absurd hv cz)
  refine W.widen (k := cells + 5) (n := slots + 30) (Nat.le_add_right _ _) (Nat.le_add_right _ _) ?_
  exact kk H locs ls Z hl
set_option maxHeartbeats 4000000 in
set_option maxRecDepth 100000 in
theorem law_runText {n : Nat} {gc gm : Mem} {ov : Nat → Int64} (X : gC p s m args meth c cL_law 7 (Cond.initialized RX6 :: wA0) RL ret G A) (hX : va_X b L xs s s.heap) (hbl : b < s.heap.size) (hbA : ¬ A b) {gc1 : Mem} {ov1 : Nat → Int64} {k : Nat} (hk4 : k < 4) (hw : cLw l yL_runText wmL_runText 7 155 1 6 G [.ref (G.1 160), .ref (G.1 170)] (wC G gc ++ [oE G ov]) (wC G gc1 ++ [oE G ov1]) k) {q : Int32 × Mem} (hm : sX7_runText n gm = some q) (hth : q.2 0 7 = nI k) (hv : k = 0 → ov1 (0 : Int32).toNatClampNeg = q.1.toInt64) (hcs : cells + 5 ≤ room_1.cells ∧ slots + 30 ≤ room_1.slots) (kk : ∀ (H : Heap) (locs : List Loc) (ls : Array Slot), LSt G (wLw G gc1 q.2 ov1) A s.heap H locs → lv_has ls 7 [(0, .ref b), (1, .ref (G.1 160)), (2, .ref ((shG G).1 0)), (3, .ref (G.1 170)), (4, .int (nI i))] → W p l e room_1 s m args below meth c H locs (cells + 5) (slots + 30) Q (F0 m 2538 ls [])) : ∀ (H : Heap) (locs : List Loc) (ls : Array Slot), LSt G (wLw G gc gm ov) A s.heap H locs → lv_has ls 7 [(0, .ref b), (1, .ref (G.1 160)), (2, .ref ((shG G).1 0)), (3, .ref (G.1 170)), (4, .int (nI i))] → W p l e room_1 s m args below meth c H locs cells slots Q (F0 m 978 ls []) := by
  have hx := X.1
  have hb := X.2.1
  intro H locs ls Z hl
  refine lv_aload_n hx hb dL_law_978 rfl (lv_at hl 1 rfl) ?_
  refine lv_aload_n hx hb dL_law_979 rfl (lv_at hl 3 rfl) ?_
  rw [← wLw_w] at Z
  refine l_callW (n := 2) (As := [.ref (G.1 160), .ref (G.1 170)]) (rest := []) (c1 := cells + 1) (s1 := slots + 6) X Z (adCo G gc _ ov _) hw (gooS mB1153 mB1154 mB1084 mB976) rfl (by decide +kernel) rfl ⟨Nat.le_of_ble_eq_true rfl, Nat.le_of_ble_eq_true rfl⟩ rfl rfl ⟨Nat.le_trans (Nat.add_le_add_left (Nat.le_of_ble_eq_true rfl) _) hcs.1, Nat.le_trans (Nat.add_le_add_left (Nat.le_of_ble_eq_true rfl) _) hcs.2⟩ hl.1 rfl (Nat.le_of_ble_eq_true rfl) dL_law_980 (fun H locs Z => ?_)
  rw [wLw_w] at Z
  refine lv_istore (lv' := [(5, .int (nI k)), (0, .ref b), (1, .ref (G.1 160)), (2, .ref ((shG G).1 0)), (3, .ref (G.1 170)), (4, .int (nI i))]) hx hb dL_law_983 hl (by decide) rfl (fun ls hl => ?_)
  refine lv_aload_n hx hb dL_law_985 rfl (lv_at hl 3 rfl) ?_
  rw [← wLw_m] at Z
  refine l_callI (n := 0) (As := []) (rest := []) sameM adM (sG_sh G) X Z (cX7_runText_c l hm) oX7 rfl (gooV mB1155 mB1156 mB1157 mB614 mB854) rfl (by decide +kernel) rfl ⟨Nat.le_of_ble_eq_true rfl, Nat.le_of_ble_eq_true rfl⟩ ⟨Nat.le_trans (Nat.add_le_add_left (Nat.le_of_ble_eq_true rfl) _) hcs.1, Nat.le_trans (Nat.add_le_add_left (Nat.le_of_ble_eq_true rfl) _) hcs.2⟩ hl.1 rfl (Nat.le_of_ble_eq_true rfl) dL_law_986 (fun w9 H locs Z => ?_)
  rw [wLw_m] at Z
  refine lv_istore (lv' := [(6, .int q.1), (5, .int (nI k)), (0, .ref b), (1, .ref (G.1 160)), (2, .ref ((shG G).1 0)), (3, .ref (G.1 170)), (4, .int (nI i))]) hx hb dL_law_989 hl (by decide) rfl (fun ls hl => ?_)
  refine lv_aload_n hx hb dL_law_991 rfl (lv_at hl 4 rfl) ?_
  rw [← wLw_m] at Z
  refine l_callI (n := 0) (As := []) (rest := []) sameM adM (sG_sh G) X Z (cX7_thrown_c l (show sX7_thrown _ = some _ from rfl)) oX7 rfl (gooV mB1088 mB1089 mB1090 mB614 mB607) rfl (by decide +kernel) rfl ⟨Nat.le_of_ble_eq_true rfl, Nat.le_of_ble_eq_true rfl⟩ ⟨Nat.le_trans (Nat.add_le_add_left (Nat.le_of_ble_eq_true rfl) _) hcs.1, Nat.le_trans (Nat.add_le_add_left (Nat.le_of_ble_eq_true rfl) _) hcs.2⟩ hl.1 rfl (Nat.le_of_ble_eq_true rfl) dL_law_992 (fun w9 H locs Z => ?_)
  rw [wLw_m] at Z
  refine lv_iload hx hb dL_law_995 (lv_at hl 1 rfl) ?_
  refine lv_icmp_eq (tgt := 1002) hx hb dL_law_997 (by decide) (fun cz => ?_) (fun cz => absurd hth cz)
  refine lv_iload hx hb dL_law_1002 (lv_at hl 1 rfl) ?_
  refine lv_if_ne (tgt := 1019) hx hb dL_law_1004 (by decide) (fun cz => ?_) (fun cz => ?_)
  · skip
    refine lv_goto (tgt := 2538) hx hb dL_law_1019 (by decide) ?_
    refine W.widen (k := cells + 5) (n := slots + 30) (Nat.add_le_add_left (Nat.le_of_ble_eq_true rfl) _) (Nat.add_le_add_left (Nat.le_of_ble_eq_true rfl) _) ?_
    exact kk H locs ls Z (lv_sub hl [2, 3, 4, 5, 6] rfl)
  have hk0 : k = 0 := nI_inj0 hk4 cz
  have hv := hv hk0
  refine lv_aload_n hx hb dL_law_1007 rfl (lv_at hl 5 rfl) ?_
  refine lv_iconst (v := 0) hx hb dL_law_1008 (by decide) ?_
  refine l_lald X Z dL_law_1009 ?_
  refine lv_iload hx hb dL_law_1010 (lv_at hl 0 rfl) ?_
  refine lv_i2l hx hb dL_law_1012 rfl ?_
  refine W.lcmp hx hb dL_law_1013 ?_
  refine lv_if_eq (tgt := 1019) hx hb dL_law_1014 (by decide) (fun cy => ?_) (fun cy => absurd (by rw [hv]; exact lcmp_self _) cy)
  refine lv_goto (tgt := 2538) hx hb dL_law_1019 (by decide) ?_
  refine W.widen (k := cells + 5) (n := slots + 30) (Nat.add_le_add_left (Nat.le_of_ble_eq_true rfl) _) (Nat.add_le_add_left (Nat.le_of_ble_eq_true rfl) _) ?_
  exact kk H locs ls Z (lv_sub hl [2, 3, 4, 5, 6] rfl)
set_option maxHeartbeats 4000000 in
set_option maxRecDepth 100000 in
theorem law_undo {n : Nat} {gc gm : Mem} {ov : Nat → Int64} (X : gC p s m args meth c cL_law 7 (Cond.initialized RX6 :: wA0) RL ret G A) (hX : va_X b L xs s s.heap) (hbl : b < s.heap.size) (hbA : ¬ A b) {gc1 : Mem} {ov1 : Nat → Int64} {k : Nat} (hk4 : k < 4) (hw : cLw l yL_undo wmL_undo 7 133 1 6 G [.ref (G.1 160), .ref (G.1 170)] (wC G gc ++ [oE G ov]) (wC G gc1 ++ [oE G ov1]) k) {q : Int32 × Mem} (hm : sX7_undo n gm = some q) (hth : q.2 0 7 = nI k) (hv : k = 0 → ov1 (0 : Int32).toNatClampNeg = q.1.toInt64) (hcs : cells + 5 ≤ room_1.cells ∧ slots + 30 ≤ room_1.slots) (kk : ∀ (H : Heap) (locs : List Loc) (ls : Array Slot), LSt G (wLw G gc1 q.2 ov1) A s.heap H locs → lv_has ls 7 [(0, .ref b), (1, .ref (G.1 160)), (2, .ref ((shG G).1 0)), (3, .ref (G.1 170)), (4, .int (nI i))] → W p l e room_1 s m args below meth c H locs (cells + 5) (slots + 30) Q (F0 m 2538 ls [])) : ∀ (H : Heap) (locs : List Loc) (ls : Array Slot), LSt G (wLw G gc gm ov) A s.heap H locs → lv_has ls 7 [(0, .ref b), (1, .ref (G.1 160)), (2, .ref ((shG G).1 0)), (3, .ref (G.1 170)), (4, .int (nI i))] → W p l e room_1 s m args below meth c H locs cells slots Q (F0 m 1022 ls []) := by
  have hx := X.1
  have hb := X.2.1
  intro H locs ls Z hl
  refine lv_aload_n hx hb dL_law_1022 rfl (lv_at hl 1 rfl) ?_
  refine lv_aload_n hx hb dL_law_1023 rfl (lv_at hl 3 rfl) ?_
  rw [← wLw_w] at Z
  refine l_callW (n := 2) (As := [.ref (G.1 160), .ref (G.1 170)]) (rest := []) (c1 := cells + 1) (s1 := slots + 6) X Z (adCo G gc _ ov _) hw (gooS mB1158 mB1159 mB1084 mB980) rfl (by decide +kernel) rfl ⟨Nat.le_of_ble_eq_true rfl, Nat.le_of_ble_eq_true rfl⟩ rfl rfl ⟨Nat.le_trans (Nat.add_le_add_left (Nat.le_of_ble_eq_true rfl) _) hcs.1, Nat.le_trans (Nat.add_le_add_left (Nat.le_of_ble_eq_true rfl) _) hcs.2⟩ hl.1 rfl (Nat.le_of_ble_eq_true rfl) dL_law_1024 (fun H locs Z => ?_)
  rw [wLw_w] at Z
  refine lv_istore (lv' := [(5, .int (nI k)), (0, .ref b), (1, .ref (G.1 160)), (2, .ref ((shG G).1 0)), (3, .ref (G.1 170)), (4, .int (nI i))]) hx hb dL_law_1027 hl (by decide) rfl (fun ls hl => ?_)
  refine lv_aload_n hx hb dL_law_1029 rfl (lv_at hl 3 rfl) ?_
  rw [← wLw_m] at Z
  refine l_callI (n := 0) (As := []) (rest := []) sameM adM (sG_sh G) X Z (cX7_undo_c l hm) oX7 rfl (gooV mB1160 mB1161 mB1162 mB614 mB855) rfl (by decide +kernel) rfl ⟨Nat.le_of_ble_eq_true rfl, Nat.le_of_ble_eq_true rfl⟩ ⟨Nat.le_trans (Nat.add_le_add_left (Nat.le_of_ble_eq_true rfl) _) hcs.1, Nat.le_trans (Nat.add_le_add_left (Nat.le_of_ble_eq_true rfl) _) hcs.2⟩ hl.1 rfl (Nat.le_of_ble_eq_true rfl) dL_law_1030 (fun w9 H locs Z => ?_)
  rw [wLw_m] at Z
  refine lv_istore (lv' := [(6, .int q.1), (5, .int (nI k)), (0, .ref b), (1, .ref (G.1 160)), (2, .ref ((shG G).1 0)), (3, .ref (G.1 170)), (4, .int (nI i))]) hx hb dL_law_1033 hl (by decide) rfl (fun ls hl => ?_)
  refine lv_aload_n hx hb dL_law_1035 rfl (lv_at hl 4 rfl) ?_
  rw [← wLw_m] at Z
  refine l_callI (n := 0) (As := []) (rest := []) sameM adM (sG_sh G) X Z (cX7_thrown_c l (show sX7_thrown _ = some _ from rfl)) oX7 rfl (gooV mB1088 mB1089 mB1090 mB614 mB607) rfl (by decide +kernel) rfl ⟨Nat.le_of_ble_eq_true rfl, Nat.le_of_ble_eq_true rfl⟩ ⟨Nat.le_trans (Nat.add_le_add_left (Nat.le_of_ble_eq_true rfl) _) hcs.1, Nat.le_trans (Nat.add_le_add_left (Nat.le_of_ble_eq_true rfl) _) hcs.2⟩ hl.1 rfl (Nat.le_of_ble_eq_true rfl) dL_law_1036 (fun w9 H locs Z => ?_)
  rw [wLw_m] at Z
  refine lv_iload hx hb dL_law_1039 (lv_at hl 1 rfl) ?_
  refine lv_icmp_eq (tgt := 1046) hx hb dL_law_1041 (by decide) (fun cz => ?_) (fun cz => absurd hth cz)
  refine lv_iload hx hb dL_law_1046 (lv_at hl 1 rfl) ?_
  refine lv_if_ne (tgt := 1063) hx hb dL_law_1048 (by decide) (fun cz => ?_) (fun cz => ?_)
  · skip
    refine lv_goto (tgt := 2538) hx hb dL_law_1063 (by decide) ?_
    refine W.widen (k := cells + 5) (n := slots + 30) (Nat.add_le_add_left (Nat.le_of_ble_eq_true rfl) _) (Nat.add_le_add_left (Nat.le_of_ble_eq_true rfl) _) ?_
    exact kk H locs ls Z (lv_sub hl [2, 3, 4, 5, 6] rfl)
  have hk0 : k = 0 := nI_inj0 hk4 cz
  have hv := hv hk0
  refine lv_aload_n hx hb dL_law_1051 rfl (lv_at hl 5 rfl) ?_
  refine lv_iconst (v := 0) hx hb dL_law_1052 (by decide) ?_
  refine l_lald X Z dL_law_1053 ?_
  refine lv_iload hx hb dL_law_1054 (lv_at hl 0 rfl) ?_
  refine lv_i2l hx hb dL_law_1056 rfl ?_
  refine W.lcmp hx hb dL_law_1057 ?_
  refine lv_if_eq (tgt := 1063) hx hb dL_law_1058 (by decide) (fun cy => ?_) (fun cy => absurd (by rw [hv]; exact lcmp_self _) cy)
  refine lv_goto (tgt := 2538) hx hb dL_law_1063 (by decide) ?_
  refine W.widen (k := cells + 5) (n := slots + 30) (Nat.add_le_add_left (Nat.le_of_ble_eq_true rfl) _) (Nat.add_le_add_left (Nat.le_of_ble_eq_true rfl) _) ?_
  exact kk H locs ls Z (lv_sub hl [2, 3, 4, 5, 6] rfl)
set_option maxHeartbeats 4000000 in
set_option maxRecDepth 100000 in
theorem law_save {n : Nat} {gc gm : Mem} {ov : Nat → Int64} {x1 : Int32} (X : gC p s m args meth c cL_law 7 (Cond.initialized RX6 :: wA0) RL ret G A) (hX : va_X b L xs s s.heap) (hbl : b < s.heap.size) (hbA : ¬ A b) (hb1 : vp_in (nI i + 1) L) (ha1 : xs (nI i + 1).toNatClampNeg = x1) {gc1 : Mem} {ov1 : Nat → Int64} {k : Nat} (hk4 : k < 4) (hw : cLw l yL_save wmL_save 8 132 1 6 G [.ref (G.1 160), .int x1, .ref (G.1 170)] (wC G gc ++ [oE G ov]) (wC G gc1 ++ [oE G ov1]) k) {q : Int32 × Mem} (hm : sX7_save n gm x1 = some q) (hth : q.2 0 7 = nI k) (hv : k = 0 → ov1 (0 : Int32).toNatClampNeg = q.1.toInt64) (hcs : cells + 5 ≤ room_1.cells ∧ slots + 30 ≤ room_1.slots) (kk : ∀ (H : Heap) (locs : List Loc) (ls : Array Slot), LSt G (wLw G gc1 q.2 ov1) A s.heap H locs → lv_has ls 7 [(0, .ref b), (1, .ref (G.1 160)), (2, .ref ((shG G).1 0)), (3, .ref (G.1 170)), (4, .int (nI i))] → W p l e room_1 s m args below meth c H locs (cells + 5) (slots + 30) Q (F0 m 2538 ls [])) : ∀ (H : Heap) (locs : List Loc) (ls : Array Slot), LSt G (wLw G gc gm ov) A s.heap H locs → lv_has ls 7 [(0, .ref b), (1, .ref (G.1 160)), (2, .ref ((shG G).1 0)), (3, .ref (G.1 170)), (4, .int (nI i))] → W p l e room_1 s m args below meth c H locs cells slots Q (F0 m 1066 ls []) := by
  have hx := X.1
  have hb := X.2.1
  intro H locs ls Z hl
  refine lv_aload_n hx hb dL_law_1066 rfl (lv_at hl 1 rfl) ?_
  refine lv_aload_n hx hb dL_law_1067 rfl (lv_at hl 0 rfl) ?_
  refine lv_iload hx hb dL_law_1068 (lv_at hl 4 rfl) ?_
  refine lv_iconst (v := 1) hx hb dL_law_1070 (by decide) ?_
  refine lv_iadd hx hb dL_law_1071 ?_
  refine l_sld hx hb hX hbl hbA Z.2.2 hb1 ha1 dL_law_1072 ?_
  refine lv_aload_n hx hb dL_law_1073 rfl (lv_at hl 3 rfl) ?_
  rw [← wLw_w] at Z
  refine l_callW (n := 3) (As := [.ref (G.1 160), .int x1, .ref (G.1 170)]) (rest := []) (c1 := cells + 1) (s1 := slots + 6) X Z (adCo G gc _ ov _) hw (gooS mB1163 mB1164 mB1084 mB984) rfl (by decide +kernel) rfl ⟨Nat.le_of_ble_eq_true rfl, Nat.le_of_ble_eq_true rfl⟩ rfl rfl ⟨Nat.le_trans (Nat.add_le_add_left (Nat.le_of_ble_eq_true rfl) _) hcs.1, Nat.le_trans (Nat.add_le_add_left (Nat.le_of_ble_eq_true rfl) _) hcs.2⟩ hl.1 rfl (Nat.le_of_ble_eq_true rfl) dL_law_1074 (fun H locs Z => ?_)
  rw [wLw_w] at Z
  refine lv_istore (lv' := [(5, .int (nI k)), (0, .ref b), (1, .ref (G.1 160)), (2, .ref ((shG G).1 0)), (3, .ref (G.1 170)), (4, .int (nI i))]) hx hb dL_law_1077 hl (by decide) rfl (fun ls hl => ?_)
  refine lv_aload_n hx hb dL_law_1079 rfl (lv_at hl 3 rfl) ?_
  refine lv_aload_n hx hb dL_law_1080 rfl (lv_at hl 1 rfl) ?_
  refine lv_iload hx hb dL_law_1081 (lv_at hl 5 rfl) ?_
  refine lv_iconst (v := 1) hx hb dL_law_1083 (by decide) ?_
  refine lv_iadd hx hb dL_law_1084 ?_
  refine l_sld hx hb hX hbl hbA Z.2.2 hb1 ha1 dL_law_1085 ?_
  rw [← wLw_m] at Z
  refine l_callI (n := 1) (As := [.int x1]) (rest := []) sameM adM (sG_sh G) X Z (cX7_save_c l hm) oX7 rfl (gooV mB1165 mB1166 mB1167 mB614 mB856) rfl (by decide +kernel) rfl ⟨Nat.le_of_ble_eq_true rfl, Nat.le_of_ble_eq_true rfl⟩ ⟨Nat.le_trans (Nat.add_le_add_left (Nat.le_of_ble_eq_true rfl) _) hcs.1, Nat.le_trans (Nat.add_le_add_left (Nat.le_of_ble_eq_true rfl) _) hcs.2⟩ hl.1 rfl (Nat.le_of_ble_eq_true rfl) dL_law_1086 (fun w9 H locs Z => ?_)
  rw [wLw_m] at Z
  refine lv_istore (lv' := [(6, .int q.1), (5, .int (nI k)), (0, .ref b), (1, .ref (G.1 160)), (2, .ref ((shG G).1 0)), (3, .ref (G.1 170)), (4, .int (nI i))]) hx hb dL_law_1089 hl (by decide) rfl (fun ls hl => ?_)
  refine lv_aload_n hx hb dL_law_1091 rfl (lv_at hl 4 rfl) ?_
  rw [← wLw_m] at Z
  refine l_callI (n := 0) (As := []) (rest := []) sameM adM (sG_sh G) X Z (cX7_thrown_c l (show sX7_thrown _ = some _ from rfl)) oX7 rfl (gooV mB1088 mB1089 mB1090 mB614 mB607) rfl (by decide +kernel) rfl ⟨Nat.le_of_ble_eq_true rfl, Nat.le_of_ble_eq_true rfl⟩ ⟨Nat.le_trans (Nat.add_le_add_left (Nat.le_of_ble_eq_true rfl) _) hcs.1, Nat.le_trans (Nat.add_le_add_left (Nat.le_of_ble_eq_true rfl) _) hcs.2⟩ hl.1 rfl (Nat.le_of_ble_eq_true rfl) dL_law_1092 (fun w9 H locs Z => ?_)
  rw [wLw_m] at Z
  refine lv_iload hx hb dL_law_1095 (lv_at hl 1 rfl) ?_
  refine lv_icmp_eq (tgt := 1102) hx hb dL_law_1097 (by decide) (fun cz => ?_) (fun cz => absurd hth cz)
  refine lv_iload hx hb dL_law_1102 (lv_at hl 1 rfl) ?_
  refine lv_if_ne (tgt := 1119) hx hb dL_law_1104 (by decide) (fun cz => ?_) (fun cz => ?_)
  · skip
    refine lv_goto (tgt := 2538) hx hb dL_law_1119 (by decide) ?_
    refine W.widen (k := cells + 5) (n := slots + 30) (Nat.add_le_add_left (Nat.le_of_ble_eq_true rfl) _) (Nat.add_le_add_left (Nat.le_of_ble_eq_true rfl) _) ?_
    exact kk H locs ls Z (lv_sub hl [2, 3, 4, 5, 6] rfl)
  have hk0 : k = 0 := nI_inj0 hk4 cz
  have hv := hv hk0
  refine lv_aload_n hx hb dL_law_1107 rfl (lv_at hl 5 rfl) ?_
  refine lv_iconst (v := 0) hx hb dL_law_1108 (by decide) ?_
  refine l_lald X Z dL_law_1109 ?_
  refine lv_iload hx hb dL_law_1110 (lv_at hl 0 rfl) ?_
  refine lv_i2l hx hb dL_law_1112 rfl ?_
  refine W.lcmp hx hb dL_law_1113 ?_
  refine lv_if_eq (tgt := 1119) hx hb dL_law_1114 (by decide) (fun cy => ?_) (fun cy => absurd (by rw [hv]; exact lcmp_self _) cy)
  refine lv_goto (tgt := 2538) hx hb dL_law_1119 (by decide) ?_
  refine W.widen (k := cells + 5) (n := slots + 30) (Nat.add_le_add_left (Nat.le_of_ble_eq_true rfl) _) (Nat.add_le_add_left (Nat.le_of_ble_eq_true rfl) _) ?_
  exact kk H locs ls Z (lv_sub hl [2, 3, 4, 5, 6] rfl)
set_option maxHeartbeats 4000000 in
set_option maxRecDepth 100000 in
theorem law_restore {n : Nat} {gc gm : Mem} {ov : Nat → Int64} {x1 : Int32} (X : gC p s m args meth c cL_law 7 (Cond.initialized RX6 :: wA0) RL ret G A) (hX : va_X b L xs s s.heap) (hbl : b < s.heap.size) (hbA : ¬ A b) (hb1 : vp_in (nI i + 1) L) (ha1 : xs (nI i + 1).toNatClampNeg = x1) {gc1 : Mem} {ov1 : Nat → Int64} {k : Nat} (hk4 : k < 4) (hw : cLw l yL_restore wmL_restore 8 134 2 12 G [.ref (G.1 160), .int x1, .ref (G.1 170)] (wC G gc ++ [oE G ov]) (wC G gc1 ++ [oE G ov1]) k) {q : Int32 × Mem} (hm : sX7_restore n gm x1 = some q) (hth : q.2 0 7 = nI k) (hv : k = 0 → ov1 (0 : Int32).toNatClampNeg = q.1.toInt64) (hcs : cells + 5 ≤ room_1.cells ∧ slots + 30 ≤ room_1.slots) (kk : ∀ (H : Heap) (locs : List Loc) (ls : Array Slot), LSt G (wLw G gc1 q.2 ov1) A s.heap H locs → lv_has ls 7 [(0, .ref b), (1, .ref (G.1 160)), (2, .ref ((shG G).1 0)), (3, .ref (G.1 170)), (4, .int (nI i))] → W p l e room_1 s m args below meth c H locs (cells + 5) (slots + 30) Q (F0 m 2538 ls [])) : ∀ (H : Heap) (locs : List Loc) (ls : Array Slot), LSt G (wLw G gc gm ov) A s.heap H locs → lv_has ls 7 [(0, .ref b), (1, .ref (G.1 160)), (2, .ref ((shG G).1 0)), (3, .ref (G.1 170)), (4, .int (nI i))] → W p l e room_1 s m args below meth c H locs cells slots Q (F0 m 1122 ls []) := by
  have hx := X.1
  have hb := X.2.1
  intro H locs ls Z hl
  refine lv_aload_n hx hb dL_law_1122 rfl (lv_at hl 1 rfl) ?_
  refine lv_aload_n hx hb dL_law_1123 rfl (lv_at hl 0 rfl) ?_
  refine lv_iload hx hb dL_law_1124 (lv_at hl 4 rfl) ?_
  refine lv_iconst (v := 1) hx hb dL_law_1126 (by decide) ?_
  refine lv_iadd hx hb dL_law_1127 ?_
  refine l_sld hx hb hX hbl hbA Z.2.2 hb1 ha1 dL_law_1128 ?_
  refine lv_aload_n hx hb dL_law_1129 rfl (lv_at hl 3 rfl) ?_
  rw [← wLw_w] at Z
  refine l_callW (n := 3) (As := [.ref (G.1 160), .int x1, .ref (G.1 170)]) (rest := []) (c1 := cells + 2) (s1 := slots + 12) X Z (adCo G gc _ ov _) hw (gooS mB1168 mB1169 mB1084 mB988) rfl (by decide +kernel) rfl ⟨Nat.le_of_ble_eq_true rfl, Nat.le_of_ble_eq_true rfl⟩ rfl rfl ⟨Nat.le_trans (Nat.add_le_add_left (Nat.le_of_ble_eq_true rfl) _) hcs.1, Nat.le_trans (Nat.add_le_add_left (Nat.le_of_ble_eq_true rfl) _) hcs.2⟩ hl.1 rfl (Nat.le_of_ble_eq_true rfl) dL_law_1130 (fun H locs Z => ?_)
  rw [wLw_w] at Z
  refine lv_istore (lv' := [(5, .int (nI k)), (0, .ref b), (1, .ref (G.1 160)), (2, .ref ((shG G).1 0)), (3, .ref (G.1 170)), (4, .int (nI i))]) hx hb dL_law_1133 hl (by decide) rfl (fun ls hl => ?_)
  refine lv_aload_n hx hb dL_law_1135 rfl (lv_at hl 3 rfl) ?_
  refine lv_aload_n hx hb dL_law_1136 rfl (lv_at hl 1 rfl) ?_
  refine lv_iload hx hb dL_law_1137 (lv_at hl 5 rfl) ?_
  refine lv_iconst (v := 1) hx hb dL_law_1139 (by decide) ?_
  refine lv_iadd hx hb dL_law_1140 ?_
  refine l_sld hx hb hX hbl hbA Z.2.2 hb1 ha1 dL_law_1141 ?_
  rw [← wLw_m] at Z
  refine l_callI (n := 1) (As := [.int x1]) (rest := []) sameM adM (sG_sh G) X Z (cX7_restore_c l hm) oX7 rfl (gooV mB1170 mB1171 mB1172 mB614 mB857) rfl (by decide +kernel) rfl ⟨Nat.le_of_ble_eq_true rfl, Nat.le_of_ble_eq_true rfl⟩ ⟨Nat.le_trans (Nat.add_le_add_left (Nat.le_of_ble_eq_true rfl) _) hcs.1, Nat.le_trans (Nat.add_le_add_left (Nat.le_of_ble_eq_true rfl) _) hcs.2⟩ hl.1 rfl (Nat.le_of_ble_eq_true rfl) dL_law_1142 (fun w9 H locs Z => ?_)
  rw [wLw_m] at Z
  refine lv_istore (lv' := [(6, .int q.1), (5, .int (nI k)), (0, .ref b), (1, .ref (G.1 160)), (2, .ref ((shG G).1 0)), (3, .ref (G.1 170)), (4, .int (nI i))]) hx hb dL_law_1145 hl (by decide) rfl (fun ls hl => ?_)
  refine lv_aload_n hx hb dL_law_1147 rfl (lv_at hl 4 rfl) ?_
  rw [← wLw_m] at Z
  refine l_callI (n := 0) (As := []) (rest := []) sameM adM (sG_sh G) X Z (cX7_thrown_c l (show sX7_thrown _ = some _ from rfl)) oX7 rfl (gooV mB1088 mB1089 mB1090 mB614 mB607) rfl (by decide +kernel) rfl ⟨Nat.le_of_ble_eq_true rfl, Nat.le_of_ble_eq_true rfl⟩ ⟨Nat.le_trans (Nat.add_le_add_left (Nat.le_of_ble_eq_true rfl) _) hcs.1, Nat.le_trans (Nat.add_le_add_left (Nat.le_of_ble_eq_true rfl) _) hcs.2⟩ hl.1 rfl (Nat.le_of_ble_eq_true rfl) dL_law_1148 (fun w9 H locs Z => ?_)
  rw [wLw_m] at Z
  refine lv_iload hx hb dL_law_1151 (lv_at hl 1 rfl) ?_
  refine lv_icmp_eq (tgt := 1158) hx hb dL_law_1153 (by decide) (fun cz => ?_) (fun cz => absurd hth cz)
  refine lv_iload hx hb dL_law_1158 (lv_at hl 1 rfl) ?_
  refine lv_if_ne (tgt := 1175) hx hb dL_law_1160 (by decide) (fun cz => ?_) (fun cz => ?_)
  · skip
    refine lv_goto (tgt := 2538) hx hb dL_law_1175 (by decide) ?_
    refine W.widen (k := cells + 5) (n := slots + 30) (Nat.add_le_add_left (Nat.le_of_ble_eq_true rfl) _) (Nat.add_le_add_left (Nat.le_of_ble_eq_true rfl) _) ?_
    exact kk H locs ls Z (lv_sub hl [2, 3, 4, 5, 6] rfl)
  have hk0 : k = 0 := nI_inj0 hk4 cz
  have hv := hv hk0
  refine lv_aload_n hx hb dL_law_1163 rfl (lv_at hl 5 rfl) ?_
  refine lv_iconst (v := 0) hx hb dL_law_1164 (by decide) ?_
  refine l_lald X Z dL_law_1165 ?_
  refine lv_iload hx hb dL_law_1166 (lv_at hl 0 rfl) ?_
  refine lv_i2l hx hb dL_law_1168 rfl ?_
  refine W.lcmp hx hb dL_law_1169 ?_
  refine lv_if_eq (tgt := 1175) hx hb dL_law_1170 (by decide) (fun cy => ?_) (fun cy => absurd (by rw [hv]; exact lcmp_self _) cy)
  refine lv_goto (tgt := 2538) hx hb dL_law_1175 (by decide) ?_
  refine W.widen (k := cells + 5) (n := slots + 30) (Nat.add_le_add_left (Nat.le_of_ble_eq_true rfl) _) (Nat.add_le_add_left (Nat.le_of_ble_eq_true rfl) _) ?_
  exact kk H locs ls Z (lv_sub hl [2, 3, 4, 5, 6] rfl)
set_option maxHeartbeats 4000000 in
set_option maxRecDepth 100000 in
theorem law_trueTime {gc gm : Mem} {ov : Nat → Int64} (X : gC p s m args meth c cL_law 7 (Cond.initialized RX6 :: wA0) RL ret G A) (hX : va_X b L xs s s.heap) (hbl : b < s.heap.size) (hbA : ¬ A b) {r : Int32} (hc : sX6_trueTime gc = some r) {q : Int32 × Mem} (hm : sX7_trueTime gm = some q) (hv : r = q.1) (hcs : cells + 5 ≤ room_1.cells ∧ slots + 30 ≤ room_1.slots) (kk : ∀ (H : Heap) (locs : List Loc) (ls : Array Slot), LSt G (wLw G gc q.2 ov) A s.heap H locs → lv_has ls 7 [(0, .ref b), (1, .ref (G.1 160)), (2, .ref ((shG G).1 0)), (3, .ref (G.1 170)), (4, .int (nI i))] → W p l e room_1 s m args below meth c H locs (cells + 5) (slots + 30) Q (F0 m 2538 ls [])) : ∀ (H : Heap) (locs : List Loc) (ls : Array Slot), LSt G (wLw G gc gm ov) A s.heap H locs → lv_has ls 7 [(0, .ref b), (1, .ref (G.1 160)), (2, .ref ((shG G).1 0)), (3, .ref (G.1 170)), (4, .int (nI i))] → W p l e room_1 s m args below meth c H locs cells slots Q (F0 m 1178 ls []) := by
  have hx := X.1
  have hb := X.2.1
  intro H locs ls Z hl
  refine lv_aload_n hx hb dL_law_1178 rfl (lv_at hl 1 rfl) ?_
  rw [← wLw_c] at Z
  refine l_callI (n := 0) (As := []) (rest := []) sameC adC (sG_r G) X Z (cX6_trueTime_c l hc) (oX6 k160) rfl (gooV mB1173 mB1174 mB1175 mB409 mB536) rfl (by decide +kernel) rfl ⟨Nat.le_of_ble_eq_true rfl, Nat.le_of_ble_eq_true rfl⟩ ⟨Nat.le_trans (Nat.le_add_right _ _) hcs.1, Nat.le_trans (Nat.le_add_right _ _) hcs.2⟩ hl.1 rfl (Nat.le_of_ble_eq_true rfl) dL_law_1179 (fun w9 H locs Z => ?_)
  rw [wLw_c] at Z
  refine lv_aload_n hx hb dL_law_1182 rfl (lv_at hl 2 rfl) ?_
  rw [← wLw_m] at Z
  refine l_callI (n := 0) (As := []) (rest := [.int r]) sameM adM (sG_sh G) X Z (cX7_trueTime_c l hm) oX7 rfl (gooV mB1176 mB1177 mB1178 mB614 mB858) rfl (by decide +kernel) rfl ⟨Nat.le_of_ble_eq_true rfl, Nat.le_of_ble_eq_true rfl⟩ ⟨Nat.le_trans (Nat.le_add_right _ _) hcs.1, Nat.le_trans (Nat.le_add_right _ _) hcs.2⟩ hl.1 rfl (Nat.le_of_ble_eq_true rfl) dL_law_1183 (fun w9 H locs Z => ?_)
  rw [wLw_m] at Z
  refine lv_icmp_eq (tgt := 2538) hx hb dL_law_1186 (by decide) (fun cz => ?_) (fun cz => absurd hv cz)
  refine W.widen (k := cells + 5) (n := slots + 30) (Nat.le_add_right _ _) (Nat.le_add_right _ _) ?_
  exact kk H locs ls Z hl
set_option maxHeartbeats 4000000 in
set_option maxRecDepth 100000 in
theorem law_reading {gc gm : Mem} {ov : Nat → Int64} {x1 : Int32} (X : gC p s m args meth c cL_law 7 (Cond.initialized RX6 :: wA0) RL ret G A) (hX : va_X b L xs s s.heap) (hbl : b < s.heap.size) (hbA : ¬ A b) (hb1 : vp_in (nI i + 1) L) (ha1 : xs (nI i + 1).toNatClampNeg = x1) {gc1 : Mem} {ov1 : Nat → Int64} {k : Nat} (hk4 : k < 4) (hw : cLw l yL_reading wmL_reading 8 132 1 6 G [.ref (G.1 160), .int x1, .ref (G.1 170)] (wC G gc ++ [oE G ov]) (wC G gc1 ++ [oE G ov1]) k) {q : Int32 × Mem} (hm : sX7_reading gm x1 = some q) (hth : q.2 0 7 = nI k) (hv : k = 0 → ov1 (0 : Int32).toNatClampNeg = q.1.toInt64) (hcs : cells + 5 ≤ room_1.cells ∧ slots + 30 ≤ room_1.slots) (kk : ∀ (H : Heap) (locs : List Loc) (ls : Array Slot), LSt G (wLw G gc1 q.2 ov1) A s.heap H locs → lv_has ls 7 [(0, .ref b), (1, .ref (G.1 160)), (2, .ref ((shG G).1 0)), (3, .ref (G.1 170)), (4, .int (nI i))] → W p l e room_1 s m args below meth c H locs (cells + 5) (slots + 30) Q (F0 m 2538 ls [])) : ∀ (H : Heap) (locs : List Loc) (ls : Array Slot), LSt G (wLw G gc gm ov) A s.heap H locs → lv_has ls 7 [(0, .ref b), (1, .ref (G.1 160)), (2, .ref ((shG G).1 0)), (3, .ref (G.1 170)), (4, .int (nI i))] → W p l e room_1 s m args below meth c H locs cells slots Q (F0 m 1191 ls []) := by
  have hx := X.1
  have hb := X.2.1
  intro H locs ls Z hl
  refine lv_aload_n hx hb dL_law_1191 rfl (lv_at hl 1 rfl) ?_
  refine lv_aload_n hx hb dL_law_1192 rfl (lv_at hl 0 rfl) ?_
  refine lv_iload hx hb dL_law_1193 (lv_at hl 4 rfl) ?_
  refine lv_iconst (v := 1) hx hb dL_law_1195 (by decide) ?_
  refine lv_iadd hx hb dL_law_1196 ?_
  refine l_sld hx hb hX hbl hbA Z.2.2 hb1 ha1 dL_law_1197 ?_
  refine lv_aload_n hx hb dL_law_1198 rfl (lv_at hl 3 rfl) ?_
  rw [← wLw_w] at Z
  refine l_callW (n := 3) (As := [.ref (G.1 160), .int x1, .ref (G.1 170)]) (rest := []) (c1 := cells + 1) (s1 := slots + 6) X Z (adCo G gc _ ov _) hw (gooS mB1179 mB1180 mB1084 mB992) rfl (by decide +kernel) rfl ⟨Nat.le_of_ble_eq_true rfl, Nat.le_of_ble_eq_true rfl⟩ rfl rfl ⟨Nat.le_trans (Nat.add_le_add_left (Nat.le_of_ble_eq_true rfl) _) hcs.1, Nat.le_trans (Nat.add_le_add_left (Nat.le_of_ble_eq_true rfl) _) hcs.2⟩ hl.1 rfl (Nat.le_of_ble_eq_true rfl) dL_law_1199 (fun H locs Z => ?_)
  rw [wLw_w] at Z
  refine lv_istore (lv' := [(5, .int (nI k)), (0, .ref b), (1, .ref (G.1 160)), (2, .ref ((shG G).1 0)), (3, .ref (G.1 170)), (4, .int (nI i))]) hx hb dL_law_1202 hl (by decide) rfl (fun ls hl => ?_)
  refine lv_aload_n hx hb dL_law_1204 rfl (lv_at hl 3 rfl) ?_
  refine lv_aload_n hx hb dL_law_1205 rfl (lv_at hl 1 rfl) ?_
  refine lv_iload hx hb dL_law_1206 (lv_at hl 5 rfl) ?_
  refine lv_iconst (v := 1) hx hb dL_law_1208 (by decide) ?_
  refine lv_iadd hx hb dL_law_1209 ?_
  refine l_sld hx hb hX hbl hbA Z.2.2 hb1 ha1 dL_law_1210 ?_
  rw [← wLw_m] at Z
  refine l_callI (n := 1) (As := [.int x1]) (rest := []) sameM adM (sG_sh G) X Z (cX7_reading_c l hm) oX7 rfl (gooV mB1181 mB1182 mB1183 mB614 mB859) rfl (by decide +kernel) rfl ⟨Nat.le_of_ble_eq_true rfl, Nat.le_of_ble_eq_true rfl⟩ ⟨Nat.le_trans (Nat.add_le_add_left (Nat.le_of_ble_eq_true rfl) _) hcs.1, Nat.le_trans (Nat.add_le_add_left (Nat.le_of_ble_eq_true rfl) _) hcs.2⟩ hl.1 rfl (Nat.le_of_ble_eq_true rfl) dL_law_1211 (fun w9 H locs Z => ?_)
  rw [wLw_m] at Z
  refine lv_istore (lv' := [(6, .int q.1), (5, .int (nI k)), (0, .ref b), (1, .ref (G.1 160)), (2, .ref ((shG G).1 0)), (3, .ref (G.1 170)), (4, .int (nI i))]) hx hb dL_law_1214 hl (by decide) rfl (fun ls hl => ?_)
  refine lv_aload_n hx hb dL_law_1216 rfl (lv_at hl 4 rfl) ?_
  rw [← wLw_m] at Z
  refine l_callI (n := 0) (As := []) (rest := []) sameM adM (sG_sh G) X Z (cX7_thrown_c l (show sX7_thrown _ = some _ from rfl)) oX7 rfl (gooV mB1088 mB1089 mB1090 mB614 mB607) rfl (by decide +kernel) rfl ⟨Nat.le_of_ble_eq_true rfl, Nat.le_of_ble_eq_true rfl⟩ ⟨Nat.le_trans (Nat.add_le_add_left (Nat.le_of_ble_eq_true rfl) _) hcs.1, Nat.le_trans (Nat.add_le_add_left (Nat.le_of_ble_eq_true rfl) _) hcs.2⟩ hl.1 rfl (Nat.le_of_ble_eq_true rfl) dL_law_1217 (fun w9 H locs Z => ?_)
  rw [wLw_m] at Z
  refine lv_iload hx hb dL_law_1220 (lv_at hl 1 rfl) ?_
  refine lv_icmp_eq (tgt := 1227) hx hb dL_law_1222 (by decide) (fun cz => ?_) (fun cz => absurd hth cz)
  refine lv_iload hx hb dL_law_1227 (lv_at hl 1 rfl) ?_
  refine lv_if_ne (tgt := 1244) hx hb dL_law_1229 (by decide) (fun cz => ?_) (fun cz => ?_)
  · skip
    refine lv_goto (tgt := 2538) hx hb dL_law_1244 (by decide) ?_
    refine W.widen (k := cells + 5) (n := slots + 30) (Nat.add_le_add_left (Nat.le_of_ble_eq_true rfl) _) (Nat.add_le_add_left (Nat.le_of_ble_eq_true rfl) _) ?_
    exact kk H locs ls Z (lv_sub hl [2, 3, 4, 5, 6] rfl)
  have hk0 : k = 0 := nI_inj0 hk4 cz
  have hv := hv hk0
  refine lv_aload_n hx hb dL_law_1232 rfl (lv_at hl 5 rfl) ?_
  refine lv_iconst (v := 0) hx hb dL_law_1233 (by decide) ?_
  refine l_lald X Z dL_law_1234 ?_
  refine lv_iload hx hb dL_law_1235 (lv_at hl 0 rfl) ?_
  refine lv_i2l hx hb dL_law_1237 rfl ?_
  refine W.lcmp hx hb dL_law_1238 ?_
  refine lv_if_eq (tgt := 1244) hx hb dL_law_1239 (by decide) (fun cy => ?_) (fun cy => absurd (by rw [hv]; exact lcmp_self _) cy)
  refine lv_goto (tgt := 2538) hx hb dL_law_1244 (by decide) ?_
  refine W.widen (k := cells + 5) (n := slots + 30) (Nat.add_le_add_left (Nat.le_of_ble_eq_true rfl) _) (Nat.add_le_add_left (Nat.le_of_ble_eq_true rfl) _) ?_
  exact kk H locs ls Z (lv_sub hl [2, 3, 4, 5, 6] rfl)
set_option maxHeartbeats 4000000 in
set_option maxRecDepth 100000 in
theorem law_earliest {gc gm : Mem} {ov : Nat → Int64} {x1 : Int32} (X : gC p s m args meth c cL_law 7 (Cond.initialized RX6 :: wA0) RL ret G A) (hX : va_X b L xs s s.heap) (hbl : b < s.heap.size) (hbA : ¬ A b) (hb1 : vp_in (nI i + 1) L) (ha1 : xs (nI i + 1).toNatClampNeg = x1) {gc1 : Mem} {ov1 : Nat → Int64} {k : Nat} (hk4 : k < 4) (hw : cLw l yL_earliest wmL_earliest 8 132 1 6 G [.ref (G.1 160), .int x1, .ref (G.1 170)] (wC G gc ++ [oE G ov]) (wC G gc1 ++ [oE G ov1]) k) {q : Int32 × Mem} (hm : sX7_earliest gm x1 = some q) (hth : q.2 0 7 = nI k) (hv : k = 0 → ov1 (0 : Int32).toNatClampNeg = q.1.toInt64) (hcs : cells + 5 ≤ room_1.cells ∧ slots + 30 ≤ room_1.slots) (kk : ∀ (H : Heap) (locs : List Loc) (ls : Array Slot), LSt G (wLw G gc1 q.2 ov1) A s.heap H locs → lv_has ls 7 [(0, .ref b), (1, .ref (G.1 160)), (2, .ref ((shG G).1 0)), (3, .ref (G.1 170)), (4, .int (nI i))] → W p l e room_1 s m args below meth c H locs (cells + 5) (slots + 30) Q (F0 m 2538 ls [])) : ∀ (H : Heap) (locs : List Loc) (ls : Array Slot), LSt G (wLw G gc gm ov) A s.heap H locs → lv_has ls 7 [(0, .ref b), (1, .ref (G.1 160)), (2, .ref ((shG G).1 0)), (3, .ref (G.1 170)), (4, .int (nI i))] → W p l e room_1 s m args below meth c H locs cells slots Q (F0 m 1247 ls []) := by
  have hx := X.1
  have hb := X.2.1
  intro H locs ls Z hl
  refine lv_aload_n hx hb dL_law_1247 rfl (lv_at hl 1 rfl) ?_
  refine lv_aload_n hx hb dL_law_1248 rfl (lv_at hl 0 rfl) ?_
  refine lv_iload hx hb dL_law_1249 (lv_at hl 4 rfl) ?_
  refine lv_iconst (v := 1) hx hb dL_law_1251 (by decide) ?_
  refine lv_iadd hx hb dL_law_1252 ?_
  refine l_sld hx hb hX hbl hbA Z.2.2 hb1 ha1 dL_law_1253 ?_
  refine lv_aload_n hx hb dL_law_1254 rfl (lv_at hl 3 rfl) ?_
  rw [← wLw_w] at Z
  refine l_callW (n := 3) (As := [.ref (G.1 160), .int x1, .ref (G.1 170)]) (rest := []) (c1 := cells + 1) (s1 := slots + 6) X Z (adCo G gc _ ov _) hw (gooS mB1184 mB1185 mB1084 mB996) rfl (by decide +kernel) rfl ⟨Nat.le_of_ble_eq_true rfl, Nat.le_of_ble_eq_true rfl⟩ rfl rfl ⟨Nat.le_trans (Nat.add_le_add_left (Nat.le_of_ble_eq_true rfl) _) hcs.1, Nat.le_trans (Nat.add_le_add_left (Nat.le_of_ble_eq_true rfl) _) hcs.2⟩ hl.1 rfl (Nat.le_of_ble_eq_true rfl) dL_law_1255 (fun H locs Z => ?_)
  rw [wLw_w] at Z
  refine lv_istore (lv' := [(5, .int (nI k)), (0, .ref b), (1, .ref (G.1 160)), (2, .ref ((shG G).1 0)), (3, .ref (G.1 170)), (4, .int (nI i))]) hx hb dL_law_1258 hl (by decide) rfl (fun ls hl => ?_)
  refine lv_aload_n hx hb dL_law_1260 rfl (lv_at hl 3 rfl) ?_
  refine lv_aload_n hx hb dL_law_1261 rfl (lv_at hl 1 rfl) ?_
  refine lv_iload hx hb dL_law_1262 (lv_at hl 5 rfl) ?_
  refine lv_iconst (v := 1) hx hb dL_law_1264 (by decide) ?_
  refine lv_iadd hx hb dL_law_1265 ?_
  refine l_sld hx hb hX hbl hbA Z.2.2 hb1 ha1 dL_law_1266 ?_
  rw [← wLw_m] at Z
  refine l_callI (n := 1) (As := [.int x1]) (rest := []) sameM adM (sG_sh G) X Z (cX7_earliest_c l hm) oX7 rfl (gooV mB1186 mB1187 mB1188 mB614 mB860) rfl (by decide +kernel) rfl ⟨Nat.le_of_ble_eq_true rfl, Nat.le_of_ble_eq_true rfl⟩ ⟨Nat.le_trans (Nat.add_le_add_left (Nat.le_of_ble_eq_true rfl) _) hcs.1, Nat.le_trans (Nat.add_le_add_left (Nat.le_of_ble_eq_true rfl) _) hcs.2⟩ hl.1 rfl (Nat.le_of_ble_eq_true rfl) dL_law_1267 (fun w9 H locs Z => ?_)
  rw [wLw_m] at Z
  refine lv_istore (lv' := [(6, .int q.1), (5, .int (nI k)), (0, .ref b), (1, .ref (G.1 160)), (2, .ref ((shG G).1 0)), (3, .ref (G.1 170)), (4, .int (nI i))]) hx hb dL_law_1270 hl (by decide) rfl (fun ls hl => ?_)
  refine lv_aload_n hx hb dL_law_1272 rfl (lv_at hl 4 rfl) ?_
  rw [← wLw_m] at Z
  refine l_callI (n := 0) (As := []) (rest := []) sameM adM (sG_sh G) X Z (cX7_thrown_c l (show sX7_thrown _ = some _ from rfl)) oX7 rfl (gooV mB1088 mB1089 mB1090 mB614 mB607) rfl (by decide +kernel) rfl ⟨Nat.le_of_ble_eq_true rfl, Nat.le_of_ble_eq_true rfl⟩ ⟨Nat.le_trans (Nat.add_le_add_left (Nat.le_of_ble_eq_true rfl) _) hcs.1, Nat.le_trans (Nat.add_le_add_left (Nat.le_of_ble_eq_true rfl) _) hcs.2⟩ hl.1 rfl (Nat.le_of_ble_eq_true rfl) dL_law_1273 (fun w9 H locs Z => ?_)
  rw [wLw_m] at Z
  refine lv_iload hx hb dL_law_1276 (lv_at hl 1 rfl) ?_
  refine lv_icmp_eq (tgt := 1283) hx hb dL_law_1278 (by decide) (fun cz => ?_) (fun cz => absurd hth cz)
  refine lv_iload hx hb dL_law_1283 (lv_at hl 1 rfl) ?_
  refine lv_if_ne (tgt := 1300) hx hb dL_law_1285 (by decide) (fun cz => ?_) (fun cz => ?_)
  · skip
    refine lv_goto (tgt := 2538) hx hb dL_law_1300 (by decide) ?_
    refine W.widen (k := cells + 5) (n := slots + 30) (Nat.add_le_add_left (Nat.le_of_ble_eq_true rfl) _) (Nat.add_le_add_left (Nat.le_of_ble_eq_true rfl) _) ?_
    exact kk H locs ls Z (lv_sub hl [2, 3, 4, 5, 6] rfl)
  have hk0 : k = 0 := nI_inj0 hk4 cz
  have hv := hv hk0
  refine lv_aload_n hx hb dL_law_1288 rfl (lv_at hl 5 rfl) ?_
  refine lv_iconst (v := 0) hx hb dL_law_1289 (by decide) ?_
  refine l_lald X Z dL_law_1290 ?_
  refine lv_iload hx hb dL_law_1291 (lv_at hl 0 rfl) ?_
  refine lv_i2l hx hb dL_law_1293 rfl ?_
  refine W.lcmp hx hb dL_law_1294 ?_
  refine lv_if_eq (tgt := 1300) hx hb dL_law_1295 (by decide) (fun cy => ?_) (fun cy => absurd (by rw [hv]; exact lcmp_self _) cy)
  refine lv_goto (tgt := 2538) hx hb dL_law_1300 (by decide) ?_
  refine W.widen (k := cells + 5) (n := slots + 30) (Nat.add_le_add_left (Nat.le_of_ble_eq_true rfl) _) (Nat.add_le_add_left (Nat.le_of_ble_eq_true rfl) _) ?_
  exact kk H locs ls Z (lv_sub hl [2, 3, 4, 5, 6] rfl)
set_option maxHeartbeats 4000000 in
set_option maxRecDepth 100000 in
theorem law_latest {gc gm : Mem} {ov : Nat → Int64} {x1 : Int32} (X : gC p s m args meth c cL_law 7 (Cond.initialized RX6 :: wA0) RL ret G A) (hX : va_X b L xs s s.heap) (hbl : b < s.heap.size) (hbA : ¬ A b) (hb1 : vp_in (nI i + 1) L) (ha1 : xs (nI i + 1).toNatClampNeg = x1) {gc1 : Mem} {ov1 : Nat → Int64} {k : Nat} (hk4 : k < 4) (hw : cLw l yL_latest wmL_latest 8 132 1 6 G [.ref (G.1 160), .int x1, .ref (G.1 170)] (wC G gc ++ [oE G ov]) (wC G gc1 ++ [oE G ov1]) k) {q : Int32 × Mem} (hm : sX7_latest gm x1 = some q) (hth : q.2 0 7 = nI k) (hv : k = 0 → ov1 (0 : Int32).toNatClampNeg = q.1.toInt64) (hcs : cells + 5 ≤ room_1.cells ∧ slots + 30 ≤ room_1.slots) (kk : ∀ (H : Heap) (locs : List Loc) (ls : Array Slot), LSt G (wLw G gc1 q.2 ov1) A s.heap H locs → lv_has ls 7 [(0, .ref b), (1, .ref (G.1 160)), (2, .ref ((shG G).1 0)), (3, .ref (G.1 170)), (4, .int (nI i))] → W p l e room_1 s m args below meth c H locs (cells + 5) (slots + 30) Q (F0 m 2538 ls [])) : ∀ (H : Heap) (locs : List Loc) (ls : Array Slot), LSt G (wLw G gc gm ov) A s.heap H locs → lv_has ls 7 [(0, .ref b), (1, .ref (G.1 160)), (2, .ref ((shG G).1 0)), (3, .ref (G.1 170)), (4, .int (nI i))] → W p l e room_1 s m args below meth c H locs cells slots Q (F0 m 1303 ls []) := by
  have hx := X.1
  have hb := X.2.1
  intro H locs ls Z hl
  refine lv_aload_n hx hb dL_law_1303 rfl (lv_at hl 1 rfl) ?_
  refine lv_aload_n hx hb dL_law_1304 rfl (lv_at hl 0 rfl) ?_
  refine lv_iload hx hb dL_law_1305 (lv_at hl 4 rfl) ?_
  refine lv_iconst (v := 1) hx hb dL_law_1307 (by decide) ?_
  refine lv_iadd hx hb dL_law_1308 ?_
  refine l_sld hx hb hX hbl hbA Z.2.2 hb1 ha1 dL_law_1309 ?_
  refine lv_aload_n hx hb dL_law_1310 rfl (lv_at hl 3 rfl) ?_
  rw [← wLw_w] at Z
  refine l_callW (n := 3) (As := [.ref (G.1 160), .int x1, .ref (G.1 170)]) (rest := []) (c1 := cells + 1) (s1 := slots + 6) X Z (adCo G gc _ ov _) hw (gooS mB1189 mB1190 mB1084 mB1000) rfl (by decide +kernel) rfl ⟨Nat.le_of_ble_eq_true rfl, Nat.le_of_ble_eq_true rfl⟩ rfl rfl ⟨Nat.le_trans (Nat.add_le_add_left (Nat.le_of_ble_eq_true rfl) _) hcs.1, Nat.le_trans (Nat.add_le_add_left (Nat.le_of_ble_eq_true rfl) _) hcs.2⟩ hl.1 rfl (Nat.le_of_ble_eq_true rfl) dL_law_1311 (fun H locs Z => ?_)
  rw [wLw_w] at Z
  refine lv_istore (lv' := [(5, .int (nI k)), (0, .ref b), (1, .ref (G.1 160)), (2, .ref ((shG G).1 0)), (3, .ref (G.1 170)), (4, .int (nI i))]) hx hb dL_law_1314 hl (by decide) rfl (fun ls hl => ?_)
  refine lv_aload_n hx hb dL_law_1316 rfl (lv_at hl 3 rfl) ?_
  refine lv_aload_n hx hb dL_law_1317 rfl (lv_at hl 1 rfl) ?_
  refine lv_iload hx hb dL_law_1318 (lv_at hl 5 rfl) ?_
  refine lv_iconst (v := 1) hx hb dL_law_1320 (by decide) ?_
  refine lv_iadd hx hb dL_law_1321 ?_
  refine l_sld hx hb hX hbl hbA Z.2.2 hb1 ha1 dL_law_1322 ?_
  rw [← wLw_m] at Z
  refine l_callI (n := 1) (As := [.int x1]) (rest := []) sameM adM (sG_sh G) X Z (cX7_latest_c l hm) oX7 rfl (gooV mB1191 mB1192 mB1193 mB614 mB861) rfl (by decide +kernel) rfl ⟨Nat.le_of_ble_eq_true rfl, Nat.le_of_ble_eq_true rfl⟩ ⟨Nat.le_trans (Nat.add_le_add_left (Nat.le_of_ble_eq_true rfl) _) hcs.1, Nat.le_trans (Nat.add_le_add_left (Nat.le_of_ble_eq_true rfl) _) hcs.2⟩ hl.1 rfl (Nat.le_of_ble_eq_true rfl) dL_law_1323 (fun w9 H locs Z => ?_)
  rw [wLw_m] at Z
  refine lv_istore (lv' := [(6, .int q.1), (5, .int (nI k)), (0, .ref b), (1, .ref (G.1 160)), (2, .ref ((shG G).1 0)), (3, .ref (G.1 170)), (4, .int (nI i))]) hx hb dL_law_1326 hl (by decide) rfl (fun ls hl => ?_)
  refine lv_aload_n hx hb dL_law_1328 rfl (lv_at hl 4 rfl) ?_
  rw [← wLw_m] at Z
  refine l_callI (n := 0) (As := []) (rest := []) sameM adM (sG_sh G) X Z (cX7_thrown_c l (show sX7_thrown _ = some _ from rfl)) oX7 rfl (gooV mB1088 mB1089 mB1090 mB614 mB607) rfl (by decide +kernel) rfl ⟨Nat.le_of_ble_eq_true rfl, Nat.le_of_ble_eq_true rfl⟩ ⟨Nat.le_trans (Nat.add_le_add_left (Nat.le_of_ble_eq_true rfl) _) hcs.1, Nat.le_trans (Nat.add_le_add_left (Nat.le_of_ble_eq_true rfl) _) hcs.2⟩ hl.1 rfl (Nat.le_of_ble_eq_true rfl) dL_law_1329 (fun w9 H locs Z => ?_)
  rw [wLw_m] at Z
  refine lv_iload hx hb dL_law_1332 (lv_at hl 1 rfl) ?_
  refine lv_icmp_eq (tgt := 1339) hx hb dL_law_1334 (by decide) (fun cz => ?_) (fun cz => absurd hth cz)
  refine lv_iload hx hb dL_law_1339 (lv_at hl 1 rfl) ?_
  refine lv_if_ne (tgt := 1356) hx hb dL_law_1341 (by decide) (fun cz => ?_) (fun cz => ?_)
  · skip
    refine lv_goto (tgt := 2538) hx hb dL_law_1356 (by decide) ?_
    refine W.widen (k := cells + 5) (n := slots + 30) (Nat.add_le_add_left (Nat.le_of_ble_eq_true rfl) _) (Nat.add_le_add_left (Nat.le_of_ble_eq_true rfl) _) ?_
    exact kk H locs ls Z (lv_sub hl [2, 3, 4, 5, 6] rfl)
  have hk0 : k = 0 := nI_inj0 hk4 cz
  have hv := hv hk0
  refine lv_aload_n hx hb dL_law_1344 rfl (lv_at hl 5 rfl) ?_
  refine lv_iconst (v := 0) hx hb dL_law_1345 (by decide) ?_
  refine l_lald X Z dL_law_1346 ?_
  refine lv_iload hx hb dL_law_1347 (lv_at hl 0 rfl) ?_
  refine lv_i2l hx hb dL_law_1349 rfl ?_
  refine W.lcmp hx hb dL_law_1350 ?_
  refine lv_if_eq (tgt := 1356) hx hb dL_law_1351 (by decide) (fun cy => ?_) (fun cy => absurd (by rw [hv]; exact lcmp_self _) cy)
  refine lv_goto (tgt := 2538) hx hb dL_law_1356 (by decide) ?_
  refine W.widen (k := cells + 5) (n := slots + 30) (Nat.add_le_add_left (Nat.le_of_ble_eq_true rfl) _) (Nat.add_le_add_left (Nat.le_of_ble_eq_true rfl) _) ?_
  exact kk H locs ls Z (lv_sub hl [2, 3, 4, 5, 6] rfl)
set_option maxHeartbeats 4000000 in
set_option maxRecDepth 100000 in
theorem law_isSound {gc gm : Mem} {ov : Nat → Int64} {x1 : Int32} (X : gC p s m args meth c cL_law 7 (Cond.initialized RX6 :: wA0) RL ret G A) (hX : va_X b L xs s s.heap) (hbl : b < s.heap.size) (hbA : ¬ A b) (hb1 : vp_in (nI i + 1) L) (ha1 : xs (nI i + 1).toNatClampNeg = x1) {gc1 : Mem} {ov1 : Nat → Int64} {k : Nat} (hk4 : k < 4) (hw : cLw l yL_isSound wmL_isSound 8 132 1 6 G [.ref (G.1 160), .int x1, .ref (G.1 170)] (wC G gc ++ [oE G ov]) (wC G gc1 ++ [oE G ov1]) k) {q : Int32 × Mem} (hm : sX7_isSound gm x1 = some q) (hth : q.2 0 7 = nI k) (hv : k = 0 → ov1 (0 : Int32).toNatClampNeg = (if q.1 = 0 then 0 else 1)) (hcs : cells + 5 ≤ room_1.cells ∧ slots + 30 ≤ room_1.slots) (kk : ∀ (H : Heap) (locs : List Loc) (ls : Array Slot), LSt G (wLw G gc1 q.2 ov1) A s.heap H locs → lv_has ls 7 [(0, .ref b), (1, .ref (G.1 160)), (2, .ref ((shG G).1 0)), (3, .ref (G.1 170)), (4, .int (nI i))] → W p l e room_1 s m args below meth c H locs (cells + 5) (slots + 30) Q (F0 m 2538 ls [])) : ∀ (H : Heap) (locs : List Loc) (ls : Array Slot), LSt G (wLw G gc gm ov) A s.heap H locs → lv_has ls 7 [(0, .ref b), (1, .ref (G.1 160)), (2, .ref ((shG G).1 0)), (3, .ref (G.1 170)), (4, .int (nI i))] → W p l e room_1 s m args below meth c H locs cells slots Q (F0 m 1359 ls []) := by
  have hx := X.1
  have hb := X.2.1
  intro H locs ls Z hl
  refine lv_aload_n hx hb dL_law_1359 rfl (lv_at hl 1 rfl) ?_
  refine lv_aload_n hx hb dL_law_1360 rfl (lv_at hl 0 rfl) ?_
  refine lv_iload hx hb dL_law_1361 (lv_at hl 4 rfl) ?_
  refine lv_iconst (v := 1) hx hb dL_law_1363 (by decide) ?_
  refine lv_iadd hx hb dL_law_1364 ?_
  refine l_sld hx hb hX hbl hbA Z.2.2 hb1 ha1 dL_law_1365 ?_
  refine lv_aload_n hx hb dL_law_1366 rfl (lv_at hl 3 rfl) ?_
  rw [← wLw_w] at Z
  refine l_callW (n := 3) (As := [.ref (G.1 160), .int x1, .ref (G.1 170)]) (rest := []) (c1 := cells + 1) (s1 := slots + 6) X Z (adCo G gc _ ov _) hw (gooS mB1194 mB1195 mB1084 mB1004) rfl (by decide +kernel) rfl ⟨Nat.le_of_ble_eq_true rfl, Nat.le_of_ble_eq_true rfl⟩ rfl rfl ⟨Nat.le_trans (Nat.add_le_add_left (Nat.le_of_ble_eq_true rfl) _) hcs.1, Nat.le_trans (Nat.add_le_add_left (Nat.le_of_ble_eq_true rfl) _) hcs.2⟩ hl.1 rfl (Nat.le_of_ble_eq_true rfl) dL_law_1367 (fun H locs Z => ?_)
  rw [wLw_w] at Z
  refine lv_istore (lv' := [(5, .int (nI k)), (0, .ref b), (1, .ref (G.1 160)), (2, .ref ((shG G).1 0)), (3, .ref (G.1 170)), (4, .int (nI i))]) hx hb dL_law_1370 hl (by decide) rfl (fun ls hl => ?_)
  refine lv_aload_n hx hb dL_law_1372 rfl (lv_at hl 3 rfl) ?_
  refine lv_aload_n hx hb dL_law_1373 rfl (lv_at hl 1 rfl) ?_
  refine lv_iload hx hb dL_law_1374 (lv_at hl 5 rfl) ?_
  refine lv_iconst (v := 1) hx hb dL_law_1376 (by decide) ?_
  refine lv_iadd hx hb dL_law_1377 ?_
  refine l_sld hx hb hX hbl hbA Z.2.2 hb1 ha1 dL_law_1378 ?_
  rw [← wLw_m] at Z
  refine l_callI (n := 1) (As := [.int x1]) (rest := []) sameM adM (sG_sh G) X Z (cX7_isSound_c l hm) oX7 rfl (gooV mB1196 mB1197 mB1198 mB614 mB862) rfl (by decide +kernel) rfl ⟨Nat.le_of_ble_eq_true rfl, Nat.le_of_ble_eq_true rfl⟩ ⟨Nat.le_trans (Nat.add_le_add_left (Nat.le_of_ble_eq_true rfl) _) hcs.1, Nat.le_trans (Nat.add_le_add_left (Nat.le_of_ble_eq_true rfl) _) hcs.2⟩ hl.1 rfl (Nat.le_of_ble_eq_true rfl) dL_law_1379 (fun w9 H locs Z => ?_)
  rw [wLw_m] at Z
  refine lv_istore (lv' := [(6, .int q.1), (5, .int (nI k)), (0, .ref b), (1, .ref (G.1 160)), (2, .ref ((shG G).1 0)), (3, .ref (G.1 170)), (4, .int (nI i))]) hx hb dL_law_1382 hl (by decide) rfl (fun ls hl => ?_)
  refine lv_aload_n hx hb dL_law_1384 rfl (lv_at hl 4 rfl) ?_
  rw [← wLw_m] at Z
  refine l_callI (n := 0) (As := []) (rest := []) sameM adM (sG_sh G) X Z (cX7_thrown_c l (show sX7_thrown _ = some _ from rfl)) oX7 rfl (gooV mB1088 mB1089 mB1090 mB614 mB607) rfl (by decide +kernel) rfl ⟨Nat.le_of_ble_eq_true rfl, Nat.le_of_ble_eq_true rfl⟩ ⟨Nat.le_trans (Nat.add_le_add_left (Nat.le_of_ble_eq_true rfl) _) hcs.1, Nat.le_trans (Nat.add_le_add_left (Nat.le_of_ble_eq_true rfl) _) hcs.2⟩ hl.1 rfl (Nat.le_of_ble_eq_true rfl) dL_law_1385 (fun w9 H locs Z => ?_)
  rw [wLw_m] at Z
  refine lv_iload hx hb dL_law_1388 (lv_at hl 1 rfl) ?_
  refine lv_icmp_eq (tgt := 1395) hx hb dL_law_1390 (by decide) (fun cz => ?_) (fun cz => absurd hth cz)
  refine lv_iload hx hb dL_law_1395 (lv_at hl 1 rfl) ?_
  refine lv_if_ne (tgt := 1419) hx hb dL_law_1397 (by decide) (fun cz => ?_) (fun cz => ?_)
  · skip
    refine lv_goto (tgt := 2538) hx hb dL_law_1419 (by decide) ?_
    refine W.widen (k := cells + 5) (n := slots + 30) (Nat.add_le_add_left (Nat.le_of_ble_eq_true rfl) _) (Nat.add_le_add_left (Nat.le_of_ble_eq_true rfl) _) ?_
    exact kk H locs ls Z (lv_sub hl [2, 3, 4, 5, 6] rfl)
  have hk0 : k = 0 := nI_inj0 hk4 cz
  have hv := hv hk0
  refine lv_aload_n hx hb dL_law_1400 rfl (lv_at hl 5 rfl) ?_
  refine lv_iconst (v := 0) hx hb dL_law_1401 (by decide) ?_
  refine l_lald X Z dL_law_1402 ?_
  refine lv_iload hx hb dL_law_1403 (lv_at hl 0 rfl) ?_
  refine lv_if_eq (tgt := 1412) hx hb dL_law_1405 (by decide) (fun cb => ?_) (fun cb => ?_)
  · skip
    refine lv_lconst (v := 0) hx hb dL_law_1412 (by decide) ?_
    refine W.lcmp hx hb dL_law_1413 ?_
    refine lv_if_eq (tgt := 1419) hx hb dL_law_1414 (by decide) (fun cy => ?_) (fun cy => absurd (by rw [hv, if_pos cb]; exact lcmp_self _) cy)
    refine lv_goto (tgt := 2538) hx hb dL_law_1419 (by decide) ?_
    refine W.widen (k := cells + 5) (n := slots + 30) (Nat.add_le_add_left (Nat.le_of_ble_eq_true rfl) _) (Nat.add_le_add_left (Nat.le_of_ble_eq_true rfl) _) ?_
    exact kk H locs ls Z (lv_sub hl [2, 3, 4, 5, 6] rfl)
  · skip
    refine lv_lconst (v := 1) hx hb dL_law_1408 (by decide) ?_
    refine lv_goto (tgt := 1413) hx hb dL_law_1409 (by decide) ?_
    refine W.lcmp hx hb dL_law_1413 ?_
    refine lv_if_eq (tgt := 1419) hx hb dL_law_1414 (by decide) (fun cy => ?_) (fun cy => absurd (by rw [hv, if_neg cb]; exact lcmp_self _) cy)
    refine lv_goto (tgt := 2538) hx hb dL_law_1419 (by decide) ?_
    refine W.widen (k := cells + 5) (n := slots + 30) (Nat.add_le_add_left (Nat.le_of_ble_eq_true rfl) _) (Nat.add_le_add_left (Nat.le_of_ble_eq_true rfl) _) ?_
    exact kk H locs ls Z (lv_sub hl [2, 3, 4, 5, 6] rfl)
set_option maxHeartbeats 4000000 in
set_option maxRecDepth 100000 in
theorem law_nextTimestamp {gc gm : Mem} {ov : Nat → Int64} {x1 : Int32} (X : gC p s m args meth c cL_law 7 (Cond.initialized RX6 :: wA0) RL ret G A) (hX : va_X b L xs s s.heap) (hbl : b < s.heap.size) (hbA : ¬ A b) (hb1 : vp_in (nI i + 1) L) (ha1 : xs (nI i + 1).toNatClampNeg = x1) {gc1 : Mem} {ov1 : Nat → Int64} {k : Nat} (hk4 : k < 4) (hw : cLw l yL_nextTimestamp wmL_nextTimestamp 8 132 1 6 G [.ref (G.1 160), .int x1, .ref (G.1 170)] (wC G gc ++ [oE G ov]) (wC G gc1 ++ [oE G ov1]) k) {q : Int32 × Mem} (hm : sX7_nextTimestamp gm x1 = some q) (hth : q.2 0 7 = nI k) (hv : k = 0 → ov1 (0 : Int32).toNatClampNeg = q.1.toInt64) (hcs : cells + 5 ≤ room_1.cells ∧ slots + 30 ≤ room_1.slots) (kk : ∀ (H : Heap) (locs : List Loc) (ls : Array Slot), LSt G (wLw G gc1 q.2 ov1) A s.heap H locs → lv_has ls 7 [(0, .ref b), (1, .ref (G.1 160)), (2, .ref ((shG G).1 0)), (3, .ref (G.1 170)), (4, .int (nI i))] → W p l e room_1 s m args below meth c H locs (cells + 5) (slots + 30) Q (F0 m 2538 ls [])) : ∀ (H : Heap) (locs : List Loc) (ls : Array Slot), LSt G (wLw G gc gm ov) A s.heap H locs → lv_has ls 7 [(0, .ref b), (1, .ref (G.1 160)), (2, .ref ((shG G).1 0)), (3, .ref (G.1 170)), (4, .int (nI i))] → W p l e room_1 s m args below meth c H locs cells slots Q (F0 m 1422 ls []) := by
  have hx := X.1
  have hb := X.2.1
  intro H locs ls Z hl
  refine lv_aload_n hx hb dL_law_1422 rfl (lv_at hl 1 rfl) ?_
  refine lv_aload_n hx hb dL_law_1423 rfl (lv_at hl 0 rfl) ?_
  refine lv_iload hx hb dL_law_1424 (lv_at hl 4 rfl) ?_
  refine lv_iconst (v := 1) hx hb dL_law_1426 (by decide) ?_
  refine lv_iadd hx hb dL_law_1427 ?_
  refine l_sld hx hb hX hbl hbA Z.2.2 hb1 ha1 dL_law_1428 ?_
  refine lv_aload_n hx hb dL_law_1429 rfl (lv_at hl 3 rfl) ?_
  rw [← wLw_w] at Z
  refine l_callW (n := 3) (As := [.ref (G.1 160), .int x1, .ref (G.1 170)]) (rest := []) (c1 := cells + 1) (s1 := slots + 6) X Z (adCo G gc _ ov _) hw (gooS mB1199 mB1200 mB1084 mB1008) rfl (by decide +kernel) rfl ⟨Nat.le_of_ble_eq_true rfl, Nat.le_of_ble_eq_true rfl⟩ rfl rfl ⟨Nat.le_trans (Nat.add_le_add_left (Nat.le_of_ble_eq_true rfl) _) hcs.1, Nat.le_trans (Nat.add_le_add_left (Nat.le_of_ble_eq_true rfl) _) hcs.2⟩ hl.1 rfl (Nat.le_of_ble_eq_true rfl) dL_law_1430 (fun H locs Z => ?_)
  rw [wLw_w] at Z
  refine lv_istore (lv' := [(5, .int (nI k)), (0, .ref b), (1, .ref (G.1 160)), (2, .ref ((shG G).1 0)), (3, .ref (G.1 170)), (4, .int (nI i))]) hx hb dL_law_1433 hl (by decide) rfl (fun ls hl => ?_)
  refine lv_aload_n hx hb dL_law_1435 rfl (lv_at hl 3 rfl) ?_
  refine lv_aload_n hx hb dL_law_1436 rfl (lv_at hl 1 rfl) ?_
  refine lv_iload hx hb dL_law_1437 (lv_at hl 5 rfl) ?_
  refine lv_iconst (v := 1) hx hb dL_law_1439 (by decide) ?_
  refine lv_iadd hx hb dL_law_1440 ?_
  refine l_sld hx hb hX hbl hbA Z.2.2 hb1 ha1 dL_law_1441 ?_
  rw [← wLw_m] at Z
  refine l_callI (n := 1) (As := [.int x1]) (rest := []) sameM adM (sG_sh G) X Z (cX7_nextTimestamp_c l hm) oX7 rfl (gooV mB1201 mB1202 mB1203 mB614 mB863) rfl (by decide +kernel) rfl ⟨Nat.le_of_ble_eq_true rfl, Nat.le_of_ble_eq_true rfl⟩ ⟨Nat.le_trans (Nat.add_le_add_left (Nat.le_of_ble_eq_true rfl) _) hcs.1, Nat.le_trans (Nat.add_le_add_left (Nat.le_of_ble_eq_true rfl) _) hcs.2⟩ hl.1 rfl (Nat.le_of_ble_eq_true rfl) dL_law_1442 (fun w9 H locs Z => ?_)
  rw [wLw_m] at Z
  refine lv_istore (lv' := [(6, .int q.1), (5, .int (nI k)), (0, .ref b), (1, .ref (G.1 160)), (2, .ref ((shG G).1 0)), (3, .ref (G.1 170)), (4, .int (nI i))]) hx hb dL_law_1445 hl (by decide) rfl (fun ls hl => ?_)
  refine lv_aload_n hx hb dL_law_1447 rfl (lv_at hl 4 rfl) ?_
  rw [← wLw_m] at Z
  refine l_callI (n := 0) (As := []) (rest := []) sameM adM (sG_sh G) X Z (cX7_thrown_c l (show sX7_thrown _ = some _ from rfl)) oX7 rfl (gooV mB1088 mB1089 mB1090 mB614 mB607) rfl (by decide +kernel) rfl ⟨Nat.le_of_ble_eq_true rfl, Nat.le_of_ble_eq_true rfl⟩ ⟨Nat.le_trans (Nat.add_le_add_left (Nat.le_of_ble_eq_true rfl) _) hcs.1, Nat.le_trans (Nat.add_le_add_left (Nat.le_of_ble_eq_true rfl) _) hcs.2⟩ hl.1 rfl (Nat.le_of_ble_eq_true rfl) dL_law_1448 (fun w9 H locs Z => ?_)
  rw [wLw_m] at Z
  refine lv_iload hx hb dL_law_1451 (lv_at hl 1 rfl) ?_
  refine lv_icmp_eq (tgt := 1458) hx hb dL_law_1453 (by decide) (fun cz => ?_) (fun cz => absurd hth cz)
  refine lv_iload hx hb dL_law_1458 (lv_at hl 1 rfl) ?_
  refine lv_if_ne (tgt := 1475) hx hb dL_law_1460 (by decide) (fun cz => ?_) (fun cz => ?_)
  · skip
    refine lv_goto (tgt := 2538) hx hb dL_law_1475 (by decide) ?_
    refine W.widen (k := cells + 5) (n := slots + 30) (Nat.add_le_add_left (Nat.le_of_ble_eq_true rfl) _) (Nat.add_le_add_left (Nat.le_of_ble_eq_true rfl) _) ?_
    exact kk H locs ls Z (lv_sub hl [2, 3, 4, 5, 6] rfl)
  have hk0 : k = 0 := nI_inj0 hk4 cz
  have hv := hv hk0
  refine lv_aload_n hx hb dL_law_1463 rfl (lv_at hl 5 rfl) ?_
  refine lv_iconst (v := 0) hx hb dL_law_1464 (by decide) ?_
  refine l_lald X Z dL_law_1465 ?_
  refine lv_iload hx hb dL_law_1466 (lv_at hl 0 rfl) ?_
  refine lv_i2l hx hb dL_law_1468 rfl ?_
  refine W.lcmp hx hb dL_law_1469 ?_
  refine lv_if_eq (tgt := 1475) hx hb dL_law_1470 (by decide) (fun cy => ?_) (fun cy => absurd (by rw [hv]; exact lcmp_self _) cy)
  refine lv_goto (tgt := 2538) hx hb dL_law_1475 (by decide) ?_
  refine W.widen (k := cells + 5) (n := slots + 30) (Nat.add_le_add_left (Nat.le_of_ble_eq_true rfl) _) (Nat.add_le_add_left (Nat.le_of_ble_eq_true rfl) _) ?_
  exact kk H locs ls Z (lv_sub hl [2, 3, 4, 5, 6] rfl)
set_option maxHeartbeats 4000000 in
set_option maxRecDepth 100000 in
theorem law_transactions {gc gm : Mem} {ov : Nat → Int64} (X : gC p s m args meth c cL_law 7 (Cond.initialized RX6 :: wA0) RL ret G A) (hX : va_X b L xs s s.heap) (hbl : b < s.heap.size) (hbA : ¬ A b) {r : Int32} (hc : sX6_transactions gc = some r) {q : Int32 × Mem} (hm : sX7_transactions gm = some q) (hv : r = q.1) (hcs : cells + 5 ≤ room_1.cells ∧ slots + 30 ≤ room_1.slots) (kk : ∀ (H : Heap) (locs : List Loc) (ls : Array Slot), LSt G (wLw G gc q.2 ov) A s.heap H locs → lv_has ls 7 [(0, .ref b), (1, .ref (G.1 160)), (2, .ref ((shG G).1 0)), (3, .ref (G.1 170)), (4, .int (nI i))] → W p l e room_1 s m args below meth c H locs (cells + 5) (slots + 30) Q (F0 m 2538 ls [])) : ∀ (H : Heap) (locs : List Loc) (ls : Array Slot), LSt G (wLw G gc gm ov) A s.heap H locs → lv_has ls 7 [(0, .ref b), (1, .ref (G.1 160)), (2, .ref ((shG G).1 0)), (3, .ref (G.1 170)), (4, .int (nI i))] → W p l e room_1 s m args below meth c H locs cells slots Q (F0 m 1478 ls []) := by
  have hx := X.1
  have hb := X.2.1
  intro H locs ls Z hl
  refine lv_aload_n hx hb dL_law_1478 rfl (lv_at hl 1 rfl) ?_
  rw [← wLw_c] at Z
  refine l_callI (n := 0) (As := []) (rest := []) sameC adC (sG_r G) X Z (cX6_transactions_c l hc) (oX6 k160) rfl (gooV mB1204 mB1205 mB1206 mB409 mB547) rfl (by decide +kernel) rfl ⟨Nat.le_of_ble_eq_true rfl, Nat.le_of_ble_eq_true rfl⟩ ⟨Nat.le_trans (Nat.le_add_right _ _) hcs.1, Nat.le_trans (Nat.le_add_right _ _) hcs.2⟩ hl.1 rfl (Nat.le_of_ble_eq_true rfl) dL_law_1479 (fun w9 H locs Z => ?_)
  rw [wLw_c] at Z
  refine lv_aload_n hx hb dL_law_1482 rfl (lv_at hl 2 rfl) ?_
  rw [← wLw_m] at Z
  refine l_callI (n := 0) (As := []) (rest := [.int r]) sameM adM (sG_sh G) X Z (cX7_transactions_c l hm) oX7 rfl (gooV mB1207 mB1208 mB1209 mB614 mB864) rfl (by decide +kernel) rfl ⟨Nat.le_of_ble_eq_true rfl, Nat.le_of_ble_eq_true rfl⟩ ⟨Nat.le_trans (Nat.le_add_right _ _) hcs.1, Nat.le_trans (Nat.le_add_right _ _) hcs.2⟩ hl.1 rfl (Nat.le_of_ble_eq_true rfl) dL_law_1483 (fun w9 H locs Z => ?_)
  rw [wLw_m] at Z
  refine lv_icmp_eq (tgt := 2538) hx hb dL_law_1486 (by decide) (fun cz => ?_) (fun cz => absurd hv cz)
  refine W.widen (k := cells + 5) (n := slots + 30) (Nat.le_add_right _ _) (Nat.le_add_right _ _) ?_
  exact kk H locs ls Z hl
set_option maxHeartbeats 4000000 in
set_option maxRecDepth 100000 in
theorem law_state {gc gm : Mem} {ov : Nat → Int64} {x1 : Int32} (X : gC p s m args meth c cL_law 7 (Cond.initialized RX6 :: wA0) RL ret G A) (hX : va_X b L xs s s.heap) (hbl : b < s.heap.size) (hbA : ¬ A b) (hb1 : vp_in (nI i + 1) L) (ha1 : xs (nI i + 1).toNatClampNeg = x1) {gc1 : Mem} {ov1 : Nat → Int64} {k : Nat} (hk4 : k < 4) (hw : cLw l yL_state wmL_state 8 132 1 6 G [.ref (G.1 160), .int x1, .ref (G.1 170)] (wC G gc ++ [oE G ov]) (wC G gc1 ++ [oE G ov1]) k) {q : Int32 × Mem} (hm : sX7_state gm x1 = some q) (hth : q.2 0 7 = nI k) (hv : k = 0 → ov1 (0 : Int32).toNatClampNeg = q.1.toInt64) (hcs : cells + 5 ≤ room_1.cells ∧ slots + 30 ≤ room_1.slots) (kk : ∀ (H : Heap) (locs : List Loc) (ls : Array Slot), LSt G (wLw G gc1 q.2 ov1) A s.heap H locs → lv_has ls 7 [(0, .ref b), (1, .ref (G.1 160)), (2, .ref ((shG G).1 0)), (3, .ref (G.1 170)), (4, .int (nI i))] → W p l e room_1 s m args below meth c H locs (cells + 5) (slots + 30) Q (F0 m 2538 ls [])) : ∀ (H : Heap) (locs : List Loc) (ls : Array Slot), LSt G (wLw G gc gm ov) A s.heap H locs → lv_has ls 7 [(0, .ref b), (1, .ref (G.1 160)), (2, .ref ((shG G).1 0)), (3, .ref (G.1 170)), (4, .int (nI i))] → W p l e room_1 s m args below meth c H locs cells slots Q (F0 m 1491 ls []) := by
  have hx := X.1
  have hb := X.2.1
  intro H locs ls Z hl
  refine lv_aload_n hx hb dL_law_1491 rfl (lv_at hl 1 rfl) ?_
  refine lv_aload_n hx hb dL_law_1492 rfl (lv_at hl 0 rfl) ?_
  refine lv_iload hx hb dL_law_1493 (lv_at hl 4 rfl) ?_
  refine lv_iconst (v := 1) hx hb dL_law_1495 (by decide) ?_
  refine lv_iadd hx hb dL_law_1496 ?_
  refine l_sld hx hb hX hbl hbA Z.2.2 hb1 ha1 dL_law_1497 ?_
  refine lv_aload_n hx hb dL_law_1498 rfl (lv_at hl 3 rfl) ?_
  rw [← wLw_w] at Z
  refine l_callW (n := 3) (As := [.ref (G.1 160), .int x1, .ref (G.1 170)]) (rest := []) (c1 := cells + 1) (s1 := slots + 6) X Z (adCo G gc _ ov _) hw (gooS mB1210 mB1211 mB1084 mB1009) rfl (by decide +kernel) rfl ⟨Nat.le_of_ble_eq_true rfl, Nat.le_of_ble_eq_true rfl⟩ rfl rfl ⟨Nat.le_trans (Nat.add_le_add_left (Nat.le_of_ble_eq_true rfl) _) hcs.1, Nat.le_trans (Nat.add_le_add_left (Nat.le_of_ble_eq_true rfl) _) hcs.2⟩ hl.1 rfl (Nat.le_of_ble_eq_true rfl) dL_law_1499 (fun H locs Z => ?_)
  rw [wLw_w] at Z
  refine lv_istore (lv' := [(5, .int (nI k)), (0, .ref b), (1, .ref (G.1 160)), (2, .ref ((shG G).1 0)), (3, .ref (G.1 170)), (4, .int (nI i))]) hx hb dL_law_1502 hl (by decide) rfl (fun ls hl => ?_)
  refine lv_aload_n hx hb dL_law_1504 rfl (lv_at hl 3 rfl) ?_
  refine lv_aload_n hx hb dL_law_1505 rfl (lv_at hl 1 rfl) ?_
  refine lv_iload hx hb dL_law_1506 (lv_at hl 5 rfl) ?_
  refine lv_iconst (v := 1) hx hb dL_law_1508 (by decide) ?_
  refine lv_iadd hx hb dL_law_1509 ?_
  refine l_sld hx hb hX hbl hbA Z.2.2 hb1 ha1 dL_law_1510 ?_
  rw [← wLw_m] at Z
  refine l_callI (n := 1) (As := [.int x1]) (rest := []) sameM adM (sG_sh G) X Z (cX7_state_c l hm) oX7 rfl (gooV mB1212 mB1213 mB1214 mB614 mB867) rfl (by decide +kernel) rfl ⟨Nat.le_of_ble_eq_true rfl, Nat.le_of_ble_eq_true rfl⟩ ⟨Nat.le_trans (Nat.add_le_add_left (Nat.le_of_ble_eq_true rfl) _) hcs.1, Nat.le_trans (Nat.add_le_add_left (Nat.le_of_ble_eq_true rfl) _) hcs.2⟩ hl.1 rfl (Nat.le_of_ble_eq_true rfl) dL_law_1511 (fun w9 H locs Z => ?_)
  rw [wLw_m] at Z
  refine lv_istore (lv' := [(6, .int q.1), (5, .int (nI k)), (0, .ref b), (1, .ref (G.1 160)), (2, .ref ((shG G).1 0)), (3, .ref (G.1 170)), (4, .int (nI i))]) hx hb dL_law_1514 hl (by decide) rfl (fun ls hl => ?_)
  refine lv_aload_n hx hb dL_law_1516 rfl (lv_at hl 4 rfl) ?_
  rw [← wLw_m] at Z
  refine l_callI (n := 0) (As := []) (rest := []) sameM adM (sG_sh G) X Z (cX7_thrown_c l (show sX7_thrown _ = some _ from rfl)) oX7 rfl (gooV mB1088 mB1089 mB1090 mB614 mB607) rfl (by decide +kernel) rfl ⟨Nat.le_of_ble_eq_true rfl, Nat.le_of_ble_eq_true rfl⟩ ⟨Nat.le_trans (Nat.add_le_add_left (Nat.le_of_ble_eq_true rfl) _) hcs.1, Nat.le_trans (Nat.add_le_add_left (Nat.le_of_ble_eq_true rfl) _) hcs.2⟩ hl.1 rfl (Nat.le_of_ble_eq_true rfl) dL_law_1517 (fun w9 H locs Z => ?_)
  rw [wLw_m] at Z
  refine lv_iload hx hb dL_law_1520 (lv_at hl 1 rfl) ?_
  refine lv_icmp_eq (tgt := 1527) hx hb dL_law_1522 (by decide) (fun cz => ?_) (fun cz => absurd hth cz)
  refine lv_iload hx hb dL_law_1527 (lv_at hl 1 rfl) ?_
  refine lv_if_ne (tgt := 1544) hx hb dL_law_1529 (by decide) (fun cz => ?_) (fun cz => ?_)
  · skip
    refine lv_goto (tgt := 2538) hx hb dL_law_1544 (by decide) ?_
    refine W.widen (k := cells + 5) (n := slots + 30) (Nat.add_le_add_left (Nat.le_of_ble_eq_true rfl) _) (Nat.add_le_add_left (Nat.le_of_ble_eq_true rfl) _) ?_
    exact kk H locs ls Z (lv_sub hl [2, 3, 4, 5, 6] rfl)
  have hk0 : k = 0 := nI_inj0 hk4 cz
  have hv := hv hk0
  refine lv_aload_n hx hb dL_law_1532 rfl (lv_at hl 5 rfl) ?_
  refine lv_iconst (v := 0) hx hb dL_law_1533 (by decide) ?_
  refine l_lald X Z dL_law_1534 ?_
  refine lv_iload hx hb dL_law_1535 (lv_at hl 0 rfl) ?_
  refine lv_i2l hx hb dL_law_1537 rfl ?_
  refine W.lcmp hx hb dL_law_1538 ?_
  refine lv_if_eq (tgt := 1544) hx hb dL_law_1539 (by decide) (fun cy => ?_) (fun cy => absurd (by rw [hv]; exact lcmp_self _) cy)
  refine lv_goto (tgt := 2538) hx hb dL_law_1544 (by decide) ?_
  refine W.widen (k := cells + 5) (n := slots + 30) (Nat.add_le_add_left (Nat.le_of_ble_eq_true rfl) _) (Nat.add_le_add_left (Nat.le_of_ble_eq_true rfl) _) ?_
  exact kk H locs ls Z (lv_sub hl [2, 3, 4, 5, 6] rfl)
set_option maxHeartbeats 4000000 in
set_option maxRecDepth 100000 in
theorem law_timestamp {gc gm : Mem} {ov : Nat → Int64} {x1 : Int32} (X : gC p s m args meth c cL_law 7 (Cond.initialized RX6 :: wA0) RL ret G A) (hX : va_X b L xs s s.heap) (hbl : b < s.heap.size) (hbA : ¬ A b) (hb1 : vp_in (nI i + 1) L) (ha1 : xs (nI i + 1).toNatClampNeg = x1) {gc1 : Mem} {ov1 : Nat → Int64} {k : Nat} (hk4 : k < 4) (hw : cLw l yL_timestamp wmL_timestamp 8 132 1 6 G [.ref (G.1 160), .int x1, .ref (G.1 170)] (wC G gc ++ [oE G ov]) (wC G gc1 ++ [oE G ov1]) k) {q : Int32 × Mem} (hm : sX7_timestamp gm x1 = some q) (hth : q.2 0 7 = nI k) (hv : k = 0 → ov1 (0 : Int32).toNatClampNeg = q.1.toInt64) (hcs : cells + 5 ≤ room_1.cells ∧ slots + 30 ≤ room_1.slots) (kk : ∀ (H : Heap) (locs : List Loc) (ls : Array Slot), LSt G (wLw G gc1 q.2 ov1) A s.heap H locs → lv_has ls 7 [(0, .ref b), (1, .ref (G.1 160)), (2, .ref ((shG G).1 0)), (3, .ref (G.1 170)), (4, .int (nI i))] → W p l e room_1 s m args below meth c H locs (cells + 5) (slots + 30) Q (F0 m 2538 ls [])) : ∀ (H : Heap) (locs : List Loc) (ls : Array Slot), LSt G (wLw G gc gm ov) A s.heap H locs → lv_has ls 7 [(0, .ref b), (1, .ref (G.1 160)), (2, .ref ((shG G).1 0)), (3, .ref (G.1 170)), (4, .int (nI i))] → W p l e room_1 s m args below meth c H locs cells slots Q (F0 m 1547 ls []) := by
  have hx := X.1
  have hb := X.2.1
  intro H locs ls Z hl
  refine lv_aload_n hx hb dL_law_1547 rfl (lv_at hl 1 rfl) ?_
  refine lv_aload_n hx hb dL_law_1548 rfl (lv_at hl 0 rfl) ?_
  refine lv_iload hx hb dL_law_1549 (lv_at hl 4 rfl) ?_
  refine lv_iconst (v := 1) hx hb dL_law_1551 (by decide) ?_
  refine lv_iadd hx hb dL_law_1552 ?_
  refine l_sld hx hb hX hbl hbA Z.2.2 hb1 ha1 dL_law_1553 ?_
  refine lv_aload_n hx hb dL_law_1554 rfl (lv_at hl 3 rfl) ?_
  rw [← wLw_w] at Z
  refine l_callW (n := 3) (As := [.ref (G.1 160), .int x1, .ref (G.1 170)]) (rest := []) (c1 := cells + 1) (s1 := slots + 6) X Z (adCo G gc _ ov _) hw (gooS mB1215 mB1216 mB1084 mB1013) rfl (by decide +kernel) rfl ⟨Nat.le_of_ble_eq_true rfl, Nat.le_of_ble_eq_true rfl⟩ rfl rfl ⟨Nat.le_trans (Nat.add_le_add_left (Nat.le_of_ble_eq_true rfl) _) hcs.1, Nat.le_trans (Nat.add_le_add_left (Nat.le_of_ble_eq_true rfl) _) hcs.2⟩ hl.1 rfl (Nat.le_of_ble_eq_true rfl) dL_law_1555 (fun H locs Z => ?_)
  rw [wLw_w] at Z
  refine lv_istore (lv' := [(5, .int (nI k)), (0, .ref b), (1, .ref (G.1 160)), (2, .ref ((shG G).1 0)), (3, .ref (G.1 170)), (4, .int (nI i))]) hx hb dL_law_1558 hl (by decide) rfl (fun ls hl => ?_)
  refine lv_aload_n hx hb dL_law_1560 rfl (lv_at hl 3 rfl) ?_
  refine lv_aload_n hx hb dL_law_1561 rfl (lv_at hl 1 rfl) ?_
  refine lv_iload hx hb dL_law_1562 (lv_at hl 5 rfl) ?_
  refine lv_iconst (v := 1) hx hb dL_law_1564 (by decide) ?_
  refine lv_iadd hx hb dL_law_1565 ?_
  refine l_sld hx hb hX hbl hbA Z.2.2 hb1 ha1 dL_law_1566 ?_
  rw [← wLw_m] at Z
  refine l_callI (n := 1) (As := [.int x1]) (rest := []) sameM adM (sG_sh G) X Z (cX7_timestamp_c l hm) oX7 rfl (gooV mB1217 mB1218 mB1219 mB614 mB874) rfl (by decide +kernel) rfl ⟨Nat.le_of_ble_eq_true rfl, Nat.le_of_ble_eq_true rfl⟩ ⟨Nat.le_trans (Nat.add_le_add_left (Nat.le_of_ble_eq_true rfl) _) hcs.1, Nat.le_trans (Nat.add_le_add_left (Nat.le_of_ble_eq_true rfl) _) hcs.2⟩ hl.1 rfl (Nat.le_of_ble_eq_true rfl) dL_law_1567 (fun w9 H locs Z => ?_)
  rw [wLw_m] at Z
  refine lv_istore (lv' := [(6, .int q.1), (5, .int (nI k)), (0, .ref b), (1, .ref (G.1 160)), (2, .ref ((shG G).1 0)), (3, .ref (G.1 170)), (4, .int (nI i))]) hx hb dL_law_1570 hl (by decide) rfl (fun ls hl => ?_)
  refine lv_aload_n hx hb dL_law_1572 rfl (lv_at hl 4 rfl) ?_
  rw [← wLw_m] at Z
  refine l_callI (n := 0) (As := []) (rest := []) sameM adM (sG_sh G) X Z (cX7_thrown_c l (show sX7_thrown _ = some _ from rfl)) oX7 rfl (gooV mB1088 mB1089 mB1090 mB614 mB607) rfl (by decide +kernel) rfl ⟨Nat.le_of_ble_eq_true rfl, Nat.le_of_ble_eq_true rfl⟩ ⟨Nat.le_trans (Nat.add_le_add_left (Nat.le_of_ble_eq_true rfl) _) hcs.1, Nat.le_trans (Nat.add_le_add_left (Nat.le_of_ble_eq_true rfl) _) hcs.2⟩ hl.1 rfl (Nat.le_of_ble_eq_true rfl) dL_law_1573 (fun w9 H locs Z => ?_)
  rw [wLw_m] at Z
  refine lv_iload hx hb dL_law_1576 (lv_at hl 1 rfl) ?_
  refine lv_icmp_eq (tgt := 1583) hx hb dL_law_1578 (by decide) (fun cz => ?_) (fun cz => absurd hth cz)
  refine lv_iload hx hb dL_law_1583 (lv_at hl 1 rfl) ?_
  refine lv_if_ne (tgt := 1600) hx hb dL_law_1585 (by decide) (fun cz => ?_) (fun cz => ?_)
  · skip
    refine lv_goto (tgt := 2538) hx hb dL_law_1600 (by decide) ?_
    refine W.widen (k := cells + 5) (n := slots + 30) (Nat.add_le_add_left (Nat.le_of_ble_eq_true rfl) _) (Nat.add_le_add_left (Nat.le_of_ble_eq_true rfl) _) ?_
    exact kk H locs ls Z (lv_sub hl [2, 3, 4, 5, 6] rfl)
  have hk0 : k = 0 := nI_inj0 hk4 cz
  have hv := hv hk0
  refine lv_aload_n hx hb dL_law_1588 rfl (lv_at hl 5 rfl) ?_
  refine lv_iconst (v := 0) hx hb dL_law_1589 (by decide) ?_
  refine l_lald X Z dL_law_1590 ?_
  refine lv_iload hx hb dL_law_1591 (lv_at hl 0 rfl) ?_
  refine lv_i2l hx hb dL_law_1593 rfl ?_
  refine W.lcmp hx hb dL_law_1594 ?_
  refine lv_if_eq (tgt := 1600) hx hb dL_law_1595 (by decide) (fun cy => ?_) (fun cy => absurd (by rw [hv]; exact lcmp_self _) cy)
  refine lv_goto (tgt := 2538) hx hb dL_law_1600 (by decide) ?_
  refine W.widen (k := cells + 5) (n := slots + 30) (Nat.add_le_add_left (Nat.le_of_ble_eq_true rfl) _) (Nat.add_le_add_left (Nat.le_of_ble_eq_true rfl) _) ?_
  exact kk H locs ls Z (lv_sub hl [2, 3, 4, 5, 6] rfl)
set_option maxHeartbeats 4000000 in
set_option maxRecDepth 100000 in
theorem law_requestTime {gc gm : Mem} {ov : Nat → Int64} {x1 : Int32} (X : gC p s m args meth c cL_law 7 (Cond.initialized RX6 :: wA0) RL ret G A) (hX : va_X b L xs s s.heap) (hbl : b < s.heap.size) (hbA : ¬ A b) (hb1 : vp_in (nI i + 1) L) (ha1 : xs (nI i + 1).toNatClampNeg = x1) {gc1 : Mem} {ov1 : Nat → Int64} {k : Nat} (hk4 : k < 4) (hw : cLw l yL_requestTime wmL_requestTime 8 132 1 6 G [.ref (G.1 160), .int x1, .ref (G.1 170)] (wC G gc ++ [oE G ov]) (wC G gc1 ++ [oE G ov1]) k) {q : Int32 × Mem} (hm : sX7_requestTime gm x1 = some q) (hth : q.2 0 7 = nI k) (hv : k = 0 → ov1 (0 : Int32).toNatClampNeg = q.1.toInt64) (hcs : cells + 5 ≤ room_1.cells ∧ slots + 30 ≤ room_1.slots) (kk : ∀ (H : Heap) (locs : List Loc) (ls : Array Slot), LSt G (wLw G gc1 q.2 ov1) A s.heap H locs → lv_has ls 7 [(0, .ref b), (1, .ref (G.1 160)), (2, .ref ((shG G).1 0)), (3, .ref (G.1 170)), (4, .int (nI i))] → W p l e room_1 s m args below meth c H locs (cells + 5) (slots + 30) Q (F0 m 2538 ls [])) : ∀ (H : Heap) (locs : List Loc) (ls : Array Slot), LSt G (wLw G gc gm ov) A s.heap H locs → lv_has ls 7 [(0, .ref b), (1, .ref (G.1 160)), (2, .ref ((shG G).1 0)), (3, .ref (G.1 170)), (4, .int (nI i))] → W p l e room_1 s m args below meth c H locs cells slots Q (F0 m 1603 ls []) := by
  have hx := X.1
  have hb := X.2.1
  intro H locs ls Z hl
  refine lv_aload_n hx hb dL_law_1603 rfl (lv_at hl 1 rfl) ?_
  refine lv_aload_n hx hb dL_law_1604 rfl (lv_at hl 0 rfl) ?_
  refine lv_iload hx hb dL_law_1605 (lv_at hl 4 rfl) ?_
  refine lv_iconst (v := 1) hx hb dL_law_1607 (by decide) ?_
  refine lv_iadd hx hb dL_law_1608 ?_
  refine l_sld hx hb hX hbl hbA Z.2.2 hb1 ha1 dL_law_1609 ?_
  refine lv_aload_n hx hb dL_law_1610 rfl (lv_at hl 3 rfl) ?_
  rw [← wLw_w] at Z
  refine l_callW (n := 3) (As := [.ref (G.1 160), .int x1, .ref (G.1 170)]) (rest := []) (c1 := cells + 1) (s1 := slots + 6) X Z (adCo G gc _ ov _) hw (gooS mB1220 mB1221 mB1084 mB1017) rfl (by decide +kernel) rfl ⟨Nat.le_of_ble_eq_true rfl, Nat.le_of_ble_eq_true rfl⟩ rfl rfl ⟨Nat.le_trans (Nat.add_le_add_left (Nat.le_of_ble_eq_true rfl) _) hcs.1, Nat.le_trans (Nat.add_le_add_left (Nat.le_of_ble_eq_true rfl) _) hcs.2⟩ hl.1 rfl (Nat.le_of_ble_eq_true rfl) dL_law_1611 (fun H locs Z => ?_)
  rw [wLw_w] at Z
  refine lv_istore (lv' := [(5, .int (nI k)), (0, .ref b), (1, .ref (G.1 160)), (2, .ref ((shG G).1 0)), (3, .ref (G.1 170)), (4, .int (nI i))]) hx hb dL_law_1614 hl (by decide) rfl (fun ls hl => ?_)
  refine lv_aload_n hx hb dL_law_1616 rfl (lv_at hl 3 rfl) ?_
  refine lv_aload_n hx hb dL_law_1617 rfl (lv_at hl 1 rfl) ?_
  refine lv_iload hx hb dL_law_1618 (lv_at hl 5 rfl) ?_
  refine lv_iconst (v := 1) hx hb dL_law_1620 (by decide) ?_
  refine lv_iadd hx hb dL_law_1621 ?_
  refine l_sld hx hb hX hbl hbA Z.2.2 hb1 ha1 dL_law_1622 ?_
  rw [← wLw_m] at Z
  refine l_callI (n := 1) (As := [.int x1]) (rest := []) sameM adM (sG_sh G) X Z (cX7_requestTime_c l hm) oX7 rfl (gooV mB1222 mB1223 mB1224 mB614 mB875) rfl (by decide +kernel) rfl ⟨Nat.le_of_ble_eq_true rfl, Nat.le_of_ble_eq_true rfl⟩ ⟨Nat.le_trans (Nat.add_le_add_left (Nat.le_of_ble_eq_true rfl) _) hcs.1, Nat.le_trans (Nat.add_le_add_left (Nat.le_of_ble_eq_true rfl) _) hcs.2⟩ hl.1 rfl (Nat.le_of_ble_eq_true rfl) dL_law_1623 (fun w9 H locs Z => ?_)
  rw [wLw_m] at Z
  refine lv_istore (lv' := [(6, .int q.1), (5, .int (nI k)), (0, .ref b), (1, .ref (G.1 160)), (2, .ref ((shG G).1 0)), (3, .ref (G.1 170)), (4, .int (nI i))]) hx hb dL_law_1626 hl (by decide) rfl (fun ls hl => ?_)
  refine lv_aload_n hx hb dL_law_1628 rfl (lv_at hl 4 rfl) ?_
  rw [← wLw_m] at Z
  refine l_callI (n := 0) (As := []) (rest := []) sameM adM (sG_sh G) X Z (cX7_thrown_c l (show sX7_thrown _ = some _ from rfl)) oX7 rfl (gooV mB1088 mB1089 mB1090 mB614 mB607) rfl (by decide +kernel) rfl ⟨Nat.le_of_ble_eq_true rfl, Nat.le_of_ble_eq_true rfl⟩ ⟨Nat.le_trans (Nat.add_le_add_left (Nat.le_of_ble_eq_true rfl) _) hcs.1, Nat.le_trans (Nat.add_le_add_left (Nat.le_of_ble_eq_true rfl) _) hcs.2⟩ hl.1 rfl (Nat.le_of_ble_eq_true rfl) dL_law_1629 (fun w9 H locs Z => ?_)
  rw [wLw_m] at Z
  refine lv_iload hx hb dL_law_1632 (lv_at hl 1 rfl) ?_
  refine lv_icmp_eq (tgt := 1639) hx hb dL_law_1634 (by decide) (fun cz => ?_) (fun cz => absurd hth cz)
  refine lv_iload hx hb dL_law_1639 (lv_at hl 1 rfl) ?_
  refine lv_if_ne (tgt := 1656) hx hb dL_law_1641 (by decide) (fun cz => ?_) (fun cz => ?_)
  · skip
    refine lv_goto (tgt := 2538) hx hb dL_law_1656 (by decide) ?_
    refine W.widen (k := cells + 5) (n := slots + 30) (Nat.add_le_add_left (Nat.le_of_ble_eq_true rfl) _) (Nat.add_le_add_left (Nat.le_of_ble_eq_true rfl) _) ?_
    exact kk H locs ls Z (lv_sub hl [2, 3, 4, 5, 6] rfl)
  have hk0 : k = 0 := nI_inj0 hk4 cz
  have hv := hv hk0
  refine lv_aload_n hx hb dL_law_1644 rfl (lv_at hl 5 rfl) ?_
  refine lv_iconst (v := 0) hx hb dL_law_1645 (by decide) ?_
  refine l_lald X Z dL_law_1646 ?_
  refine lv_iload hx hb dL_law_1647 (lv_at hl 0 rfl) ?_
  refine lv_i2l hx hb dL_law_1649 rfl ?_
  refine W.lcmp hx hb dL_law_1650 ?_
  refine lv_if_eq (tgt := 1656) hx hb dL_law_1651 (by decide) (fun cy => ?_) (fun cy => absurd (by rw [hv]; exact lcmp_self _) cy)
  refine lv_goto (tgt := 2538) hx hb dL_law_1656 (by decide) ?_
  refine W.widen (k := cells + 5) (n := slots + 30) (Nat.add_le_add_left (Nat.le_of_ble_eq_true rfl) _) (Nat.add_le_add_left (Nat.le_of_ble_eq_true rfl) _) ?_
  exact kk H locs ls Z (lv_sub hl [2, 3, 4, 5, 6] rfl)
set_option maxHeartbeats 4000000 in
set_option maxRecDepth 100000 in
theorem law_commitTime {gc gm : Mem} {ov : Nat → Int64} {x1 : Int32} (X : gC p s m args meth c cL_law 7 (Cond.initialized RX6 :: wA0) RL ret G A) (hX : va_X b L xs s s.heap) (hbl : b < s.heap.size) (hbA : ¬ A b) (hb1 : vp_in (nI i + 1) L) (ha1 : xs (nI i + 1).toNatClampNeg = x1) {gc1 : Mem} {ov1 : Nat → Int64} {k : Nat} (hk4 : k < 4) (hw : cLw l yL_commitTime wmL_commitTime 8 132 1 6 G [.ref (G.1 160), .int x1, .ref (G.1 170)] (wC G gc ++ [oE G ov]) (wC G gc1 ++ [oE G ov1]) k) {q : Int32 × Mem} (hm : sX7_commitTime gm x1 = some q) (hth : q.2 0 7 = nI k) (hv : k = 0 → ov1 (0 : Int32).toNatClampNeg = q.1.toInt64) (hcs : cells + 5 ≤ room_1.cells ∧ slots + 30 ≤ room_1.slots) (kk : ∀ (H : Heap) (locs : List Loc) (ls : Array Slot), LSt G (wLw G gc1 q.2 ov1) A s.heap H locs → lv_has ls 7 [(0, .ref b), (1, .ref (G.1 160)), (2, .ref ((shG G).1 0)), (3, .ref (G.1 170)), (4, .int (nI i))] → W p l e room_1 s m args below meth c H locs (cells + 5) (slots + 30) Q (F0 m 2538 ls [])) : ∀ (H : Heap) (locs : List Loc) (ls : Array Slot), LSt G (wLw G gc gm ov) A s.heap H locs → lv_has ls 7 [(0, .ref b), (1, .ref (G.1 160)), (2, .ref ((shG G).1 0)), (3, .ref (G.1 170)), (4, .int (nI i))] → W p l e room_1 s m args below meth c H locs cells slots Q (F0 m 1659 ls []) := by
  have hx := X.1
  have hb := X.2.1
  intro H locs ls Z hl
  refine lv_aload_n hx hb dL_law_1659 rfl (lv_at hl 1 rfl) ?_
  refine lv_aload_n hx hb dL_law_1660 rfl (lv_at hl 0 rfl) ?_
  refine lv_iload hx hb dL_law_1661 (lv_at hl 4 rfl) ?_
  refine lv_iconst (v := 1) hx hb dL_law_1663 (by decide) ?_
  refine lv_iadd hx hb dL_law_1664 ?_
  refine l_sld hx hb hX hbl hbA Z.2.2 hb1 ha1 dL_law_1665 ?_
  refine lv_aload_n hx hb dL_law_1666 rfl (lv_at hl 3 rfl) ?_
  rw [← wLw_w] at Z
  refine l_callW (n := 3) (As := [.ref (G.1 160), .int x1, .ref (G.1 170)]) (rest := []) (c1 := cells + 1) (s1 := slots + 6) X Z (adCo G gc _ ov _) hw (gooS mB1225 mB1226 mB1084 mB1021) rfl (by decide +kernel) rfl ⟨Nat.le_of_ble_eq_true rfl, Nat.le_of_ble_eq_true rfl⟩ rfl rfl ⟨Nat.le_trans (Nat.add_le_add_left (Nat.le_of_ble_eq_true rfl) _) hcs.1, Nat.le_trans (Nat.add_le_add_left (Nat.le_of_ble_eq_true rfl) _) hcs.2⟩ hl.1 rfl (Nat.le_of_ble_eq_true rfl) dL_law_1667 (fun H locs Z => ?_)
  rw [wLw_w] at Z
  refine lv_istore (lv' := [(5, .int (nI k)), (0, .ref b), (1, .ref (G.1 160)), (2, .ref ((shG G).1 0)), (3, .ref (G.1 170)), (4, .int (nI i))]) hx hb dL_law_1670 hl (by decide) rfl (fun ls hl => ?_)
  refine lv_aload_n hx hb dL_law_1672 rfl (lv_at hl 3 rfl) ?_
  refine lv_aload_n hx hb dL_law_1673 rfl (lv_at hl 1 rfl) ?_
  refine lv_iload hx hb dL_law_1674 (lv_at hl 5 rfl) ?_
  refine lv_iconst (v := 1) hx hb dL_law_1676 (by decide) ?_
  refine lv_iadd hx hb dL_law_1677 ?_
  refine l_sld hx hb hX hbl hbA Z.2.2 hb1 ha1 dL_law_1678 ?_
  rw [← wLw_m] at Z
  refine l_callI (n := 1) (As := [.int x1]) (rest := []) sameM adM (sG_sh G) X Z (cX7_commitTime_c l hm) oX7 rfl (gooV mB1227 mB1228 mB1229 mB614 mB876) rfl (by decide +kernel) rfl ⟨Nat.le_of_ble_eq_true rfl, Nat.le_of_ble_eq_true rfl⟩ ⟨Nat.le_trans (Nat.add_le_add_left (Nat.le_of_ble_eq_true rfl) _) hcs.1, Nat.le_trans (Nat.add_le_add_left (Nat.le_of_ble_eq_true rfl) _) hcs.2⟩ hl.1 rfl (Nat.le_of_ble_eq_true rfl) dL_law_1679 (fun w9 H locs Z => ?_)
  rw [wLw_m] at Z
  refine lv_istore (lv' := [(6, .int q.1), (5, .int (nI k)), (0, .ref b), (1, .ref (G.1 160)), (2, .ref ((shG G).1 0)), (3, .ref (G.1 170)), (4, .int (nI i))]) hx hb dL_law_1682 hl (by decide) rfl (fun ls hl => ?_)
  refine lv_aload_n hx hb dL_law_1684 rfl (lv_at hl 4 rfl) ?_
  rw [← wLw_m] at Z
  refine l_callI (n := 0) (As := []) (rest := []) sameM adM (sG_sh G) X Z (cX7_thrown_c l (show sX7_thrown _ = some _ from rfl)) oX7 rfl (gooV mB1088 mB1089 mB1090 mB614 mB607) rfl (by decide +kernel) rfl ⟨Nat.le_of_ble_eq_true rfl, Nat.le_of_ble_eq_true rfl⟩ ⟨Nat.le_trans (Nat.add_le_add_left (Nat.le_of_ble_eq_true rfl) _) hcs.1, Nat.le_trans (Nat.add_le_add_left (Nat.le_of_ble_eq_true rfl) _) hcs.2⟩ hl.1 rfl (Nat.le_of_ble_eq_true rfl) dL_law_1685 (fun w9 H locs Z => ?_)
  rw [wLw_m] at Z
  refine lv_iload hx hb dL_law_1688 (lv_at hl 1 rfl) ?_
  refine lv_icmp_eq (tgt := 1695) hx hb dL_law_1690 (by decide) (fun cz => ?_) (fun cz => absurd hth cz)
  refine lv_iload hx hb dL_law_1695 (lv_at hl 1 rfl) ?_
  refine lv_if_ne (tgt := 1712) hx hb dL_law_1697 (by decide) (fun cz => ?_) (fun cz => ?_)
  · skip
    refine lv_goto (tgt := 2538) hx hb dL_law_1712 (by decide) ?_
    refine W.widen (k := cells + 5) (n := slots + 30) (Nat.add_le_add_left (Nat.le_of_ble_eq_true rfl) _) (Nat.add_le_add_left (Nat.le_of_ble_eq_true rfl) _) ?_
    exact kk H locs ls Z (lv_sub hl [2, 3, 4, 5, 6] rfl)
  have hk0 : k = 0 := nI_inj0 hk4 cz
  have hv := hv hk0
  refine lv_aload_n hx hb dL_law_1700 rfl (lv_at hl 5 rfl) ?_
  refine lv_iconst (v := 0) hx hb dL_law_1701 (by decide) ?_
  refine l_lald X Z dL_law_1702 ?_
  refine lv_iload hx hb dL_law_1703 (lv_at hl 0 rfl) ?_
  refine lv_i2l hx hb dL_law_1705 rfl ?_
  refine W.lcmp hx hb dL_law_1706 ?_
  refine lv_if_eq (tgt := 1712) hx hb dL_law_1707 (by decide) (fun cy => ?_) (fun cy => absurd (by rw [hv]; exact lcmp_self _) cy)
  refine lv_goto (tgt := 2538) hx hb dL_law_1712 (by decide) ?_
  refine W.widen (k := cells + 5) (n := slots + 30) (Nat.add_le_add_left (Nat.le_of_ble_eq_true rfl) _) (Nat.add_le_add_left (Nat.le_of_ble_eq_true rfl) _) ?_
  exact kk H locs ls Z (lv_sub hl [2, 3, 4, 5, 6] rfl)
set_option maxHeartbeats 4000000 in
set_option maxRecDepth 100000 in
theorem law_bufferedValue {gc gm : Mem} {ov : Nat → Int64} {x1 : Int32} {x2 : Int32} (X : gC p s m args meth c cL_law 7 (Cond.initialized RX6 :: wA0) RL ret G A) (hX : va_X b L xs s s.heap) (hbl : b < s.heap.size) (hbA : ¬ A b) (hb1 : vp_in (nI i + 1) L) (ha1 : xs (nI i + 1).toNatClampNeg = x1) (hb2 : vp_in (nI i + 2) L) (ha2 : xs (nI i + 2).toNatClampNeg = x2) {gc1 : Mem} {ov1 : Nat → Int64} {k : Nat} (hk4 : k < 4) (hw : cLw l yL_bufferedValue wmL_bufferedValue 8 133 2 12 G [.ref (G.1 160), .int x1, .int x2, .ref (G.1 170)] (wC G gc ++ [oE G ov]) (wC G gc1 ++ [oE G ov1]) k) {q : Int32 × Mem} (hm : sX7_bufferedValue gm x1 x2 = some q) (hth : q.2 0 7 = nI k) (hv : k = 0 → ov1 (0 : Int32).toNatClampNeg = q.1.toInt64) (hcs : cells + 5 ≤ room_1.cells ∧ slots + 30 ≤ room_1.slots) (kk : ∀ (H : Heap) (locs : List Loc) (ls : Array Slot), LSt G (wLw G gc1 q.2 ov1) A s.heap H locs → lv_has ls 7 [(0, .ref b), (1, .ref (G.1 160)), (2, .ref ((shG G).1 0)), (3, .ref (G.1 170)), (4, .int (nI i))] → W p l e room_1 s m args below meth c H locs (cells + 5) (slots + 30) Q (F0 m 2538 ls [])) : ∀ (H : Heap) (locs : List Loc) (ls : Array Slot), LSt G (wLw G gc gm ov) A s.heap H locs → lv_has ls 7 [(0, .ref b), (1, .ref (G.1 160)), (2, .ref ((shG G).1 0)), (3, .ref (G.1 170)), (4, .int (nI i))] → W p l e room_1 s m args below meth c H locs cells slots Q (F0 m 1715 ls []) := by
  have hx := X.1
  have hb := X.2.1
  intro H locs ls Z hl
  refine lv_aload_n hx hb dL_law_1715 rfl (lv_at hl 1 rfl) ?_
  refine lv_aload_n hx hb dL_law_1716 rfl (lv_at hl 0 rfl) ?_
  refine lv_iload hx hb dL_law_1717 (lv_at hl 4 rfl) ?_
  refine lv_iconst (v := 1) hx hb dL_law_1719 (by decide) ?_
  refine lv_iadd hx hb dL_law_1720 ?_
  refine l_sld hx hb hX hbl hbA Z.2.2 hb1 ha1 dL_law_1721 ?_
  refine lv_aload_n hx hb dL_law_1722 rfl (lv_at hl 0 rfl) ?_
  refine lv_iload hx hb dL_law_1723 (lv_at hl 4 rfl) ?_
  refine lv_iconst (v := 2) hx hb dL_law_1725 (by decide) ?_
  refine lv_iadd hx hb dL_law_1726 ?_
  refine l_sld hx hb hX hbl hbA Z.2.2 hb2 ha2 dL_law_1727 ?_
  refine lv_aload_n hx hb dL_law_1728 rfl (lv_at hl 3 rfl) ?_
  rw [← wLw_w] at Z
  refine l_callW (n := 4) (As := [.ref (G.1 160), .int x1, .int x2, .ref (G.1 170)]) (rest := []) (c1 := cells + 2) (s1 := slots + 12) X Z (adCo G gc _ ov _) hw (gooS mB1230 mB1231 mB1084 mB1028) rfl (by decide +kernel) rfl ⟨Nat.le_of_ble_eq_true rfl, Nat.le_of_ble_eq_true rfl⟩ rfl rfl ⟨Nat.le_trans (Nat.add_le_add_left (Nat.le_of_ble_eq_true rfl) _) hcs.1, Nat.le_trans (Nat.add_le_add_left (Nat.le_of_ble_eq_true rfl) _) hcs.2⟩ hl.1 rfl (Nat.le_of_ble_eq_true rfl) dL_law_1729 (fun H locs Z => ?_)
  rw [wLw_w] at Z
  refine lv_istore (lv' := [(5, .int (nI k)), (0, .ref b), (1, .ref (G.1 160)), (2, .ref ((shG G).1 0)), (3, .ref (G.1 170)), (4, .int (nI i))]) hx hb dL_law_1732 hl (by decide) rfl (fun ls hl => ?_)
  refine lv_aload_n hx hb dL_law_1734 rfl (lv_at hl 3 rfl) ?_
  refine lv_aload_n hx hb dL_law_1735 rfl (lv_at hl 1 rfl) ?_
  refine lv_iload hx hb dL_law_1736 (lv_at hl 5 rfl) ?_
  refine lv_iconst (v := 1) hx hb dL_law_1738 (by decide) ?_
  refine lv_iadd hx hb dL_law_1739 ?_
  refine l_sld hx hb hX hbl hbA Z.2.2 hb1 ha1 dL_law_1740 ?_
  refine lv_aload_n hx hb dL_law_1741 rfl (lv_at hl 1 rfl) ?_
  refine lv_iload hx hb dL_law_1742 (lv_at hl 5 rfl) ?_
  refine lv_iconst (v := 2) hx hb dL_law_1744 (by decide) ?_
  refine lv_iadd hx hb dL_law_1745 ?_
  refine l_sld hx hb hX hbl hbA Z.2.2 hb2 ha2 dL_law_1746 ?_
  rw [← wLw_m] at Z
  refine l_callI (n := 2) (As := [.int x1, .int x2]) (rest := []) sameM adM (sG_sh G) X Z (cX7_bufferedValue_c l hm) oX7 rfl (gooV mB1232 mB1233 mB1234 mB614 mB877) rfl (by decide +kernel) rfl ⟨Nat.le_of_ble_eq_true rfl, Nat.le_of_ble_eq_true rfl⟩ ⟨Nat.le_trans (Nat.add_le_add_left (Nat.le_of_ble_eq_true rfl) _) hcs.1, Nat.le_trans (Nat.add_le_add_left (Nat.le_of_ble_eq_true rfl) _) hcs.2⟩ hl.1 rfl (Nat.le_of_ble_eq_true rfl) dL_law_1747 (fun w9 H locs Z => ?_)
  rw [wLw_m] at Z
  refine lv_istore (lv' := [(6, .int q.1), (5, .int (nI k)), (0, .ref b), (1, .ref (G.1 160)), (2, .ref ((shG G).1 0)), (3, .ref (G.1 170)), (4, .int (nI i))]) hx hb dL_law_1750 hl (by decide) rfl (fun ls hl => ?_)
  refine lv_aload_n hx hb dL_law_1752 rfl (lv_at hl 4 rfl) ?_
  rw [← wLw_m] at Z
  refine l_callI (n := 0) (As := []) (rest := []) sameM adM (sG_sh G) X Z (cX7_thrown_c l (show sX7_thrown _ = some _ from rfl)) oX7 rfl (gooV mB1088 mB1089 mB1090 mB614 mB607) rfl (by decide +kernel) rfl ⟨Nat.le_of_ble_eq_true rfl, Nat.le_of_ble_eq_true rfl⟩ ⟨Nat.le_trans (Nat.add_le_add_left (Nat.le_of_ble_eq_true rfl) _) hcs.1, Nat.le_trans (Nat.add_le_add_left (Nat.le_of_ble_eq_true rfl) _) hcs.2⟩ hl.1 rfl (Nat.le_of_ble_eq_true rfl) dL_law_1753 (fun w9 H locs Z => ?_)
  rw [wLw_m] at Z
  refine lv_iload hx hb dL_law_1756 (lv_at hl 1 rfl) ?_
  refine lv_icmp_eq (tgt := 1763) hx hb dL_law_1758 (by decide) (fun cz => ?_) (fun cz => absurd hth cz)
  refine lv_iload hx hb dL_law_1763 (lv_at hl 1 rfl) ?_
  refine lv_if_ne (tgt := 1780) hx hb dL_law_1765 (by decide) (fun cz => ?_) (fun cz => ?_)
  · skip
    refine lv_goto (tgt := 2538) hx hb dL_law_1780 (by decide) ?_
    refine W.widen (k := cells + 5) (n := slots + 30) (Nat.add_le_add_left (Nat.le_of_ble_eq_true rfl) _) (Nat.add_le_add_left (Nat.le_of_ble_eq_true rfl) _) ?_
    exact kk H locs ls Z (lv_sub hl [2, 3, 4, 5, 6] rfl)
  have hk0 : k = 0 := nI_inj0 hk4 cz
  have hv := hv hk0
  refine lv_aload_n hx hb dL_law_1768 rfl (lv_at hl 5 rfl) ?_
  refine lv_iconst (v := 0) hx hb dL_law_1769 (by decide) ?_
  refine l_lald X Z dL_law_1770 ?_
  refine lv_iload hx hb dL_law_1771 (lv_at hl 0 rfl) ?_
  refine lv_i2l hx hb dL_law_1773 rfl ?_
  refine W.lcmp hx hb dL_law_1774 ?_
  refine lv_if_eq (tgt := 1780) hx hb dL_law_1775 (by decide) (fun cy => ?_) (fun cy => absurd (by rw [hv]; exact lcmp_self _) cy)
  refine lv_goto (tgt := 2538) hx hb dL_law_1780 (by decide) ?_
  refine W.widen (k := cells + 5) (n := slots + 30) (Nat.add_le_add_left (Nat.le_of_ble_eq_true rfl) _) (Nat.add_le_add_left (Nat.le_of_ble_eq_true rfl) _) ?_
  exact kk H locs ls Z (lv_sub hl [2, 3, 4, 5, 6] rfl)
set_option maxHeartbeats 4000000 in
set_option maxRecDepth 100000 in
theorem law_recordedTimestamp {gc gm : Mem} {ov : Nat → Int64} {x1 : Int32} {x2 : Int32} (X : gC p s m args meth c cL_law 7 (Cond.initialized RX6 :: wA0) RL ret G A) (hX : va_X b L xs s s.heap) (hbl : b < s.heap.size) (hbA : ¬ A b) (hb1 : vp_in (nI i + 1) L) (ha1 : xs (nI i + 1).toNatClampNeg = x1) (hb2 : vp_in (nI i + 2) L) (ha2 : xs (nI i + 2).toNatClampNeg = x2) {gc1 : Mem} {ov1 : Nat → Int64} {k : Nat} (hk4 : k < 4) (hw : cLw l yL_recordedTimestamp wmL_recordedTimestamp 8 134 2 12 G [.ref (G.1 160), .int x1, .int x2, .ref (G.1 170)] (wC G gc ++ [oE G ov]) (wC G gc1 ++ [oE G ov1]) k) {q : Int32 × Mem} (hm : sX7_recordedTimestamp gm x1 x2 = some q) (hth : q.2 0 7 = nI k) (hv : k = 0 → ov1 (0 : Int32).toNatClampNeg = q.1.toInt64) (hcs : cells + 5 ≤ room_1.cells ∧ slots + 30 ≤ room_1.slots) (kk : ∀ (H : Heap) (locs : List Loc) (ls : Array Slot), LSt G (wLw G gc1 q.2 ov1) A s.heap H locs → lv_has ls 7 [(0, .ref b), (1, .ref (G.1 160)), (2, .ref ((shG G).1 0)), (3, .ref (G.1 170)), (4, .int (nI i))] → W p l e room_1 s m args below meth c H locs (cells + 5) (slots + 30) Q (F0 m 2538 ls [])) : ∀ (H : Heap) (locs : List Loc) (ls : Array Slot), LSt G (wLw G gc gm ov) A s.heap H locs → lv_has ls 7 [(0, .ref b), (1, .ref (G.1 160)), (2, .ref ((shG G).1 0)), (3, .ref (G.1 170)), (4, .int (nI i))] → W p l e room_1 s m args below meth c H locs cells slots Q (F0 m 1783 ls []) := by
  have hx := X.1
  have hb := X.2.1
  intro H locs ls Z hl
  refine lv_aload_n hx hb dL_law_1783 rfl (lv_at hl 1 rfl) ?_
  refine lv_aload_n hx hb dL_law_1784 rfl (lv_at hl 0 rfl) ?_
  refine lv_iload hx hb dL_law_1785 (lv_at hl 4 rfl) ?_
  refine lv_iconst (v := 1) hx hb dL_law_1787 (by decide) ?_
  refine lv_iadd hx hb dL_law_1788 ?_
  refine l_sld hx hb hX hbl hbA Z.2.2 hb1 ha1 dL_law_1789 ?_
  refine lv_aload_n hx hb dL_law_1790 rfl (lv_at hl 0 rfl) ?_
  refine lv_iload hx hb dL_law_1791 (lv_at hl 4 rfl) ?_
  refine lv_iconst (v := 2) hx hb dL_law_1793 (by decide) ?_
  refine lv_iadd hx hb dL_law_1794 ?_
  refine l_sld hx hb hX hbl hbA Z.2.2 hb2 ha2 dL_law_1795 ?_
  refine lv_aload_n hx hb dL_law_1796 rfl (lv_at hl 3 rfl) ?_
  rw [← wLw_w] at Z
  refine l_callW (n := 4) (As := [.ref (G.1 160), .int x1, .int x2, .ref (G.1 170)]) (rest := []) (c1 := cells + 2) (s1 := slots + 12) X Z (adCo G gc _ ov _) hw (gooS mB1235 mB1236 mB1084 mB1032) rfl (by decide +kernel) rfl ⟨Nat.le_of_ble_eq_true rfl, Nat.le_of_ble_eq_true rfl⟩ rfl rfl ⟨Nat.le_trans (Nat.add_le_add_left (Nat.le_of_ble_eq_true rfl) _) hcs.1, Nat.le_trans (Nat.add_le_add_left (Nat.le_of_ble_eq_true rfl) _) hcs.2⟩ hl.1 rfl (Nat.le_of_ble_eq_true rfl) dL_law_1797 (fun H locs Z => ?_)
  rw [wLw_w] at Z
  refine lv_istore (lv' := [(5, .int (nI k)), (0, .ref b), (1, .ref (G.1 160)), (2, .ref ((shG G).1 0)), (3, .ref (G.1 170)), (4, .int (nI i))]) hx hb dL_law_1800 hl (by decide) rfl (fun ls hl => ?_)
  refine lv_aload_n hx hb dL_law_1802 rfl (lv_at hl 3 rfl) ?_
  refine lv_aload_n hx hb dL_law_1803 rfl (lv_at hl 1 rfl) ?_
  refine lv_iload hx hb dL_law_1804 (lv_at hl 5 rfl) ?_
  refine lv_iconst (v := 1) hx hb dL_law_1806 (by decide) ?_
  refine lv_iadd hx hb dL_law_1807 ?_
  refine l_sld hx hb hX hbl hbA Z.2.2 hb1 ha1 dL_law_1808 ?_
  refine lv_aload_n hx hb dL_law_1809 rfl (lv_at hl 1 rfl) ?_
  refine lv_iload hx hb dL_law_1810 (lv_at hl 5 rfl) ?_
  refine lv_iconst (v := 2) hx hb dL_law_1812 (by decide) ?_
  refine lv_iadd hx hb dL_law_1813 ?_
  refine l_sld hx hb hX hbl hbA Z.2.2 hb2 ha2 dL_law_1814 ?_
  rw [← wLw_m] at Z
  refine l_callI (n := 2) (As := [.int x1, .int x2]) (rest := []) sameM adM (sG_sh G) X Z (cX7_recordedTimestamp_c l hm) oX7 rfl (gooV mB1237 mB1238 mB1239 mB614 mB878) rfl (by decide +kernel) rfl ⟨Nat.le_of_ble_eq_true rfl, Nat.le_of_ble_eq_true rfl⟩ ⟨Nat.le_trans (Nat.add_le_add_left (Nat.le_of_ble_eq_true rfl) _) hcs.1, Nat.le_trans (Nat.add_le_add_left (Nat.le_of_ble_eq_true rfl) _) hcs.2⟩ hl.1 rfl (Nat.le_of_ble_eq_true rfl) dL_law_1815 (fun w9 H locs Z => ?_)
  rw [wLw_m] at Z
  refine lv_istore (lv' := [(6, .int q.1), (5, .int (nI k)), (0, .ref b), (1, .ref (G.1 160)), (2, .ref ((shG G).1 0)), (3, .ref (G.1 170)), (4, .int (nI i))]) hx hb dL_law_1818 hl (by decide) rfl (fun ls hl => ?_)
  refine lv_aload_n hx hb dL_law_1820 rfl (lv_at hl 4 rfl) ?_
  rw [← wLw_m] at Z
  refine l_callI (n := 0) (As := []) (rest := []) sameM adM (sG_sh G) X Z (cX7_thrown_c l (show sX7_thrown _ = some _ from rfl)) oX7 rfl (gooV mB1088 mB1089 mB1090 mB614 mB607) rfl (by decide +kernel) rfl ⟨Nat.le_of_ble_eq_true rfl, Nat.le_of_ble_eq_true rfl⟩ ⟨Nat.le_trans (Nat.add_le_add_left (Nat.le_of_ble_eq_true rfl) _) hcs.1, Nat.le_trans (Nat.add_le_add_left (Nat.le_of_ble_eq_true rfl) _) hcs.2⟩ hl.1 rfl (Nat.le_of_ble_eq_true rfl) dL_law_1821 (fun w9 H locs Z => ?_)
  rw [wLw_m] at Z
  refine lv_iload hx hb dL_law_1824 (lv_at hl 1 rfl) ?_
  refine lv_icmp_eq (tgt := 1831) hx hb dL_law_1826 (by decide) (fun cz => ?_) (fun cz => absurd hth cz)
  refine lv_iload hx hb dL_law_1831 (lv_at hl 1 rfl) ?_
  refine lv_if_ne (tgt := 1848) hx hb dL_law_1833 (by decide) (fun cz => ?_) (fun cz => ?_)
  · skip
    refine lv_goto (tgt := 2538) hx hb dL_law_1848 (by decide) ?_
    refine W.widen (k := cells + 5) (n := slots + 30) (Nat.add_le_add_left (Nat.le_of_ble_eq_true rfl) _) (Nat.add_le_add_left (Nat.le_of_ble_eq_true rfl) _) ?_
    exact kk H locs ls Z (lv_sub hl [2, 3, 4, 5, 6] rfl)
  have hk0 : k = 0 := nI_inj0 hk4 cz
  have hv := hv hk0
  refine lv_aload_n hx hb dL_law_1836 rfl (lv_at hl 5 rfl) ?_
  refine lv_iconst (v := 0) hx hb dL_law_1837 (by decide) ?_
  refine l_lald X Z dL_law_1838 ?_
  refine lv_iload hx hb dL_law_1839 (lv_at hl 0 rfl) ?_
  refine lv_i2l hx hb dL_law_1841 rfl ?_
  refine W.lcmp hx hb dL_law_1842 ?_
  refine lv_if_eq (tgt := 1848) hx hb dL_law_1843 (by decide) (fun cy => ?_) (fun cy => absurd (by rw [hv]; exact lcmp_self _) cy)
  refine lv_goto (tgt := 2538) hx hb dL_law_1848 (by decide) ?_
  refine W.widen (k := cells + 5) (n := slots + 30) (Nat.add_le_add_left (Nat.le_of_ble_eq_true rfl) _) (Nat.add_le_add_left (Nat.le_of_ble_eq_true rfl) _) ?_
  exact kk H locs ls Z (lv_sub hl [2, 3, 4, 5, 6] rfl)
set_option maxHeartbeats 4000000 in
set_option maxRecDepth 100000 in
theorem law_ifCommitted {n : Nat} {gc gm : Mem} {ov : Nat → Int64} {x1 : Int32} (X : gC p s m args meth c cL_law 7 (Cond.initialized RX6 :: wA0) RL ret G A) (hX : va_X b L xs s s.heap) (hbl : b < s.heap.size) (hbA : ¬ A b) (hb1 : vp_in (nI i + 1) L) (ha1 : xs (nI i + 1).toNatClampNeg = x1) {gc1 : Mem} {ov1 : Nat → Int64} {k : Nat} (hk4 : k < 4) (hw : cLw l yL_ifCommitted wmL_ifCommitted 8 133 1 6 G [.ref (G.1 160), .int x1, .ref (G.1 170)] (wC G gc ++ [oE G ov]) (wC G gc1 ++ [oE G ov1]) k) {q : Int32 × Mem} (hm : sX7_ifCommitted n gm x1 = some q) (hth : q.2 0 7 = nI k) (hv : k = 0 → ov1 (0 : Int32).toNatClampNeg = q.1.toInt64) (hcs : cells + 5 ≤ room_1.cells ∧ slots + 30 ≤ room_1.slots) (kk : ∀ (H : Heap) (locs : List Loc) (ls : Array Slot), LSt G (wLw G gc1 q.2 ov1) A s.heap H locs → lv_has ls 7 [(0, .ref b), (1, .ref (G.1 160)), (2, .ref ((shG G).1 0)), (3, .ref (G.1 170)), (4, .int (nI i))] → W p l e room_1 s m args below meth c H locs (cells + 5) (slots + 30) Q (F0 m 2538 ls [])) : ∀ (H : Heap) (locs : List Loc) (ls : Array Slot), LSt G (wLw G gc gm ov) A s.heap H locs → lv_has ls 7 [(0, .ref b), (1, .ref (G.1 160)), (2, .ref ((shG G).1 0)), (3, .ref (G.1 170)), (4, .int (nI i))] → W p l e room_1 s m args below meth c H locs cells slots Q (F0 m 1851 ls []) := by
  have hx := X.1
  have hb := X.2.1
  intro H locs ls Z hl
  refine lv_aload_n hx hb dL_law_1851 rfl (lv_at hl 1 rfl) ?_
  refine lv_aload_n hx hb dL_law_1852 rfl (lv_at hl 0 rfl) ?_
  refine lv_iload hx hb dL_law_1853 (lv_at hl 4 rfl) ?_
  refine lv_iconst (v := 1) hx hb dL_law_1855 (by decide) ?_
  refine lv_iadd hx hb dL_law_1856 ?_
  refine l_sld hx hb hX hbl hbA Z.2.2 hb1 ha1 dL_law_1857 ?_
  refine lv_aload_n hx hb dL_law_1858 rfl (lv_at hl 3 rfl) ?_
  rw [← wLw_w] at Z
  refine l_callW (n := 3) (As := [.ref (G.1 160), .int x1, .ref (G.1 170)]) (rest := []) (c1 := cells + 1) (s1 := slots + 6) X Z (adCo G gc _ ov _) hw (gooS mB1240 mB1241 mB1084 mB1036) rfl (by decide +kernel) rfl ⟨Nat.le_of_ble_eq_true rfl, Nat.le_of_ble_eq_true rfl⟩ rfl rfl ⟨Nat.le_trans (Nat.add_le_add_left (Nat.le_of_ble_eq_true rfl) _) hcs.1, Nat.le_trans (Nat.add_le_add_left (Nat.le_of_ble_eq_true rfl) _) hcs.2⟩ hl.1 rfl (Nat.le_of_ble_eq_true rfl) dL_law_1859 (fun H locs Z => ?_)
  rw [wLw_w] at Z
  refine lv_istore (lv' := [(5, .int (nI k)), (0, .ref b), (1, .ref (G.1 160)), (2, .ref ((shG G).1 0)), (3, .ref (G.1 170)), (4, .int (nI i))]) hx hb dL_law_1862 hl (by decide) rfl (fun ls hl => ?_)
  refine lv_aload_n hx hb dL_law_1864 rfl (lv_at hl 3 rfl) ?_
  refine lv_aload_n hx hb dL_law_1865 rfl (lv_at hl 1 rfl) ?_
  refine lv_iload hx hb dL_law_1866 (lv_at hl 5 rfl) ?_
  refine lv_iconst (v := 1) hx hb dL_law_1868 (by decide) ?_
  refine lv_iadd hx hb dL_law_1869 ?_
  refine l_sld hx hb hX hbl hbA Z.2.2 hb1 ha1 dL_law_1870 ?_
  rw [← wLw_m] at Z
  refine l_callI (n := 1) (As := [.int x1]) (rest := []) sameM adM (sG_sh G) X Z (cX7_ifCommitted_c l hm) oX7 rfl (gooV mB1242 mB1243 mB1244 mB614 mB879) rfl (by decide +kernel) rfl ⟨Nat.le_of_ble_eq_true rfl, Nat.le_of_ble_eq_true rfl⟩ ⟨Nat.le_trans (Nat.add_le_add_left (Nat.le_of_ble_eq_true rfl) _) hcs.1, Nat.le_trans (Nat.add_le_add_left (Nat.le_of_ble_eq_true rfl) _) hcs.2⟩ hl.1 rfl (Nat.le_of_ble_eq_true rfl) dL_law_1871 (fun w9 H locs Z => ?_)
  rw [wLw_m] at Z
  refine lv_istore (lv' := [(6, .int q.1), (5, .int (nI k)), (0, .ref b), (1, .ref (G.1 160)), (2, .ref ((shG G).1 0)), (3, .ref (G.1 170)), (4, .int (nI i))]) hx hb dL_law_1874 hl (by decide) rfl (fun ls hl => ?_)
  refine lv_aload_n hx hb dL_law_1876 rfl (lv_at hl 4 rfl) ?_
  rw [← wLw_m] at Z
  refine l_callI (n := 0) (As := []) (rest := []) sameM adM (sG_sh G) X Z (cX7_thrown_c l (show sX7_thrown _ = some _ from rfl)) oX7 rfl (gooV mB1088 mB1089 mB1090 mB614 mB607) rfl (by decide +kernel) rfl ⟨Nat.le_of_ble_eq_true rfl, Nat.le_of_ble_eq_true rfl⟩ ⟨Nat.le_trans (Nat.add_le_add_left (Nat.le_of_ble_eq_true rfl) _) hcs.1, Nat.le_trans (Nat.add_le_add_left (Nat.le_of_ble_eq_true rfl) _) hcs.2⟩ hl.1 rfl (Nat.le_of_ble_eq_true rfl) dL_law_1877 (fun w9 H locs Z => ?_)
  rw [wLw_m] at Z
  refine lv_iload hx hb dL_law_1880 (lv_at hl 1 rfl) ?_
  refine lv_icmp_eq (tgt := 1887) hx hb dL_law_1882 (by decide) (fun cz => ?_) (fun cz => absurd hth cz)
  refine lv_iload hx hb dL_law_1887 (lv_at hl 1 rfl) ?_
  refine lv_if_ne (tgt := 1904) hx hb dL_law_1889 (by decide) (fun cz => ?_) (fun cz => ?_)
  · skip
    refine lv_goto (tgt := 2538) hx hb dL_law_1904 (by decide) ?_
    refine W.widen (k := cells + 5) (n := slots + 30) (Nat.add_le_add_left (Nat.le_of_ble_eq_true rfl) _) (Nat.add_le_add_left (Nat.le_of_ble_eq_true rfl) _) ?_
    exact kk H locs ls Z (lv_sub hl [2, 3, 4, 5, 6] rfl)
  have hk0 : k = 0 := nI_inj0 hk4 cz
  have hv := hv hk0
  refine lv_aload_n hx hb dL_law_1892 rfl (lv_at hl 5 rfl) ?_
  refine lv_iconst (v := 0) hx hb dL_law_1893 (by decide) ?_
  refine l_lald X Z dL_law_1894 ?_
  refine lv_iload hx hb dL_law_1895 (lv_at hl 0 rfl) ?_
  refine lv_i2l hx hb dL_law_1897 rfl ?_
  refine W.lcmp hx hb dL_law_1898 ?_
  refine lv_if_eq (tgt := 1904) hx hb dL_law_1899 (by decide) (fun cy => ?_) (fun cy => absurd (by rw [hv]; exact lcmp_self _) cy)
  refine lv_goto (tgt := 2538) hx hb dL_law_1904 (by decide) ?_
  refine W.widen (k := cells + 5) (n := slots + 30) (Nat.add_le_add_left (Nat.le_of_ble_eq_true rfl) _) (Nat.add_le_add_left (Nat.le_of_ble_eq_true rfl) _) ?_
  exact kk H locs ls Z (lv_sub hl [2, 3, 4, 5, 6] rfl)
set_option maxHeartbeats 4000000 in
set_option maxRecDepth 100000 in
theorem law_ticksToCommit {n : Nat} {gc gm : Mem} {ov : Nat → Int64} {x1 : Int32} (X : gC p s m args meth c cL_law 7 (Cond.initialized RX6 :: wA0) RL ret G A) (hX : va_X b L xs s s.heap) (hbl : b < s.heap.size) (hbA : ¬ A b) (hb1 : vp_in (nI i + 1) L) (ha1 : xs (nI i + 1).toNatClampNeg = x1) {gc1 : Mem} {ov1 : Nat → Int64} {k : Nat} (hk4 : k < 4) (hw : cLw l yL_ticksToCommit wmL_ticksToCommit 8 133 1 6 G [.ref (G.1 160), .int x1, .ref (G.1 170)] (wC G gc ++ [oE G ov]) (wC G gc1 ++ [oE G ov1]) k) {q : Int32 × Mem} (hm : sX7_ticksToCommit n gm x1 = some q) (hth : q.2 0 7 = nI k) (hv : k = 0 → ov1 (0 : Int32).toNatClampNeg = q.1.toInt64) (hcs : cells + 5 ≤ room_1.cells ∧ slots + 30 ≤ room_1.slots) (kk : ∀ (H : Heap) (locs : List Loc) (ls : Array Slot), LSt G (wLw G gc1 q.2 ov1) A s.heap H locs → lv_has ls 7 [(0, .ref b), (1, .ref (G.1 160)), (2, .ref ((shG G).1 0)), (3, .ref (G.1 170)), (4, .int (nI i))] → W p l e room_1 s m args below meth c H locs (cells + 5) (slots + 30) Q (F0 m 2538 ls [])) : ∀ (H : Heap) (locs : List Loc) (ls : Array Slot), LSt G (wLw G gc gm ov) A s.heap H locs → lv_has ls 7 [(0, .ref b), (1, .ref (G.1 160)), (2, .ref ((shG G).1 0)), (3, .ref (G.1 170)), (4, .int (nI i))] → W p l e room_1 s m args below meth c H locs cells slots Q (F0 m 1907 ls []) := by
  have hx := X.1
  have hb := X.2.1
  intro H locs ls Z hl
  refine lv_aload_n hx hb dL_law_1907 rfl (lv_at hl 1 rfl) ?_
  refine lv_aload_n hx hb dL_law_1908 rfl (lv_at hl 0 rfl) ?_
  refine lv_iload hx hb dL_law_1909 (lv_at hl 4 rfl) ?_
  refine lv_iconst (v := 1) hx hb dL_law_1911 (by decide) ?_
  refine lv_iadd hx hb dL_law_1912 ?_
  refine l_sld hx hb hX hbl hbA Z.2.2 hb1 ha1 dL_law_1913 ?_
  refine lv_aload_n hx hb dL_law_1914 rfl (lv_at hl 3 rfl) ?_
  rw [← wLw_w] at Z
  refine l_callW (n := 3) (As := [.ref (G.1 160), .int x1, .ref (G.1 170)]) (rest := []) (c1 := cells + 1) (s1 := slots + 6) X Z (adCo G gc _ ov _) hw (gooS mB1245 mB1246 mB1084 mB1040) rfl (by decide +kernel) rfl ⟨Nat.le_of_ble_eq_true rfl, Nat.le_of_ble_eq_true rfl⟩ rfl rfl ⟨Nat.le_trans (Nat.add_le_add_left (Nat.le_of_ble_eq_true rfl) _) hcs.1, Nat.le_trans (Nat.add_le_add_left (Nat.le_of_ble_eq_true rfl) _) hcs.2⟩ hl.1 rfl (Nat.le_of_ble_eq_true rfl) dL_law_1915 (fun H locs Z => ?_)
  rw [wLw_w] at Z
  refine lv_istore (lv' := [(5, .int (nI k)), (0, .ref b), (1, .ref (G.1 160)), (2, .ref ((shG G).1 0)), (3, .ref (G.1 170)), (4, .int (nI i))]) hx hb dL_law_1918 hl (by decide) rfl (fun ls hl => ?_)
  refine lv_aload_n hx hb dL_law_1920 rfl (lv_at hl 3 rfl) ?_
  refine lv_aload_n hx hb dL_law_1921 rfl (lv_at hl 1 rfl) ?_
  refine lv_iload hx hb dL_law_1922 (lv_at hl 5 rfl) ?_
  refine lv_iconst (v := 1) hx hb dL_law_1924 (by decide) ?_
  refine lv_iadd hx hb dL_law_1925 ?_
  refine l_sld hx hb hX hbl hbA Z.2.2 hb1 ha1 dL_law_1926 ?_
  rw [← wLw_m] at Z
  refine l_callI (n := 1) (As := [.int x1]) (rest := []) sameM adM (sG_sh G) X Z (cX7_ticksToCommit_c l hm) oX7 rfl (gooV mB1247 mB1248 mB1249 mB614 mB880) rfl (by decide +kernel) rfl ⟨Nat.le_of_ble_eq_true rfl, Nat.le_of_ble_eq_true rfl⟩ ⟨Nat.le_trans (Nat.add_le_add_left (Nat.le_of_ble_eq_true rfl) _) hcs.1, Nat.le_trans (Nat.add_le_add_left (Nat.le_of_ble_eq_true rfl) _) hcs.2⟩ hl.1 rfl (Nat.le_of_ble_eq_true rfl) dL_law_1927 (fun w9 H locs Z => ?_)
  rw [wLw_m] at Z
  refine lv_istore (lv' := [(6, .int q.1), (5, .int (nI k)), (0, .ref b), (1, .ref (G.1 160)), (2, .ref ((shG G).1 0)), (3, .ref (G.1 170)), (4, .int (nI i))]) hx hb dL_law_1930 hl (by decide) rfl (fun ls hl => ?_)
  refine lv_aload_n hx hb dL_law_1932 rfl (lv_at hl 4 rfl) ?_
  rw [← wLw_m] at Z
  refine l_callI (n := 0) (As := []) (rest := []) sameM adM (sG_sh G) X Z (cX7_thrown_c l (show sX7_thrown _ = some _ from rfl)) oX7 rfl (gooV mB1088 mB1089 mB1090 mB614 mB607) rfl (by decide +kernel) rfl ⟨Nat.le_of_ble_eq_true rfl, Nat.le_of_ble_eq_true rfl⟩ ⟨Nat.le_trans (Nat.add_le_add_left (Nat.le_of_ble_eq_true rfl) _) hcs.1, Nat.le_trans (Nat.add_le_add_left (Nat.le_of_ble_eq_true rfl) _) hcs.2⟩ hl.1 rfl (Nat.le_of_ble_eq_true rfl) dL_law_1933 (fun w9 H locs Z => ?_)
  rw [wLw_m] at Z
  refine lv_iload hx hb dL_law_1936 (lv_at hl 1 rfl) ?_
  refine lv_icmp_eq (tgt := 1943) hx hb dL_law_1938 (by decide) (fun cz => ?_) (fun cz => absurd hth cz)
  refine lv_iload hx hb dL_law_1943 (lv_at hl 1 rfl) ?_
  refine lv_if_ne (tgt := 1960) hx hb dL_law_1945 (by decide) (fun cz => ?_) (fun cz => ?_)
  · skip
    refine lv_goto (tgt := 2538) hx hb dL_law_1960 (by decide) ?_
    refine W.widen (k := cells + 5) (n := slots + 30) (Nat.add_le_add_left (Nat.le_of_ble_eq_true rfl) _) (Nat.add_le_add_left (Nat.le_of_ble_eq_true rfl) _) ?_
    exact kk H locs ls Z (lv_sub hl [2, 3, 4, 5, 6] rfl)
  have hk0 : k = 0 := nI_inj0 hk4 cz
  have hv := hv hk0
  refine lv_aload_n hx hb dL_law_1948 rfl (lv_at hl 5 rfl) ?_
  refine lv_iconst (v := 0) hx hb dL_law_1949 (by decide) ?_
  refine l_lald X Z dL_law_1950 ?_
  refine lv_iload hx hb dL_law_1951 (lv_at hl 0 rfl) ?_
  refine lv_i2l hx hb dL_law_1953 rfl ?_
  refine W.lcmp hx hb dL_law_1954 ?_
  refine lv_if_eq (tgt := 1960) hx hb dL_law_1955 (by decide) (fun cy => ?_) (fun cy => absurd (by rw [hv]; exact lcmp_self _) cy)
  refine lv_goto (tgt := 2538) hx hb dL_law_1960 (by decide) ?_
  refine W.widen (k := cells + 5) (n := slots + 30) (Nat.add_le_add_left (Nat.le_of_ble_eq_true rfl) _) (Nat.add_le_add_left (Nat.le_of_ble_eq_true rfl) _) ?_
  exact kk H locs ls Z (lv_sub hl [2, 3, 4, 5, 6] rfl)
set_option maxHeartbeats 4000000 in
set_option maxRecDepth 100000 in
theorem law_versions {n : Nat} {gc gm : Mem} {ov : Nat → Int64} {x1 : Int32} (X : gC p s m args meth c cL_law 7 (Cond.initialized RX6 :: wA0) RL ret G A) (hX : va_X b L xs s s.heap) (hbl : b < s.heap.size) (hbA : ¬ A b) (hb1 : vp_in (nI i + 1) L) (ha1 : xs (nI i + 1).toNatClampNeg = x1) {gc1 : Mem} {ov1 : Nat → Int64} {k : Nat} (hk4 : k < 4) (hw : cLw l yL_versions wmL_versions 8 132 1 6 G [.ref (G.1 160), .int x1, .ref (G.1 170)] (wC G gc ++ [oE G ov]) (wC G gc1 ++ [oE G ov1]) k) {q : Int32 × Mem} (hm : sX7_versions n gm x1 = some q) (hth : q.2 0 7 = nI k) (hv : k = 0 → ov1 (0 : Int32).toNatClampNeg = q.1.toInt64) (hcs : cells + 5 ≤ room_1.cells ∧ slots + 30 ≤ room_1.slots) (kk : ∀ (H : Heap) (locs : List Loc) (ls : Array Slot), LSt G (wLw G gc1 q.2 ov1) A s.heap H locs → lv_has ls 7 [(0, .ref b), (1, .ref (G.1 160)), (2, .ref ((shG G).1 0)), (3, .ref (G.1 170)), (4, .int (nI i))] → W p l e room_1 s m args below meth c H locs (cells + 5) (slots + 30) Q (F0 m 2538 ls [])) : ∀ (H : Heap) (locs : List Loc) (ls : Array Slot), LSt G (wLw G gc gm ov) A s.heap H locs → lv_has ls 7 [(0, .ref b), (1, .ref (G.1 160)), (2, .ref ((shG G).1 0)), (3, .ref (G.1 170)), (4, .int (nI i))] → W p l e room_1 s m args below meth c H locs cells slots Q (F0 m 1963 ls []) := by
  have hx := X.1
  have hb := X.2.1
  intro H locs ls Z hl
  refine lv_aload_n hx hb dL_law_1963 rfl (lv_at hl 1 rfl) ?_
  refine lv_aload_n hx hb dL_law_1964 rfl (lv_at hl 0 rfl) ?_
  refine lv_iload hx hb dL_law_1965 (lv_at hl 4 rfl) ?_
  refine lv_iconst (v := 1) hx hb dL_law_1967 (by decide) ?_
  refine lv_iadd hx hb dL_law_1968 ?_
  refine l_sld hx hb hX hbl hbA Z.2.2 hb1 ha1 dL_law_1969 ?_
  refine lv_aload_n hx hb dL_law_1970 rfl (lv_at hl 3 rfl) ?_
  rw [← wLw_w] at Z
  refine l_callW (n := 3) (As := [.ref (G.1 160), .int x1, .ref (G.1 170)]) (rest := []) (c1 := cells + 1) (s1 := slots + 6) X Z (adCo G gc _ ov _) hw (gooS mB1250 mB1251 mB1084 mB1041) rfl (by decide +kernel) rfl ⟨Nat.le_of_ble_eq_true rfl, Nat.le_of_ble_eq_true rfl⟩ rfl rfl ⟨Nat.le_trans (Nat.add_le_add_left (Nat.le_of_ble_eq_true rfl) _) hcs.1, Nat.le_trans (Nat.add_le_add_left (Nat.le_of_ble_eq_true rfl) _) hcs.2⟩ hl.1 rfl (Nat.le_of_ble_eq_true rfl) dL_law_1971 (fun H locs Z => ?_)
  rw [wLw_w] at Z
  refine lv_istore (lv' := [(5, .int (nI k)), (0, .ref b), (1, .ref (G.1 160)), (2, .ref ((shG G).1 0)), (3, .ref (G.1 170)), (4, .int (nI i))]) hx hb dL_law_1974 hl (by decide) rfl (fun ls hl => ?_)
  refine lv_aload_n hx hb dL_law_1976 rfl (lv_at hl 3 rfl) ?_
  refine lv_aload_n hx hb dL_law_1977 rfl (lv_at hl 1 rfl) ?_
  refine lv_iload hx hb dL_law_1978 (lv_at hl 5 rfl) ?_
  refine lv_iconst (v := 1) hx hb dL_law_1980 (by decide) ?_
  refine lv_iadd hx hb dL_law_1981 ?_
  refine l_sld hx hb hX hbl hbA Z.2.2 hb1 ha1 dL_law_1982 ?_
  rw [← wLw_m] at Z
  refine l_callI (n := 1) (As := [.int x1]) (rest := []) sameM adM (sG_sh G) X Z (cX7_versions_c l hm) oX7 rfl (gooV mB1252 mB1253 mB1254 mB614 mB881) rfl (by decide +kernel) rfl ⟨Nat.le_of_ble_eq_true rfl, Nat.le_of_ble_eq_true rfl⟩ ⟨Nat.le_trans (Nat.add_le_add_left (Nat.le_of_ble_eq_true rfl) _) hcs.1, Nat.le_trans (Nat.add_le_add_left (Nat.le_of_ble_eq_true rfl) _) hcs.2⟩ hl.1 rfl (Nat.le_of_ble_eq_true rfl) dL_law_1983 (fun w9 H locs Z => ?_)
  rw [wLw_m] at Z
  refine lv_istore (lv' := [(6, .int q.1), (5, .int (nI k)), (0, .ref b), (1, .ref (G.1 160)), (2, .ref ((shG G).1 0)), (3, .ref (G.1 170)), (4, .int (nI i))]) hx hb dL_law_1986 hl (by decide) rfl (fun ls hl => ?_)
  refine lv_aload_n hx hb dL_law_1988 rfl (lv_at hl 4 rfl) ?_
  rw [← wLw_m] at Z
  refine l_callI (n := 0) (As := []) (rest := []) sameM adM (sG_sh G) X Z (cX7_thrown_c l (show sX7_thrown _ = some _ from rfl)) oX7 rfl (gooV mB1088 mB1089 mB1090 mB614 mB607) rfl (by decide +kernel) rfl ⟨Nat.le_of_ble_eq_true rfl, Nat.le_of_ble_eq_true rfl⟩ ⟨Nat.le_trans (Nat.add_le_add_left (Nat.le_of_ble_eq_true rfl) _) hcs.1, Nat.le_trans (Nat.add_le_add_left (Nat.le_of_ble_eq_true rfl) _) hcs.2⟩ hl.1 rfl (Nat.le_of_ble_eq_true rfl) dL_law_1989 (fun w9 H locs Z => ?_)
  rw [wLw_m] at Z
  refine lv_iload hx hb dL_law_1992 (lv_at hl 1 rfl) ?_
  refine lv_icmp_eq (tgt := 1999) hx hb dL_law_1994 (by decide) (fun cz => ?_) (fun cz => absurd hth cz)
  refine lv_iload hx hb dL_law_1999 (lv_at hl 1 rfl) ?_
  refine lv_if_ne (tgt := 2016) hx hb dL_law_2001 (by decide) (fun cz => ?_) (fun cz => ?_)
  · skip
    refine lv_goto (tgt := 2538) hx hb dL_law_2016 (by decide) ?_
    refine W.widen (k := cells + 5) (n := slots + 30) (Nat.add_le_add_left (Nat.le_of_ble_eq_true rfl) _) (Nat.add_le_add_left (Nat.le_of_ble_eq_true rfl) _) ?_
    exact kk H locs ls Z (lv_sub hl [2, 3, 4, 5, 6] rfl)
  have hk0 : k = 0 := nI_inj0 hk4 cz
  have hv := hv hk0
  refine lv_aload_n hx hb dL_law_2004 rfl (lv_at hl 5 rfl) ?_
  refine lv_iconst (v := 0) hx hb dL_law_2005 (by decide) ?_
  refine l_lald X Z dL_law_2006 ?_
  refine lv_iload hx hb dL_law_2007 (lv_at hl 0 rfl) ?_
  refine lv_i2l hx hb dL_law_2009 rfl ?_
  refine W.lcmp hx hb dL_law_2010 ?_
  refine lv_if_eq (tgt := 2016) hx hb dL_law_2011 (by decide) (fun cy => ?_) (fun cy => absurd (by rw [hv]; exact lcmp_self _) cy)
  refine lv_goto (tgt := 2538) hx hb dL_law_2016 (by decide) ?_
  refine W.widen (k := cells + 5) (n := slots + 30) (Nat.add_le_add_left (Nat.le_of_ble_eq_true rfl) _) (Nat.add_le_add_left (Nat.le_of_ble_eq_true rfl) _) ?_
  exact kk H locs ls Z (lv_sub hl [2, 3, 4, 5, 6] rfl)
set_option maxHeartbeats 4000000 in
set_option maxRecDepth 100000 in
theorem law_versionTimestamp {n : Nat} {gc gm : Mem} {ov : Nat → Int64} {x1 : Int32} {x2 : Int32} (X : gC p s m args meth c cL_law 7 (Cond.initialized RX6 :: wA0) RL ret G A) (hX : va_X b L xs s s.heap) (hbl : b < s.heap.size) (hbA : ¬ A b) (hb1 : vp_in (nI i + 1) L) (ha1 : xs (nI i + 1).toNatClampNeg = x1) (hb2 : vp_in (nI i + 2) L) (ha2 : xs (nI i + 2).toNatClampNeg = x2) {gc1 : Mem} {ov1 : Nat → Int64} {k : Nat} (hk4 : k < 4) (hw : cLw l yL_versionTimestamp wmL_versionTimestamp 8 133 2 12 G [.ref (G.1 160), .int x1, .int x2, .ref (G.1 170)] (wC G gc ++ [oE G ov]) (wC G gc1 ++ [oE G ov1]) k) {q : Int32 × Mem} (hm : sX7_versionTimestamp n gm x1 x2 = some q) (hth : q.2 0 7 = nI k) (hv : k = 0 → ov1 (0 : Int32).toNatClampNeg = q.1.toInt64) (hcs : cells + 5 ≤ room_1.cells ∧ slots + 30 ≤ room_1.slots) (kk : ∀ (H : Heap) (locs : List Loc) (ls : Array Slot), LSt G (wLw G gc1 q.2 ov1) A s.heap H locs → lv_has ls 7 [(0, .ref b), (1, .ref (G.1 160)), (2, .ref ((shG G).1 0)), (3, .ref (G.1 170)), (4, .int (nI i))] → W p l e room_1 s m args below meth c H locs (cells + 5) (slots + 30) Q (F0 m 2538 ls [])) : ∀ (H : Heap) (locs : List Loc) (ls : Array Slot), LSt G (wLw G gc gm ov) A s.heap H locs → lv_has ls 7 [(0, .ref b), (1, .ref (G.1 160)), (2, .ref ((shG G).1 0)), (3, .ref (G.1 170)), (4, .int (nI i))] → W p l e room_1 s m args below meth c H locs cells slots Q (F0 m 2019 ls []) := by
  have hx := X.1
  have hb := X.2.1
  intro H locs ls Z hl
  refine lv_aload_n hx hb dL_law_2019 rfl (lv_at hl 1 rfl) ?_
  refine lv_aload_n hx hb dL_law_2020 rfl (lv_at hl 0 rfl) ?_
  refine lv_iload hx hb dL_law_2021 (lv_at hl 4 rfl) ?_
  refine lv_iconst (v := 1) hx hb dL_law_2023 (by decide) ?_
  refine lv_iadd hx hb dL_law_2024 ?_
  refine l_sld hx hb hX hbl hbA Z.2.2 hb1 ha1 dL_law_2025 ?_
  refine lv_aload_n hx hb dL_law_2026 rfl (lv_at hl 0 rfl) ?_
  refine lv_iload hx hb dL_law_2027 (lv_at hl 4 rfl) ?_
  refine lv_iconst (v := 2) hx hb dL_law_2029 (by decide) ?_
  refine lv_iadd hx hb dL_law_2030 ?_
  refine l_sld hx hb hX hbl hbA Z.2.2 hb2 ha2 dL_law_2031 ?_
  refine lv_aload_n hx hb dL_law_2032 rfl (lv_at hl 3 rfl) ?_
  rw [← wLw_w] at Z
  refine l_callW (n := 4) (As := [.ref (G.1 160), .int x1, .int x2, .ref (G.1 170)]) (rest := []) (c1 := cells + 2) (s1 := slots + 12) X Z (adCo G gc _ ov _) hw (gooS mB1255 mB1256 mB1084 mB1045) rfl (by decide +kernel) rfl ⟨Nat.le_of_ble_eq_true rfl, Nat.le_of_ble_eq_true rfl⟩ rfl rfl ⟨Nat.le_trans (Nat.add_le_add_left (Nat.le_of_ble_eq_true rfl) _) hcs.1, Nat.le_trans (Nat.add_le_add_left (Nat.le_of_ble_eq_true rfl) _) hcs.2⟩ hl.1 rfl (Nat.le_of_ble_eq_true rfl) dL_law_2033 (fun H locs Z => ?_)
  rw [wLw_w] at Z
  refine lv_istore (lv' := [(5, .int (nI k)), (0, .ref b), (1, .ref (G.1 160)), (2, .ref ((shG G).1 0)), (3, .ref (G.1 170)), (4, .int (nI i))]) hx hb dL_law_2036 hl (by decide) rfl (fun ls hl => ?_)
  refine lv_aload_n hx hb dL_law_2038 rfl (lv_at hl 3 rfl) ?_
  refine lv_aload_n hx hb dL_law_2039 rfl (lv_at hl 1 rfl) ?_
  refine lv_iload hx hb dL_law_2040 (lv_at hl 5 rfl) ?_
  refine lv_iconst (v := 1) hx hb dL_law_2042 (by decide) ?_
  refine lv_iadd hx hb dL_law_2043 ?_
  refine l_sld hx hb hX hbl hbA Z.2.2 hb1 ha1 dL_law_2044 ?_
  refine lv_aload_n hx hb dL_law_2045 rfl (lv_at hl 1 rfl) ?_
  refine lv_iload hx hb dL_law_2046 (lv_at hl 5 rfl) ?_
  refine lv_iconst (v := 2) hx hb dL_law_2048 (by decide) ?_
  refine lv_iadd hx hb dL_law_2049 ?_
  refine l_sld hx hb hX hbl hbA Z.2.2 hb2 ha2 dL_law_2050 ?_
  rw [← wLw_m] at Z
  refine l_callI (n := 2) (As := [.int x1, .int x2]) (rest := []) sameM adM (sG_sh G) X Z (cX7_versionTimestamp_c l hm) oX7 rfl (gooV mB1257 mB1258 mB1259 mB614 mB886) rfl (by decide +kernel) rfl ⟨Nat.le_of_ble_eq_true rfl, Nat.le_of_ble_eq_true rfl⟩ ⟨Nat.le_trans (Nat.add_le_add_left (Nat.le_of_ble_eq_true rfl) _) hcs.1, Nat.le_trans (Nat.add_le_add_left (Nat.le_of_ble_eq_true rfl) _) hcs.2⟩ hl.1 rfl (Nat.le_of_ble_eq_true rfl) dL_law_2051 (fun w9 H locs Z => ?_)
  rw [wLw_m] at Z
  refine lv_istore (lv' := [(6, .int q.1), (5, .int (nI k)), (0, .ref b), (1, .ref (G.1 160)), (2, .ref ((shG G).1 0)), (3, .ref (G.1 170)), (4, .int (nI i))]) hx hb dL_law_2054 hl (by decide) rfl (fun ls hl => ?_)
  refine lv_aload_n hx hb dL_law_2056 rfl (lv_at hl 4 rfl) ?_
  rw [← wLw_m] at Z
  refine l_callI (n := 0) (As := []) (rest := []) sameM adM (sG_sh G) X Z (cX7_thrown_c l (show sX7_thrown _ = some _ from rfl)) oX7 rfl (gooV mB1088 mB1089 mB1090 mB614 mB607) rfl (by decide +kernel) rfl ⟨Nat.le_of_ble_eq_true rfl, Nat.le_of_ble_eq_true rfl⟩ ⟨Nat.le_trans (Nat.add_le_add_left (Nat.le_of_ble_eq_true rfl) _) hcs.1, Nat.le_trans (Nat.add_le_add_left (Nat.le_of_ble_eq_true rfl) _) hcs.2⟩ hl.1 rfl (Nat.le_of_ble_eq_true rfl) dL_law_2057 (fun w9 H locs Z => ?_)
  rw [wLw_m] at Z
  refine lv_iload hx hb dL_law_2060 (lv_at hl 1 rfl) ?_
  refine lv_icmp_eq (tgt := 2067) hx hb dL_law_2062 (by decide) (fun cz => ?_) (fun cz => absurd hth cz)
  refine lv_iload hx hb dL_law_2067 (lv_at hl 1 rfl) ?_
  refine lv_if_ne (tgt := 2084) hx hb dL_law_2069 (by decide) (fun cz => ?_) (fun cz => ?_)
  · skip
    refine lv_goto (tgt := 2538) hx hb dL_law_2084 (by decide) ?_
    refine W.widen (k := cells + 5) (n := slots + 30) (Nat.add_le_add_left (Nat.le_of_ble_eq_true rfl) _) (Nat.add_le_add_left (Nat.le_of_ble_eq_true rfl) _) ?_
    exact kk H locs ls Z (lv_sub hl [2, 3, 4, 5, 6] rfl)
  have hk0 : k = 0 := nI_inj0 hk4 cz
  have hv := hv hk0
  refine lv_aload_n hx hb dL_law_2072 rfl (lv_at hl 5 rfl) ?_
  refine lv_iconst (v := 0) hx hb dL_law_2073 (by decide) ?_
  refine l_lald X Z dL_law_2074 ?_
  refine lv_iload hx hb dL_law_2075 (lv_at hl 0 rfl) ?_
  refine lv_i2l hx hb dL_law_2077 rfl ?_
  refine W.lcmp hx hb dL_law_2078 ?_
  refine lv_if_eq (tgt := 2084) hx hb dL_law_2079 (by decide) (fun cy => ?_) (fun cy => absurd (by rw [hv]; exact lcmp_self _) cy)
  refine lv_goto (tgt := 2538) hx hb dL_law_2084 (by decide) ?_
  refine W.widen (k := cells + 5) (n := slots + 30) (Nat.add_le_add_left (Nat.le_of_ble_eq_true rfl) _) (Nat.add_le_add_left (Nat.le_of_ble_eq_true rfl) _) ?_
  exact kk H locs ls Z (lv_sub hl [2, 3, 4, 5, 6] rfl)
set_option maxHeartbeats 4000000 in
set_option maxRecDepth 100000 in
theorem law_valueAt {n : Nat} {gc gm : Mem} {ov : Nat → Int64} {x1 : Int32} {x2 : Int32} (X : gC p s m args meth c cL_law 7 (Cond.initialized RX6 :: wA0) RL ret G A) (hX : va_X b L xs s s.heap) (hbl : b < s.heap.size) (hbA : ¬ A b) (hb1 : vp_in (nI i + 1) L) (ha1 : xs (nI i + 1).toNatClampNeg = x1) (hb2 : vp_in (nI i + 2) L) (ha2 : xs (nI i + 2).toNatClampNeg = x2) {gc1 : Mem} {ov1 : Nat → Int64} {k : Nat} (hk4 : k < 4) (hw : cLw l yL_valueAt wmL_valueAt 8 133 2 12 G [.ref (G.1 160), .int x1, .int x2, .ref (G.1 170)] (wC G gc ++ [oE G ov]) (wC G gc1 ++ [oE G ov1]) k) {q : Int32 × Mem} (hm : sX7_valueAt n gm x1 x2 = some q) (hth : q.2 0 7 = nI k) (hv : k = 0 → ov1 (0 : Int32).toNatClampNeg = q.1.toInt64) (hcs : cells + 5 ≤ room_1.cells ∧ slots + 30 ≤ room_1.slots) (kk : ∀ (H : Heap) (locs : List Loc) (ls : Array Slot), LSt G (wLw G gc1 q.2 ov1) A s.heap H locs → lv_has ls 7 [(0, .ref b), (1, .ref (G.1 160)), (2, .ref ((shG G).1 0)), (3, .ref (G.1 170)), (4, .int (nI i))] → W p l e room_1 s m args below meth c H locs (cells + 5) (slots + 30) Q (F0 m 2538 ls [])) : ∀ (H : Heap) (locs : List Loc) (ls : Array Slot), LSt G (wLw G gc gm ov) A s.heap H locs → lv_has ls 7 [(0, .ref b), (1, .ref (G.1 160)), (2, .ref ((shG G).1 0)), (3, .ref (G.1 170)), (4, .int (nI i))] → W p l e room_1 s m args below meth c H locs cells slots Q (F0 m 2087 ls []) := by
  have hx := X.1
  have hb := X.2.1
  intro H locs ls Z hl
  refine lv_aload_n hx hb dL_law_2087 rfl (lv_at hl 1 rfl) ?_
  refine lv_aload_n hx hb dL_law_2088 rfl (lv_at hl 0 rfl) ?_
  refine lv_iload hx hb dL_law_2089 (lv_at hl 4 rfl) ?_
  refine lv_iconst (v := 1) hx hb dL_law_2091 (by decide) ?_
  refine lv_iadd hx hb dL_law_2092 ?_
  refine l_sld hx hb hX hbl hbA Z.2.2 hb1 ha1 dL_law_2093 ?_
  refine lv_aload_n hx hb dL_law_2094 rfl (lv_at hl 0 rfl) ?_
  refine lv_iload hx hb dL_law_2095 (lv_at hl 4 rfl) ?_
  refine lv_iconst (v := 2) hx hb dL_law_2097 (by decide) ?_
  refine lv_iadd hx hb dL_law_2098 ?_
  refine l_sld hx hb hX hbl hbA Z.2.2 hb2 ha2 dL_law_2099 ?_
  refine lv_aload_n hx hb dL_law_2100 rfl (lv_at hl 3 rfl) ?_
  rw [← wLw_w] at Z
  refine l_callW (n := 4) (As := [.ref (G.1 160), .int x1, .int x2, .ref (G.1 170)]) (rest := []) (c1 := cells + 2) (s1 := slots + 12) X Z (adCo G gc _ ov _) hw (gooS mB1260 mB1261 mB1084 mB1052) rfl (by decide +kernel) rfl ⟨Nat.le_of_ble_eq_true rfl, Nat.le_of_ble_eq_true rfl⟩ rfl rfl ⟨Nat.le_trans (Nat.add_le_add_left (Nat.le_of_ble_eq_true rfl) _) hcs.1, Nat.le_trans (Nat.add_le_add_left (Nat.le_of_ble_eq_true rfl) _) hcs.2⟩ hl.1 rfl (Nat.le_of_ble_eq_true rfl) dL_law_2101 (fun H locs Z => ?_)
  rw [wLw_w] at Z
  refine lv_istore (lv' := [(5, .int (nI k)), (0, .ref b), (1, .ref (G.1 160)), (2, .ref ((shG G).1 0)), (3, .ref (G.1 170)), (4, .int (nI i))]) hx hb dL_law_2104 hl (by decide) rfl (fun ls hl => ?_)
  refine lv_aload_n hx hb dL_law_2106 rfl (lv_at hl 3 rfl) ?_
  refine lv_aload_n hx hb dL_law_2107 rfl (lv_at hl 1 rfl) ?_
  refine lv_iload hx hb dL_law_2108 (lv_at hl 5 rfl) ?_
  refine lv_iconst (v := 1) hx hb dL_law_2110 (by decide) ?_
  refine lv_iadd hx hb dL_law_2111 ?_
  refine l_sld hx hb hX hbl hbA Z.2.2 hb1 ha1 dL_law_2112 ?_
  refine lv_aload_n hx hb dL_law_2113 rfl (lv_at hl 1 rfl) ?_
  refine lv_iload hx hb dL_law_2114 (lv_at hl 5 rfl) ?_
  refine lv_iconst (v := 2) hx hb dL_law_2116 (by decide) ?_
  refine lv_iadd hx hb dL_law_2117 ?_
  refine l_sld hx hb hX hbl hbA Z.2.2 hb2 ha2 dL_law_2118 ?_
  rw [← wLw_m] at Z
  refine l_callI (n := 2) (As := [.int x1, .int x2]) (rest := []) sameM adM (sG_sh G) X Z (cX7_valueAt_c l hm) oX7 rfl (gooV mB1262 mB1263 mB1264 mB614 mB891) rfl (by decide +kernel) rfl ⟨Nat.le_of_ble_eq_true rfl, Nat.le_of_ble_eq_true rfl⟩ ⟨Nat.le_trans (Nat.add_le_add_left (Nat.le_of_ble_eq_true rfl) _) hcs.1, Nat.le_trans (Nat.add_le_add_left (Nat.le_of_ble_eq_true rfl) _) hcs.2⟩ hl.1 rfl (Nat.le_of_ble_eq_true rfl) dL_law_2119 (fun w9 H locs Z => ?_)
  rw [wLw_m] at Z
  refine lv_istore (lv' := [(6, .int q.1), (5, .int (nI k)), (0, .ref b), (1, .ref (G.1 160)), (2, .ref ((shG G).1 0)), (3, .ref (G.1 170)), (4, .int (nI i))]) hx hb dL_law_2122 hl (by decide) rfl (fun ls hl => ?_)
  refine lv_aload_n hx hb dL_law_2124 rfl (lv_at hl 4 rfl) ?_
  rw [← wLw_m] at Z
  refine l_callI (n := 0) (As := []) (rest := []) sameM adM (sG_sh G) X Z (cX7_thrown_c l (show sX7_thrown _ = some _ from rfl)) oX7 rfl (gooV mB1088 mB1089 mB1090 mB614 mB607) rfl (by decide +kernel) rfl ⟨Nat.le_of_ble_eq_true rfl, Nat.le_of_ble_eq_true rfl⟩ ⟨Nat.le_trans (Nat.add_le_add_left (Nat.le_of_ble_eq_true rfl) _) hcs.1, Nat.le_trans (Nat.add_le_add_left (Nat.le_of_ble_eq_true rfl) _) hcs.2⟩ hl.1 rfl (Nat.le_of_ble_eq_true rfl) dL_law_2125 (fun w9 H locs Z => ?_)
  rw [wLw_m] at Z
  refine lv_iload hx hb dL_law_2128 (lv_at hl 1 rfl) ?_
  refine lv_icmp_eq (tgt := 2135) hx hb dL_law_2130 (by decide) (fun cz => ?_) (fun cz => absurd hth cz)
  refine lv_iload hx hb dL_law_2135 (lv_at hl 1 rfl) ?_
  refine lv_if_ne (tgt := 2152) hx hb dL_law_2137 (by decide) (fun cz => ?_) (fun cz => ?_)
  · skip
    refine lv_goto (tgt := 2538) hx hb dL_law_2152 (by decide) ?_
    refine W.widen (k := cells + 5) (n := slots + 30) (Nat.add_le_add_left (Nat.le_of_ble_eq_true rfl) _) (Nat.add_le_add_left (Nat.le_of_ble_eq_true rfl) _) ?_
    exact kk H locs ls Z (lv_sub hl [2, 3, 4, 5, 6] rfl)
  have hk0 : k = 0 := nI_inj0 hk4 cz
  have hv := hv hk0
  refine lv_aload_n hx hb dL_law_2140 rfl (lv_at hl 5 rfl) ?_
  refine lv_iconst (v := 0) hx hb dL_law_2141 (by decide) ?_
  refine l_lald X Z dL_law_2142 ?_
  refine lv_iload hx hb dL_law_2143 (lv_at hl 0 rfl) ?_
  refine lv_i2l hx hb dL_law_2145 rfl ?_
  refine W.lcmp hx hb dL_law_2146 ?_
  refine lv_if_eq (tgt := 2152) hx hb dL_law_2147 (by decide) (fun cy => ?_) (fun cy => absurd (by rw [hv]; exact lcmp_self _) cy)
  refine lv_goto (tgt := 2538) hx hb dL_law_2152 (by decide) ?_
  refine W.widen (k := cells + 5) (n := slots + 30) (Nat.add_le_add_left (Nat.le_of_ble_eq_true rfl) _) (Nat.add_le_add_left (Nat.le_of_ble_eq_true rfl) _) ?_
  exact kk H locs ls Z (lv_sub hl [2, 3, 4, 5, 6] rfl)
set_option maxHeartbeats 4000000 in
set_option maxRecDepth 100000 in
theorem law_replayedValueAt {n : Nat} {gc gm : Mem} {ov : Nat → Int64} {x1 : Int32} {x2 : Int32} (X : gC p s m args meth c cL_law 7 (Cond.initialized RX6 :: wA0) RL ret G A) (hX : va_X b L xs s s.heap) (hbl : b < s.heap.size) (hbA : ¬ A b) (hb1 : vp_in (nI i + 1) L) (ha1 : xs (nI i + 1).toNatClampNeg = x1) (hb2 : vp_in (nI i + 2) L) (ha2 : xs (nI i + 2).toNatClampNeg = x2) {gc1 : Mem} {ov1 : Nat → Int64} {k : Nat} (hk4 : k < 4) (hw : cLw l yL_replayedValueAt wmL_replayedValueAt 8 133 2 12 G [.ref (G.1 160), .int x1, .int x2, .ref (G.1 170)] (wC G gc ++ [oE G ov]) (wC G gc1 ++ [oE G ov1]) k) {q : Int32 × Mem} (hm : sX7_replayedValueAt n gm x1 x2 = some q) (hth : q.2 0 7 = nI k) (hv : k = 0 → ov1 (0 : Int32).toNatClampNeg = q.1.toInt64) (hcs : cells + 5 ≤ room_1.cells ∧ slots + 30 ≤ room_1.slots) (kk : ∀ (H : Heap) (locs : List Loc) (ls : Array Slot), LSt G (wLw G gc1 q.2 ov1) A s.heap H locs → lv_has ls 7 [(0, .ref b), (1, .ref (G.1 160)), (2, .ref ((shG G).1 0)), (3, .ref (G.1 170)), (4, .int (nI i))] → W p l e room_1 s m args below meth c H locs (cells + 5) (slots + 30) Q (F0 m 2538 ls [])) : ∀ (H : Heap) (locs : List Loc) (ls : Array Slot), LSt G (wLw G gc gm ov) A s.heap H locs → lv_has ls 7 [(0, .ref b), (1, .ref (G.1 160)), (2, .ref ((shG G).1 0)), (3, .ref (G.1 170)), (4, .int (nI i))] → W p l e room_1 s m args below meth c H locs cells slots Q (F0 m 2155 ls []) := by
  have hx := X.1
  have hb := X.2.1
  intro H locs ls Z hl
  refine lv_aload_n hx hb dL_law_2155 rfl (lv_at hl 1 rfl) ?_
  refine lv_aload_n hx hb dL_law_2156 rfl (lv_at hl 0 rfl) ?_
  refine lv_iload hx hb dL_law_2157 (lv_at hl 4 rfl) ?_
  refine lv_iconst (v := 1) hx hb dL_law_2159 (by decide) ?_
  refine lv_iadd hx hb dL_law_2160 ?_
  refine l_sld hx hb hX hbl hbA Z.2.2 hb1 ha1 dL_law_2161 ?_
  refine lv_aload_n hx hb dL_law_2162 rfl (lv_at hl 0 rfl) ?_
  refine lv_iload hx hb dL_law_2163 (lv_at hl 4 rfl) ?_
  refine lv_iconst (v := 2) hx hb dL_law_2165 (by decide) ?_
  refine lv_iadd hx hb dL_law_2166 ?_
  refine l_sld hx hb hX hbl hbA Z.2.2 hb2 ha2 dL_law_2167 ?_
  refine lv_aload_n hx hb dL_law_2168 rfl (lv_at hl 3 rfl) ?_
  rw [← wLw_w] at Z
  refine l_callW (n := 4) (As := [.ref (G.1 160), .int x1, .int x2, .ref (G.1 170)]) (rest := []) (c1 := cells + 2) (s1 := slots + 12) X Z (adCo G gc _ ov _) hw (gooS mB1265 mB1266 mB1084 mB1056) rfl (by decide +kernel) rfl ⟨Nat.le_of_ble_eq_true rfl, Nat.le_of_ble_eq_true rfl⟩ rfl rfl ⟨Nat.le_trans (Nat.add_le_add_left (Nat.le_of_ble_eq_true rfl) _) hcs.1, Nat.le_trans (Nat.add_le_add_left (Nat.le_of_ble_eq_true rfl) _) hcs.2⟩ hl.1 rfl (Nat.le_of_ble_eq_true rfl) dL_law_2169 (fun H locs Z => ?_)
  rw [wLw_w] at Z
  refine lv_istore (lv' := [(5, .int (nI k)), (0, .ref b), (1, .ref (G.1 160)), (2, .ref ((shG G).1 0)), (3, .ref (G.1 170)), (4, .int (nI i))]) hx hb dL_law_2172 hl (by decide) rfl (fun ls hl => ?_)
  refine lv_aload_n hx hb dL_law_2174 rfl (lv_at hl 3 rfl) ?_
  refine lv_aload_n hx hb dL_law_2175 rfl (lv_at hl 1 rfl) ?_
  refine lv_iload hx hb dL_law_2176 (lv_at hl 5 rfl) ?_
  refine lv_iconst (v := 1) hx hb dL_law_2178 (by decide) ?_
  refine lv_iadd hx hb dL_law_2179 ?_
  refine l_sld hx hb hX hbl hbA Z.2.2 hb1 ha1 dL_law_2180 ?_
  refine lv_aload_n hx hb dL_law_2181 rfl (lv_at hl 1 rfl) ?_
  refine lv_iload hx hb dL_law_2182 (lv_at hl 5 rfl) ?_
  refine lv_iconst (v := 2) hx hb dL_law_2184 (by decide) ?_
  refine lv_iadd hx hb dL_law_2185 ?_
  refine l_sld hx hb hX hbl hbA Z.2.2 hb2 ha2 dL_law_2186 ?_
  rw [← wLw_m] at Z
  refine l_callI (n := 2) (As := [.int x1, .int x2]) (rest := []) sameM adM (sG_sh G) X Z (cX7_replayedValueAt_c l hm) oX7 rfl (gooV mB1267 mB1268 mB1269 mB614 mB896) rfl (by decide +kernel) rfl ⟨Nat.le_of_ble_eq_true rfl, Nat.le_of_ble_eq_true rfl⟩ ⟨Nat.le_trans (Nat.add_le_add_left (Nat.le_of_ble_eq_true rfl) _) hcs.1, Nat.le_trans (Nat.add_le_add_left (Nat.le_of_ble_eq_true rfl) _) hcs.2⟩ hl.1 rfl (Nat.le_of_ble_eq_true rfl) dL_law_2187 (fun w9 H locs Z => ?_)
  rw [wLw_m] at Z
  refine lv_istore (lv' := [(6, .int q.1), (5, .int (nI k)), (0, .ref b), (1, .ref (G.1 160)), (2, .ref ((shG G).1 0)), (3, .ref (G.1 170)), (4, .int (nI i))]) hx hb dL_law_2190 hl (by decide) rfl (fun ls hl => ?_)
  refine lv_aload_n hx hb dL_law_2192 rfl (lv_at hl 4 rfl) ?_
  rw [← wLw_m] at Z
  refine l_callI (n := 0) (As := []) (rest := []) sameM adM (sG_sh G) X Z (cX7_thrown_c l (show sX7_thrown _ = some _ from rfl)) oX7 rfl (gooV mB1088 mB1089 mB1090 mB614 mB607) rfl (by decide +kernel) rfl ⟨Nat.le_of_ble_eq_true rfl, Nat.le_of_ble_eq_true rfl⟩ ⟨Nat.le_trans (Nat.add_le_add_left (Nat.le_of_ble_eq_true rfl) _) hcs.1, Nat.le_trans (Nat.add_le_add_left (Nat.le_of_ble_eq_true rfl) _) hcs.2⟩ hl.1 rfl (Nat.le_of_ble_eq_true rfl) dL_law_2193 (fun w9 H locs Z => ?_)
  rw [wLw_m] at Z
  refine lv_iload hx hb dL_law_2196 (lv_at hl 1 rfl) ?_
  refine lv_icmp_eq (tgt := 2203) hx hb dL_law_2198 (by decide) (fun cz => ?_) (fun cz => absurd hth cz)
  refine lv_iload hx hb dL_law_2203 (lv_at hl 1 rfl) ?_
  refine lv_if_ne (tgt := 2220) hx hb dL_law_2205 (by decide) (fun cz => ?_) (fun cz => ?_)
  · skip
    refine lv_goto (tgt := 2538) hx hb dL_law_2220 (by decide) ?_
    refine W.widen (k := cells + 5) (n := slots + 30) (Nat.add_le_add_left (Nat.le_of_ble_eq_true rfl) _) (Nat.add_le_add_left (Nat.le_of_ble_eq_true rfl) _) ?_
    exact kk H locs ls Z (lv_sub hl [2, 3, 4, 5, 6] rfl)
  have hk0 : k = 0 := nI_inj0 hk4 cz
  have hv := hv hk0
  refine lv_aload_n hx hb dL_law_2208 rfl (lv_at hl 5 rfl) ?_
  refine lv_iconst (v := 0) hx hb dL_law_2209 (by decide) ?_
  refine l_lald X Z dL_law_2210 ?_
  refine lv_iload hx hb dL_law_2211 (lv_at hl 0 rfl) ?_
  refine lv_i2l hx hb dL_law_2213 rfl ?_
  refine W.lcmp hx hb dL_law_2214 ?_
  refine lv_if_eq (tgt := 2220) hx hb dL_law_2215 (by decide) (fun cy => ?_) (fun cy => absurd (by rw [hv]; exact lcmp_self _) cy)
  refine lv_goto (tgt := 2538) hx hb dL_law_2220 (by decide) ?_
  refine W.widen (k := cells + 5) (n := slots + 30) (Nat.add_le_add_left (Nat.le_of_ble_eq_true rfl) _) (Nat.add_le_add_left (Nat.le_of_ble_eq_true rfl) _) ?_
  exact kk H locs ls Z (lv_sub hl [2, 3, 4, 5, 6] rfl)
set_option maxHeartbeats 4000000 in
set_option maxRecDepth 100000 in
theorem law_waitingWriter {n : Nat} {gc gm : Mem} {ov : Nat → Int64} {x1 : Int32} (X : gC p s m args meth c cL_law 7 (Cond.initialized RX6 :: wA0) RL ret G A) (hX : va_X b L xs s s.heap) (hbl : b < s.heap.size) (hbA : ¬ A b) (hb1 : vp_in (nI i + 1) L) (ha1 : xs (nI i + 1).toNatClampNeg = x1) {gc1 : Mem} {ov1 : Nat → Int64} {k : Nat} (hk4 : k < 4) (hw : cLw l yL_waitingWriter wmL_waitingWriter 8 132 1 6 G [.ref (G.1 160), .int x1, .ref (G.1 170)] (wC G gc ++ [oE G ov]) (wC G gc1 ++ [oE G ov1]) k) {q : Int32 × Mem} (hm : sX7_waitingWriter n gm x1 = some q) (hth : q.2 0 7 = nI k) (hv : k = 0 → ov1 (0 : Int32).toNatClampNeg = q.1.toInt64) (hcs : cells + 5 ≤ room_1.cells ∧ slots + 30 ≤ room_1.slots) (kk : ∀ (H : Heap) (locs : List Loc) (ls : Array Slot), LSt G (wLw G gc1 q.2 ov1) A s.heap H locs → lv_has ls 7 [(0, .ref b), (1, .ref (G.1 160)), (2, .ref ((shG G).1 0)), (3, .ref (G.1 170)), (4, .int (nI i))] → W p l e room_1 s m args below meth c H locs (cells + 5) (slots + 30) Q (F0 m 2538 ls [])) : ∀ (H : Heap) (locs : List Loc) (ls : Array Slot), LSt G (wLw G gc gm ov) A s.heap H locs → lv_has ls 7 [(0, .ref b), (1, .ref (G.1 160)), (2, .ref ((shG G).1 0)), (3, .ref (G.1 170)), (4, .int (nI i))] → W p l e room_1 s m args below meth c H locs cells slots Q (F0 m 2223 ls []) := by
  have hx := X.1
  have hb := X.2.1
  intro H locs ls Z hl
  refine lv_aload_n hx hb dL_law_2223 rfl (lv_at hl 1 rfl) ?_
  refine lv_aload_n hx hb dL_law_2224 rfl (lv_at hl 0 rfl) ?_
  refine lv_iload hx hb dL_law_2225 (lv_at hl 4 rfl) ?_
  refine lv_iconst (v := 1) hx hb dL_law_2227 (by decide) ?_
  refine lv_iadd hx hb dL_law_2228 ?_
  refine l_sld hx hb hX hbl hbA Z.2.2 hb1 ha1 dL_law_2229 ?_
  refine lv_aload_n hx hb dL_law_2230 rfl (lv_at hl 3 rfl) ?_
  rw [← wLw_w] at Z
  refine l_callW (n := 3) (As := [.ref (G.1 160), .int x1, .ref (G.1 170)]) (rest := []) (c1 := cells + 1) (s1 := slots + 6) X Z (adCo G gc _ ov _) hw (gooS mB1270 mB1271 mB1084 mB1060) rfl (by decide +kernel) rfl ⟨Nat.le_of_ble_eq_true rfl, Nat.le_of_ble_eq_true rfl⟩ rfl rfl ⟨Nat.le_trans (Nat.add_le_add_left (Nat.le_of_ble_eq_true rfl) _) hcs.1, Nat.le_trans (Nat.add_le_add_left (Nat.le_of_ble_eq_true rfl) _) hcs.2⟩ hl.1 rfl (Nat.le_of_ble_eq_true rfl) dL_law_2231 (fun H locs Z => ?_)
  rw [wLw_w] at Z
  refine lv_istore (lv' := [(5, .int (nI k)), (0, .ref b), (1, .ref (G.1 160)), (2, .ref ((shG G).1 0)), (3, .ref (G.1 170)), (4, .int (nI i))]) hx hb dL_law_2234 hl (by decide) rfl (fun ls hl => ?_)
  refine lv_aload_n hx hb dL_law_2236 rfl (lv_at hl 3 rfl) ?_
  refine lv_aload_n hx hb dL_law_2237 rfl (lv_at hl 1 rfl) ?_
  refine lv_iload hx hb dL_law_2238 (lv_at hl 5 rfl) ?_
  refine lv_iconst (v := 1) hx hb dL_law_2240 (by decide) ?_
  refine lv_iadd hx hb dL_law_2241 ?_
  refine l_sld hx hb hX hbl hbA Z.2.2 hb1 ha1 dL_law_2242 ?_
  rw [← wLw_m] at Z
  refine l_callI (n := 1) (As := [.int x1]) (rest := []) sameM adM (sG_sh G) X Z (cX7_waitingWriter_c l hm) oX7 rfl (gooV mB1272 mB1273 mB1274 mB614 mB897) rfl (by decide +kernel) rfl ⟨Nat.le_of_ble_eq_true rfl, Nat.le_of_ble_eq_true rfl⟩ ⟨Nat.le_trans (Nat.add_le_add_left (Nat.le_of_ble_eq_true rfl) _) hcs.1, Nat.le_trans (Nat.add_le_add_left (Nat.le_of_ble_eq_true rfl) _) hcs.2⟩ hl.1 rfl (Nat.le_of_ble_eq_true rfl) dL_law_2243 (fun w9 H locs Z => ?_)
  rw [wLw_m] at Z
  refine lv_istore (lv' := [(6, .int q.1), (5, .int (nI k)), (0, .ref b), (1, .ref (G.1 160)), (2, .ref ((shG G).1 0)), (3, .ref (G.1 170)), (4, .int (nI i))]) hx hb dL_law_2246 hl (by decide) rfl (fun ls hl => ?_)
  refine lv_aload_n hx hb dL_law_2248 rfl (lv_at hl 4 rfl) ?_
  rw [← wLw_m] at Z
  refine l_callI (n := 0) (As := []) (rest := []) sameM adM (sG_sh G) X Z (cX7_thrown_c l (show sX7_thrown _ = some _ from rfl)) oX7 rfl (gooV mB1088 mB1089 mB1090 mB614 mB607) rfl (by decide +kernel) rfl ⟨Nat.le_of_ble_eq_true rfl, Nat.le_of_ble_eq_true rfl⟩ ⟨Nat.le_trans (Nat.add_le_add_left (Nat.le_of_ble_eq_true rfl) _) hcs.1, Nat.le_trans (Nat.add_le_add_left (Nat.le_of_ble_eq_true rfl) _) hcs.2⟩ hl.1 rfl (Nat.le_of_ble_eq_true rfl) dL_law_2249 (fun w9 H locs Z => ?_)
  rw [wLw_m] at Z
  refine lv_iload hx hb dL_law_2252 (lv_at hl 1 rfl) ?_
  refine lv_icmp_eq (tgt := 2259) hx hb dL_law_2254 (by decide) (fun cz => ?_) (fun cz => absurd hth cz)
  refine lv_iload hx hb dL_law_2259 (lv_at hl 1 rfl) ?_
  refine lv_if_ne (tgt := 2276) hx hb dL_law_2261 (by decide) (fun cz => ?_) (fun cz => ?_)
  · skip
    refine lv_goto (tgt := 2538) hx hb dL_law_2276 (by decide) ?_
    refine W.widen (k := cells + 5) (n := slots + 30) (Nat.add_le_add_left (Nat.le_of_ble_eq_true rfl) _) (Nat.add_le_add_left (Nat.le_of_ble_eq_true rfl) _) ?_
    exact kk H locs ls Z (lv_sub hl [2, 3, 4, 5, 6] rfl)
  have hk0 : k = 0 := nI_inj0 hk4 cz
  have hv := hv hk0
  refine lv_aload_n hx hb dL_law_2264 rfl (lv_at hl 5 rfl) ?_
  refine lv_iconst (v := 0) hx hb dL_law_2265 (by decide) ?_
  refine l_lald X Z dL_law_2266 ?_
  refine lv_iload hx hb dL_law_2267 (lv_at hl 0 rfl) ?_
  refine lv_i2l hx hb dL_law_2269 rfl ?_
  refine W.lcmp hx hb dL_law_2270 ?_
  refine lv_if_eq (tgt := 2276) hx hb dL_law_2271 (by decide) (fun cy => ?_) (fun cy => absurd (by rw [hv]; exact lcmp_self _) cy)
  refine lv_goto (tgt := 2538) hx hb dL_law_2276 (by decide) ?_
  refine W.widen (k := cells + 5) (n := slots + 30) (Nat.add_le_add_left (Nat.le_of_ble_eq_true rfl) _) (Nat.add_le_add_left (Nat.le_of_ble_eq_true rfl) _) ?_
  exact kk H locs ls Z (lv_sub hl [2, 3, 4, 5, 6] rfl)
set_option maxHeartbeats 4000000 in
set_option maxRecDepth 100000 in
theorem law_readerMark {n : Nat} {gc gm : Mem} {ov : Nat → Int64} {x1 : Int32} (X : gC p s m args meth c cL_law 7 (Cond.initialized RX6 :: wA0) RL ret G A) (hX : va_X b L xs s s.heap) (hbl : b < s.heap.size) (hbA : ¬ A b) (hb1 : vp_in (nI i + 1) L) (ha1 : xs (nI i + 1).toNatClampNeg = x1) {gc1 : Mem} {ov1 : Nat → Int64} {k : Nat} (hk4 : k < 4) (hw : cLw l yL_readerMark wmL_readerMark 8 132 1 6 G [.ref (G.1 160), .int x1, .ref (G.1 170)] (wC G gc ++ [oE G ov]) (wC G gc1 ++ [oE G ov1]) k) {q : Int32 × Mem} (hm : sX7_readerMark n gm x1 = some q) (hth : q.2 0 7 = nI k) (hv : k = 0 → ov1 (0 : Int32).toNatClampNeg = q.1.toInt64) (hcs : cells + 5 ≤ room_1.cells ∧ slots + 30 ≤ room_1.slots) (kk : ∀ (H : Heap) (locs : List Loc) (ls : Array Slot), LSt G (wLw G gc1 q.2 ov1) A s.heap H locs → lv_has ls 7 [(0, .ref b), (1, .ref (G.1 160)), (2, .ref ((shG G).1 0)), (3, .ref (G.1 170)), (4, .int (nI i))] → W p l e room_1 s m args below meth c H locs (cells + 5) (slots + 30) Q (F0 m 2538 ls [])) : ∀ (H : Heap) (locs : List Loc) (ls : Array Slot), LSt G (wLw G gc gm ov) A s.heap H locs → lv_has ls 7 [(0, .ref b), (1, .ref (G.1 160)), (2, .ref ((shG G).1 0)), (3, .ref (G.1 170)), (4, .int (nI i))] → W p l e room_1 s m args below meth c H locs cells slots Q (F0 m 2279 ls []) := by
  have hx := X.1
  have hb := X.2.1
  intro H locs ls Z hl
  refine lv_aload_n hx hb dL_law_2279 rfl (lv_at hl 1 rfl) ?_
  refine lv_aload_n hx hb dL_law_2280 rfl (lv_at hl 0 rfl) ?_
  refine lv_iload hx hb dL_law_2281 (lv_at hl 4 rfl) ?_
  refine lv_iconst (v := 1) hx hb dL_law_2283 (by decide) ?_
  refine lv_iadd hx hb dL_law_2284 ?_
  refine l_sld hx hb hX hbl hbA Z.2.2 hb1 ha1 dL_law_2285 ?_
  refine lv_aload_n hx hb dL_law_2286 rfl (lv_at hl 3 rfl) ?_
  rw [← wLw_w] at Z
  refine l_callW (n := 3) (As := [.ref (G.1 160), .int x1, .ref (G.1 170)]) (rest := []) (c1 := cells + 1) (s1 := slots + 6) X Z (adCo G gc _ ov _) hw (gooS mB1275 mB1276 mB1084 mB1064) rfl (by decide +kernel) rfl ⟨Nat.le_of_ble_eq_true rfl, Nat.le_of_ble_eq_true rfl⟩ rfl rfl ⟨Nat.le_trans (Nat.add_le_add_left (Nat.le_of_ble_eq_true rfl) _) hcs.1, Nat.le_trans (Nat.add_le_add_left (Nat.le_of_ble_eq_true rfl) _) hcs.2⟩ hl.1 rfl (Nat.le_of_ble_eq_true rfl) dL_law_2287 (fun H locs Z => ?_)
  rw [wLw_w] at Z
  refine lv_istore (lv' := [(5, .int (nI k)), (0, .ref b), (1, .ref (G.1 160)), (2, .ref ((shG G).1 0)), (3, .ref (G.1 170)), (4, .int (nI i))]) hx hb dL_law_2290 hl (by decide) rfl (fun ls hl => ?_)
  refine lv_aload_n hx hb dL_law_2292 rfl (lv_at hl 3 rfl) ?_
  refine lv_aload_n hx hb dL_law_2293 rfl (lv_at hl 1 rfl) ?_
  refine lv_iload hx hb dL_law_2294 (lv_at hl 5 rfl) ?_
  refine lv_iconst (v := 1) hx hb dL_law_2296 (by decide) ?_
  refine lv_iadd hx hb dL_law_2297 ?_
  refine l_sld hx hb hX hbl hbA Z.2.2 hb1 ha1 dL_law_2298 ?_
  rw [← wLw_m] at Z
  refine l_callI (n := 1) (As := [.int x1]) (rest := []) sameM adM (sG_sh G) X Z (cX7_readerMark_c l hm) oX7 rfl (gooV mB1277 mB1278 mB1279 mB614 mB898) rfl (by decide +kernel) rfl ⟨Nat.le_of_ble_eq_true rfl, Nat.le_of_ble_eq_true rfl⟩ ⟨Nat.le_trans (Nat.add_le_add_left (Nat.le_of_ble_eq_true rfl) _) hcs.1, Nat.le_trans (Nat.add_le_add_left (Nat.le_of_ble_eq_true rfl) _) hcs.2⟩ hl.1 rfl (Nat.le_of_ble_eq_true rfl) dL_law_2299 (fun w9 H locs Z => ?_)
  rw [wLw_m] at Z
  refine lv_istore (lv' := [(6, .int q.1), (5, .int (nI k)), (0, .ref b), (1, .ref (G.1 160)), (2, .ref ((shG G).1 0)), (3, .ref (G.1 170)), (4, .int (nI i))]) hx hb dL_law_2302 hl (by decide) rfl (fun ls hl => ?_)
  refine lv_aload_n hx hb dL_law_2304 rfl (lv_at hl 4 rfl) ?_
  rw [← wLw_m] at Z
  refine l_callI (n := 0) (As := []) (rest := []) sameM adM (sG_sh G) X Z (cX7_thrown_c l (show sX7_thrown _ = some _ from rfl)) oX7 rfl (gooV mB1088 mB1089 mB1090 mB614 mB607) rfl (by decide +kernel) rfl ⟨Nat.le_of_ble_eq_true rfl, Nat.le_of_ble_eq_true rfl⟩ ⟨Nat.le_trans (Nat.add_le_add_left (Nat.le_of_ble_eq_true rfl) _) hcs.1, Nat.le_trans (Nat.add_le_add_left (Nat.le_of_ble_eq_true rfl) _) hcs.2⟩ hl.1 rfl (Nat.le_of_ble_eq_true rfl) dL_law_2305 (fun w9 H locs Z => ?_)
  rw [wLw_m] at Z
  refine lv_iload hx hb dL_law_2308 (lv_at hl 1 rfl) ?_
  refine lv_icmp_eq (tgt := 2315) hx hb dL_law_2310 (by decide) (fun cz => ?_) (fun cz => absurd hth cz)
  refine lv_iload hx hb dL_law_2315 (lv_at hl 1 rfl) ?_
  refine lv_if_ne (tgt := 2332) hx hb dL_law_2317 (by decide) (fun cz => ?_) (fun cz => ?_)
  · skip
    refine lv_goto (tgt := 2538) hx hb dL_law_2332 (by decide) ?_
    refine W.widen (k := cells + 5) (n := slots + 30) (Nat.add_le_add_left (Nat.le_of_ble_eq_true rfl) _) (Nat.add_le_add_left (Nat.le_of_ble_eq_true rfl) _) ?_
    exact kk H locs ls Z (lv_sub hl [2, 3, 4, 5, 6] rfl)
  have hk0 : k = 0 := nI_inj0 hk4 cz
  have hv := hv hk0
  refine lv_aload_n hx hb dL_law_2320 rfl (lv_at hl 5 rfl) ?_
  refine lv_iconst (v := 0) hx hb dL_law_2321 (by decide) ?_
  refine l_lald X Z dL_law_2322 ?_
  refine lv_iload hx hb dL_law_2323 (lv_at hl 0 rfl) ?_
  refine lv_i2l hx hb dL_law_2325 rfl ?_
  refine W.lcmp hx hb dL_law_2326 ?_
  refine lv_if_eq (tgt := 2332) hx hb dL_law_2327 (by decide) (fun cy => ?_) (fun cy => absurd (by rw [hv]; exact lcmp_self _) cy)
  refine lv_goto (tgt := 2538) hx hb dL_law_2332 (by decide) ?_
  refine W.widen (k := cells + 5) (n := slots + 30) (Nat.add_le_add_left (Nat.le_of_ble_eq_true rfl) _) (Nat.add_le_add_left (Nat.le_of_ble_eq_true rfl) _) ?_
  exact kk H locs ls Z (lv_sub hl [2, 3, 4, 5, 6] rfl)
set_option maxHeartbeats 4000000 in
set_option maxRecDepth 100000 in
theorem law_safeTime {n : Nat} {gc gm : Mem} {ov : Nat → Int64} (X : gC p s m args meth c cL_law 7 (Cond.initialized RX6 :: wA0) RL ret G A) (hX : va_X b L xs s s.heap) (hbl : b < s.heap.size) (hbA : ¬ A b) {r : Int32} (hc : sX6_safeTime n gc = some r) {q : Int32 × Mem} (hm : sX7_safeTime n gm = some q) (hv : r = q.1) (hcs : cells + 5 ≤ room_1.cells ∧ slots + 30 ≤ room_1.slots) (kk : ∀ (H : Heap) (locs : List Loc) (ls : Array Slot), LSt G (wLw G gc q.2 ov) A s.heap H locs → lv_has ls 7 [(0, .ref b), (1, .ref (G.1 160)), (2, .ref ((shG G).1 0)), (3, .ref (G.1 170)), (4, .int (nI i))] → W p l e room_1 s m args below meth c H locs (cells + 5) (slots + 30) Q (F0 m 2538 ls [])) : ∀ (H : Heap) (locs : List Loc) (ls : Array Slot), LSt G (wLw G gc gm ov) A s.heap H locs → lv_has ls 7 [(0, .ref b), (1, .ref (G.1 160)), (2, .ref ((shG G).1 0)), (3, .ref (G.1 170)), (4, .int (nI i))] → W p l e room_1 s m args below meth c H locs cells slots Q (F0 m 2335 ls []) := by
  have hx := X.1
  have hb := X.2.1
  intro H locs ls Z hl
  refine lv_aload_n hx hb dL_law_2335 rfl (lv_at hl 1 rfl) ?_
  rw [← wLw_c] at Z
  refine l_callI (n := 0) (As := []) (rest := []) sameC adC (sG_r G) X Z (cX6_safeTime_c l hc) (oX6 k160) rfl (gooV mB1280 mB1281 mB1282 mB409 mB578) rfl (by decide +kernel) rfl ⟨Nat.le_of_ble_eq_true rfl, Nat.le_of_ble_eq_true rfl⟩ ⟨Nat.le_trans (Nat.le_add_right _ _) hcs.1, Nat.le_trans (Nat.le_add_right _ _) hcs.2⟩ hl.1 rfl (Nat.le_of_ble_eq_true rfl) dL_law_2336 (fun w9 H locs Z => ?_)
  rw [wLw_c] at Z
  refine lv_aload_n hx hb dL_law_2339 rfl (lv_at hl 2 rfl) ?_
  rw [← wLw_m] at Z
  refine l_callI (n := 0) (As := []) (rest := [.int r]) sameM adM (sG_sh G) X Z (cX7_safeTime_c l hm) oX7 rfl (gooV mB1283 mB1284 mB1285 mB614 mB899) rfl (by decide +kernel) rfl ⟨Nat.le_of_ble_eq_true rfl, Nat.le_of_ble_eq_true rfl⟩ ⟨Nat.le_trans (Nat.le_add_right _ _) hcs.1, Nat.le_trans (Nat.le_add_right _ _) hcs.2⟩ hl.1 rfl (Nat.le_of_ble_eq_true rfl) dL_law_2340 (fun w9 H locs Z => ?_)
  rw [wLw_m] at Z
  refine lv_icmp_eq (tgt := 2538) hx hb dL_law_2343 (by decide) (fun cz => ?_) (fun cz => absurd hv cz)
  refine W.widen (k := cells + 5) (n := slots + 30) (Nat.le_add_right _ _) (Nat.le_add_right _ _) ?_
  exact kk H locs ls Z hl
set_option maxHeartbeats 4000000 in
set_option maxRecDepth 100000 in
theorem law_readFloor {gc gm : Mem} {ov : Nat → Int64} (X : gC p s m args meth c cL_law 7 (Cond.initialized RX6 :: wA0) RL ret G A) (hX : va_X b L xs s s.heap) (hbl : b < s.heap.size) (hbA : ¬ A b) {r : Int32} (hc : sX6_readFloor gc = some r) {q : Int32 × Mem} (hm : sX7_readFloor gm = some q) (hv : r = q.1) (hcs : cells + 5 ≤ room_1.cells ∧ slots + 30 ≤ room_1.slots) (kk : ∀ (H : Heap) (locs : List Loc) (ls : Array Slot), LSt G (wLw G gc q.2 ov) A s.heap H locs → lv_has ls 7 [(0, .ref b), (1, .ref (G.1 160)), (2, .ref ((shG G).1 0)), (3, .ref (G.1 170)), (4, .int (nI i))] → W p l e room_1 s m args below meth c H locs (cells + 5) (slots + 30) Q (F0 m 2538 ls [])) : ∀ (H : Heap) (locs : List Loc) (ls : Array Slot), LSt G (wLw G gc gm ov) A s.heap H locs → lv_has ls 7 [(0, .ref b), (1, .ref (G.1 160)), (2, .ref ((shG G).1 0)), (3, .ref (G.1 170)), (4, .int (nI i))] → W p l e room_1 s m args below meth c H locs cells slots Q (F0 m 2348 ls []) := by
  have hx := X.1
  have hb := X.2.1
  intro H locs ls Z hl
  refine lv_aload_n hx hb dL_law_2348 rfl (lv_at hl 1 rfl) ?_
  rw [← wLw_c] at Z
  refine l_callI (n := 0) (As := []) (rest := []) sameC adC (sG_r G) X Z (cX6_readFloor_c l hc) (oX6 k160) rfl (gooV mB1286 mB1287 mB1288 mB409 mB579) rfl (by decide +kernel) rfl ⟨Nat.le_of_ble_eq_true rfl, Nat.le_of_ble_eq_true rfl⟩ ⟨Nat.le_trans (Nat.le_add_right _ _) hcs.1, Nat.le_trans (Nat.le_add_right _ _) hcs.2⟩ hl.1 rfl (Nat.le_of_ble_eq_true rfl) dL_law_2349 (fun w9 H locs Z => ?_)
  rw [wLw_c] at Z
  refine lv_aload_n hx hb dL_law_2352 rfl (lv_at hl 2 rfl) ?_
  rw [← wLw_m] at Z
  refine l_callI (n := 0) (As := []) (rest := [.int r]) sameM adM (sG_sh G) X Z (cX7_readFloor_c l hm) oX7 rfl (gooV mB1289 mB1290 mB1291 mB614 mB900) rfl (by decide +kernel) rfl ⟨Nat.le_of_ble_eq_true rfl, Nat.le_of_ble_eq_true rfl⟩ ⟨Nat.le_trans (Nat.le_add_right _ _) hcs.1, Nat.le_trans (Nat.le_add_right _ _) hcs.2⟩ hl.1 rfl (Nat.le_of_ble_eq_true rfl) dL_law_2353 (fun w9 H locs Z => ?_)
  rw [wLw_m] at Z
  refine lv_icmp_eq (tgt := 2538) hx hb dL_law_2356 (by decide) (fun cz => ?_) (fun cz => absurd hv cz)
  refine W.widen (k := cells + 5) (n := slots + 30) (Nat.le_add_right _ _) (Nat.le_add_right _ _) ?_
  exact kk H locs ls Z hl
set_option maxHeartbeats 4000000 in
set_option maxRecDepth 100000 in
theorem law_ticksUntilSafe {n : Nat} {gc gm : Mem} {ov : Nat → Int64} {x1 : Int32} (X : gC p s m args meth c cL_law 7 (Cond.initialized RX6 :: wA0) RL ret G A) (hX : va_X b L xs s s.heap) (hbl : b < s.heap.size) (hbA : ¬ A b) (hb1 : vp_in (nI i + 1) L) (ha1 : xs (nI i + 1).toNatClampNeg = x1) {gc1 : Mem} {ov1 : Nat → Int64} {k : Nat} (hk4 : k < 4) (hw : cLw l yL_ticksUntilSafe wmL_ticksUntilSafe 8 137 1 6 G [.ref (G.1 160), .int x1, .ref (G.1 170)] (wC G gc ++ [oE G ov]) (wC G gc1 ++ [oE G ov1]) k) {q : Int32 × Mem} (hm : sX7_ticksUntilSafe n gm x1 = some q) (hth : q.2 0 7 = nI k) (hv : k = 0 → ov1 (0 : Int32).toNatClampNeg = q.1.toInt64) (hcs : cells + 5 ≤ room_1.cells ∧ slots + 30 ≤ room_1.slots) (kk : ∀ (H : Heap) (locs : List Loc) (ls : Array Slot), LSt G (wLw G gc1 q.2 ov1) A s.heap H locs → lv_has ls 7 [(0, .ref b), (1, .ref (G.1 160)), (2, .ref ((shG G).1 0)), (3, .ref (G.1 170)), (4, .int (nI i))] → W p l e room_1 s m args below meth c H locs (cells + 5) (slots + 30) Q (F0 m 2538 ls [])) : ∀ (H : Heap) (locs : List Loc) (ls : Array Slot), LSt G (wLw G gc gm ov) A s.heap H locs → lv_has ls 7 [(0, .ref b), (1, .ref (G.1 160)), (2, .ref ((shG G).1 0)), (3, .ref (G.1 170)), (4, .int (nI i))] → W p l e room_1 s m args below meth c H locs cells slots Q (F0 m 2361 ls []) := by
  have hx := X.1
  have hb := X.2.1
  intro H locs ls Z hl
  refine lv_aload_n hx hb dL_law_2361 rfl (lv_at hl 1 rfl) ?_
  refine lv_aload_n hx hb dL_law_2362 rfl (lv_at hl 0 rfl) ?_
  refine lv_iload hx hb dL_law_2363 (lv_at hl 4 rfl) ?_
  refine lv_iconst (v := 1) hx hb dL_law_2365 (by decide) ?_
  refine lv_iadd hx hb dL_law_2366 ?_
  refine l_sld hx hb hX hbl hbA Z.2.2 hb1 ha1 dL_law_2367 ?_
  refine lv_aload_n hx hb dL_law_2368 rfl (lv_at hl 3 rfl) ?_
  rw [← wLw_w] at Z
  refine l_callW (n := 3) (As := [.ref (G.1 160), .int x1, .ref (G.1 170)]) (rest := []) (c1 := cells + 1) (s1 := slots + 6) X Z (adCo G gc _ ov _) hw (gooS mB1292 mB1293 mB1084 mB1068) rfl (by decide +kernel) rfl ⟨Nat.le_of_ble_eq_true rfl, Nat.le_of_ble_eq_true rfl⟩ rfl rfl ⟨Nat.le_trans (Nat.add_le_add_left (Nat.le_of_ble_eq_true rfl) _) hcs.1, Nat.le_trans (Nat.add_le_add_left (Nat.le_of_ble_eq_true rfl) _) hcs.2⟩ hl.1 rfl (Nat.le_of_ble_eq_true rfl) dL_law_2369 (fun H locs Z => ?_)
  rw [wLw_w] at Z
  refine lv_istore (lv' := [(5, .int (nI k)), (0, .ref b), (1, .ref (G.1 160)), (2, .ref ((shG G).1 0)), (3, .ref (G.1 170)), (4, .int (nI i))]) hx hb dL_law_2372 hl (by decide) rfl (fun ls hl => ?_)
  refine lv_aload_n hx hb dL_law_2374 rfl (lv_at hl 3 rfl) ?_
  refine lv_aload_n hx hb dL_law_2375 rfl (lv_at hl 1 rfl) ?_
  refine lv_iload hx hb dL_law_2376 (lv_at hl 5 rfl) ?_
  refine lv_iconst (v := 1) hx hb dL_law_2378 (by decide) ?_
  refine lv_iadd hx hb dL_law_2379 ?_
  refine l_sld hx hb hX hbl hbA Z.2.2 hb1 ha1 dL_law_2380 ?_
  rw [← wLw_m] at Z
  refine l_callI (n := 1) (As := [.int x1]) (rest := []) sameM adM (sG_sh G) X Z (cX7_ticksUntilSafe_c l hm) oX7 rfl (gooV mB1294 mB1295 mB1296 mB614 mB909) rfl (by decide +kernel) rfl ⟨Nat.le_of_ble_eq_true rfl, Nat.le_of_ble_eq_true rfl⟩ ⟨Nat.le_trans (Nat.add_le_add_left (Nat.le_of_ble_eq_true rfl) _) hcs.1, Nat.le_trans (Nat.add_le_add_left (Nat.le_of_ble_eq_true rfl) _) hcs.2⟩ hl.1 rfl (Nat.le_of_ble_eq_true rfl) dL_law_2381 (fun w9 H locs Z => ?_)
  rw [wLw_m] at Z
  refine lv_istore (lv' := [(6, .int q.1), (5, .int (nI k)), (0, .ref b), (1, .ref (G.1 160)), (2, .ref ((shG G).1 0)), (3, .ref (G.1 170)), (4, .int (nI i))]) hx hb dL_law_2384 hl (by decide) rfl (fun ls hl => ?_)
  refine lv_aload_n hx hb dL_law_2386 rfl (lv_at hl 4 rfl) ?_
  rw [← wLw_m] at Z
  refine l_callI (n := 0) (As := []) (rest := []) sameM adM (sG_sh G) X Z (cX7_thrown_c l (show sX7_thrown _ = some _ from rfl)) oX7 rfl (gooV mB1088 mB1089 mB1090 mB614 mB607) rfl (by decide +kernel) rfl ⟨Nat.le_of_ble_eq_true rfl, Nat.le_of_ble_eq_true rfl⟩ ⟨Nat.le_trans (Nat.add_le_add_left (Nat.le_of_ble_eq_true rfl) _) hcs.1, Nat.le_trans (Nat.add_le_add_left (Nat.le_of_ble_eq_true rfl) _) hcs.2⟩ hl.1 rfl (Nat.le_of_ble_eq_true rfl) dL_law_2387 (fun w9 H locs Z => ?_)
  rw [wLw_m] at Z
  refine lv_iload hx hb dL_law_2390 (lv_at hl 1 rfl) ?_
  refine lv_icmp_eq (tgt := 2397) hx hb dL_law_2392 (by decide) (fun cz => ?_) (fun cz => absurd hth cz)
  refine lv_iload hx hb dL_law_2397 (lv_at hl 1 rfl) ?_
  refine lv_if_ne (tgt := 2414) hx hb dL_law_2399 (by decide) (fun cz => ?_) (fun cz => ?_)
  · skip
    refine lv_goto (tgt := 2538) hx hb dL_law_2414 (by decide) ?_
    refine W.widen (k := cells + 5) (n := slots + 30) (Nat.add_le_add_left (Nat.le_of_ble_eq_true rfl) _) (Nat.add_le_add_left (Nat.le_of_ble_eq_true rfl) _) ?_
    exact kk H locs ls Z (lv_sub hl [2, 3, 4, 5, 6] rfl)
  have hk0 : k = 0 := nI_inj0 hk4 cz
  have hv := hv hk0
  refine lv_aload_n hx hb dL_law_2402 rfl (lv_at hl 5 rfl) ?_
  refine lv_iconst (v := 0) hx hb dL_law_2403 (by decide) ?_
  refine l_lald X Z dL_law_2404 ?_
  refine lv_iload hx hb dL_law_2405 (lv_at hl 0 rfl) ?_
  refine lv_i2l hx hb dL_law_2407 rfl ?_
  refine W.lcmp hx hb dL_law_2408 ?_
  refine lv_if_eq (tgt := 2414) hx hb dL_law_2409 (by decide) (fun cy => ?_) (fun cy => absurd (by rw [hv]; exact lcmp_self _) cy)
  refine lv_goto (tgt := 2538) hx hb dL_law_2414 (by decide) ?_
  refine W.widen (k := cells + 5) (n := slots + 30) (Nat.add_le_add_left (Nat.le_of_ble_eq_true rfl) _) (Nat.add_le_add_left (Nat.le_of_ble_eq_true rfl) _) ?_
  exact kk H locs ls Z (lv_sub hl [2, 3, 4, 5, 6] rfl)
set_option maxHeartbeats 4000000 in
set_option maxRecDepth 100000 in
theorem law_countInState {n : Nat} {gc gm : Mem} {ov : Nat → Int64} {x1 : Int32} (X : gC p s m args meth c cL_law 7 (Cond.initialized RX6 :: wA0) RL ret G A) (hX : va_X b L xs s s.heap) (hbl : b < s.heap.size) (hbA : ¬ A b) (hb1 : vp_in (nI i + 1) L) (ha1 : xs (nI i + 1).toNatClampNeg = x1) {gc1 : Mem} {ov1 : Nat → Int64} {k : Nat} (hk4 : k < 4) (hw : cLw l yL_countInState wmL_countInState 8 134 1 6 G [.ref (G.1 160), .int x1, .ref (G.1 170)] (wC G gc ++ [oE G ov]) (wC G gc1 ++ [oE G ov1]) k) {q : Int32 × Mem} (hm : sX7_countInState n gm x1 = some q) (hth : q.2 0 7 = nI k) (hv : k = 0 → ov1 (0 : Int32).toNatClampNeg = q.1.toInt64) (hcs : cells + 5 ≤ room_1.cells ∧ slots + 30 ≤ room_1.slots) (kk : ∀ (H : Heap) (locs : List Loc) (ls : Array Slot), LSt G (wLw G gc1 q.2 ov1) A s.heap H locs → lv_has ls 7 [(0, .ref b), (1, .ref (G.1 160)), (2, .ref ((shG G).1 0)), (3, .ref (G.1 170)), (4, .int (nI i))] → W p l e room_1 s m args below meth c H locs (cells + 5) (slots + 30) Q (F0 m 2538 ls [])) : ∀ (H : Heap) (locs : List Loc) (ls : Array Slot), LSt G (wLw G gc gm ov) A s.heap H locs → lv_has ls 7 [(0, .ref b), (1, .ref (G.1 160)), (2, .ref ((shG G).1 0)), (3, .ref (G.1 170)), (4, .int (nI i))] → W p l e room_1 s m args below meth c H locs cells slots Q (F0 m 2417 ls []) := by
  have hx := X.1
  have hb := X.2.1
  intro H locs ls Z hl
  refine lv_aload_n hx hb dL_law_2417 rfl (lv_at hl 1 rfl) ?_
  refine lv_aload_n hx hb dL_law_2418 rfl (lv_at hl 0 rfl) ?_
  refine lv_iload hx hb dL_law_2419 (lv_at hl 4 rfl) ?_
  refine lv_iconst (v := 1) hx hb dL_law_2421 (by decide) ?_
  refine lv_iadd hx hb dL_law_2422 ?_
  refine l_sld hx hb hX hbl hbA Z.2.2 hb1 ha1 dL_law_2423 ?_
  refine lv_aload_n hx hb dL_law_2424 rfl (lv_at hl 3 rfl) ?_
  rw [← wLw_w] at Z
  refine l_callW (n := 3) (As := [.ref (G.1 160), .int x1, .ref (G.1 170)]) (rest := []) (c1 := cells + 1) (s1 := slots + 6) X Z (adCo G gc _ ov _) hw (gooS mB1297 mB1298 mB1084 mB1069) rfl (by decide +kernel) rfl ⟨Nat.le_of_ble_eq_true rfl, Nat.le_of_ble_eq_true rfl⟩ rfl rfl ⟨Nat.le_trans (Nat.add_le_add_left (Nat.le_of_ble_eq_true rfl) _) hcs.1, Nat.le_trans (Nat.add_le_add_left (Nat.le_of_ble_eq_true rfl) _) hcs.2⟩ hl.1 rfl (Nat.le_of_ble_eq_true rfl) dL_law_2425 (fun H locs Z => ?_)
  rw [wLw_w] at Z
  refine lv_istore (lv' := [(5, .int (nI k)), (0, .ref b), (1, .ref (G.1 160)), (2, .ref ((shG G).1 0)), (3, .ref (G.1 170)), (4, .int (nI i))]) hx hb dL_law_2428 hl (by decide) rfl (fun ls hl => ?_)
  refine lv_aload_n hx hb dL_law_2430 rfl (lv_at hl 3 rfl) ?_
  refine lv_aload_n hx hb dL_law_2431 rfl (lv_at hl 1 rfl) ?_
  refine lv_iload hx hb dL_law_2432 (lv_at hl 5 rfl) ?_
  refine lv_iconst (v := 1) hx hb dL_law_2434 (by decide) ?_
  refine lv_iadd hx hb dL_law_2435 ?_
  refine l_sld hx hb hX hbl hbA Z.2.2 hb1 ha1 dL_law_2436 ?_
  rw [← wLw_m] at Z
  refine l_callI (n := 1) (As := [.int x1]) (rest := []) sameM adM (sG_sh G) X Z (cX7_countInState_c l hm) oX7 rfl (gooV mB1299 mB1300 mB1301 mB614 mB911) rfl (by decide +kernel) rfl ⟨Nat.le_of_ble_eq_true rfl, Nat.le_of_ble_eq_true rfl⟩ ⟨Nat.le_trans (Nat.add_le_add_left (Nat.le_of_ble_eq_true rfl) _) hcs.1, Nat.le_trans (Nat.add_le_add_left (Nat.le_of_ble_eq_true rfl) _) hcs.2⟩ hl.1 rfl (Nat.le_of_ble_eq_true rfl) dL_law_2437 (fun w9 H locs Z => ?_)
  rw [wLw_m] at Z
  refine lv_istore (lv' := [(6, .int q.1), (5, .int (nI k)), (0, .ref b), (1, .ref (G.1 160)), (2, .ref ((shG G).1 0)), (3, .ref (G.1 170)), (4, .int (nI i))]) hx hb dL_law_2440 hl (by decide) rfl (fun ls hl => ?_)
  refine lv_aload_n hx hb dL_law_2442 rfl (lv_at hl 4 rfl) ?_
  rw [← wLw_m] at Z
  refine l_callI (n := 0) (As := []) (rest := []) sameM adM (sG_sh G) X Z (cX7_thrown_c l (show sX7_thrown _ = some _ from rfl)) oX7 rfl (gooV mB1088 mB1089 mB1090 mB614 mB607) rfl (by decide +kernel) rfl ⟨Nat.le_of_ble_eq_true rfl, Nat.le_of_ble_eq_true rfl⟩ ⟨Nat.le_trans (Nat.add_le_add_left (Nat.le_of_ble_eq_true rfl) _) hcs.1, Nat.le_trans (Nat.add_le_add_left (Nat.le_of_ble_eq_true rfl) _) hcs.2⟩ hl.1 rfl (Nat.le_of_ble_eq_true rfl) dL_law_2443 (fun w9 H locs Z => ?_)
  rw [wLw_m] at Z
  refine lv_iload hx hb dL_law_2446 (lv_at hl 1 rfl) ?_
  refine lv_icmp_eq (tgt := 2453) hx hb dL_law_2448 (by decide) (fun cz => ?_) (fun cz => absurd hth cz)
  refine lv_iload hx hb dL_law_2453 (lv_at hl 1 rfl) ?_
  refine lv_if_ne (tgt := 2470) hx hb dL_law_2455 (by decide) (fun cz => ?_) (fun cz => ?_)
  · skip
    refine lv_goto (tgt := 2538) hx hb dL_law_2470 (by decide) ?_
    refine W.widen (k := cells + 5) (n := slots + 30) (Nat.add_le_add_left (Nat.le_of_ble_eq_true rfl) _) (Nat.add_le_add_left (Nat.le_of_ble_eq_true rfl) _) ?_
    exact kk H locs ls Z (lv_sub hl [2, 3, 4, 5, 6] rfl)
  have hk0 : k = 0 := nI_inj0 hk4 cz
  have hv := hv hk0
  refine lv_aload_n hx hb dL_law_2458 rfl (lv_at hl 5 rfl) ?_
  refine lv_iconst (v := 0) hx hb dL_law_2459 (by decide) ?_
  refine l_lald X Z dL_law_2460 ?_
  refine lv_iload hx hb dL_law_2461 (lv_at hl 0 rfl) ?_
  refine lv_i2l hx hb dL_law_2463 rfl ?_
  refine W.lcmp hx hb dL_law_2464 ?_
  refine lv_if_eq (tgt := 2470) hx hb dL_law_2465 (by decide) (fun cy => ?_) (fun cy => absurd (by rw [hv]; exact lcmp_self _) cy)
  refine lv_goto (tgt := 2538) hx hb dL_law_2470 (by decide) ?_
  refine W.widen (k := cells + 5) (n := slots + 30) (Nat.add_le_add_left (Nat.le_of_ble_eq_true rfl) _) (Nat.add_le_add_left (Nat.le_of_ble_eq_true rfl) _) ?_
  exact kk H locs ls Z (lv_sub hl [2, 3, 4, 5, 6] rfl)
set_option maxHeartbeats 4000000 in
set_option maxRecDepth 100000 in
theorem law_totalWait {n : Nat} {gc gm : Mem} {ov : Nat → Int64} (X : gC p s m args meth c cL_law 7 (Cond.initialized RX6 :: wA0) RL ret G A) (hX : va_X b L xs s s.heap) (hbl : b < s.heap.size) (hbA : ¬ A b) {r : Int32} (hc : sX6_totalWait n gc = some r) {q : Int32 × Mem} (hm : sX7_totalWait n gm = some q) (hv : r = q.1) (hcs : cells + 5 ≤ room_1.cells ∧ slots + 30 ≤ room_1.slots) (kk : ∀ (H : Heap) (locs : List Loc) (ls : Array Slot), LSt G (wLw G gc q.2 ov) A s.heap H locs → lv_has ls 7 [(0, .ref b), (1, .ref (G.1 160)), (2, .ref ((shG G).1 0)), (3, .ref (G.1 170)), (4, .int (nI i))] → W p l e room_1 s m args below meth c H locs (cells + 5) (slots + 30) Q (F0 m 2538 ls [])) : ∀ (H : Heap) (locs : List Loc) (ls : Array Slot), LSt G (wLw G gc gm ov) A s.heap H locs → lv_has ls 7 [(0, .ref b), (1, .ref (G.1 160)), (2, .ref ((shG G).1 0)), (3, .ref (G.1 170)), (4, .int (nI i))] → W p l e room_1 s m args below meth c H locs cells slots Q (F0 m 2473 ls []) := by
  have hx := X.1
  have hb := X.2.1
  intro H locs ls Z hl
  refine lv_aload_n hx hb dL_law_2473 rfl (lv_at hl 1 rfl) ?_
  rw [← wLw_c] at Z
  refine l_callI (n := 0) (As := []) (rest := []) sameC adC (sG_r G) X Z (cX6_totalWait_c l hc) (oX6 k160) rfl (gooV mB1302 mB1303 mB1304 mB409 mB588) rfl (by decide +kernel) rfl ⟨Nat.le_of_ble_eq_true rfl, Nat.le_of_ble_eq_true rfl⟩ ⟨Nat.le_trans (Nat.le_add_right _ _) hcs.1, Nat.le_trans (Nat.le_add_right _ _) hcs.2⟩ hl.1 rfl (Nat.le_of_ble_eq_true rfl) dL_law_2474 (fun w9 H locs Z => ?_)
  rw [wLw_c] at Z
  refine lv_aload_n hx hb dL_law_2477 rfl (lv_at hl 2 rfl) ?_
  rw [← wLw_m] at Z
  refine l_callI (n := 0) (As := []) (rest := [.int r]) sameM adM (sG_sh G) X Z (cX7_totalWait_c l hm) oX7 rfl (gooV mB1305 mB1306 mB1307 mB614 mB915) rfl (by decide +kernel) rfl ⟨Nat.le_of_ble_eq_true rfl, Nat.le_of_ble_eq_true rfl⟩ ⟨Nat.le_trans (Nat.le_add_right _ _) hcs.1, Nat.le_trans (Nat.le_add_right _ _) hcs.2⟩ hl.1 rfl (Nat.le_of_ble_eq_true rfl) dL_law_2478 (fun w9 H locs Z => ?_)
  rw [wLw_m] at Z
  refine lv_icmp_eq (tgt := 2538) hx hb dL_law_2481 (by decide) (fun cz => ?_) (fun cz => absurd hv cz)
  refine W.widen (k := cells + 5) (n := slots + 30) (Nat.le_add_right _ _) (Nat.le_add_right _ _) ?_
  exact kk H locs ls Z hl
set_option maxHeartbeats 4000000 in
set_option maxRecDepth 100000 in
theorem law_unsoundUses {gc gm : Mem} {ov : Nat → Int64} (X : gC p s m args meth c cL_law 7 (Cond.initialized RX6 :: wA0) RL ret G A) (hX : va_X b L xs s s.heap) (hbl : b < s.heap.size) (hbA : ¬ A b) {r : Int32} (hc : sX6_unsoundUses gc = some r) {q : Int32 × Mem} (hm : sX7_unsoundUses gm = some q) (hv : r = q.1) (hcs : cells + 5 ≤ room_1.cells ∧ slots + 30 ≤ room_1.slots) (kk : ∀ (H : Heap) (locs : List Loc) (ls : Array Slot), LSt G (wLw G gc q.2 ov) A s.heap H locs → lv_has ls 7 [(0, .ref b), (1, .ref (G.1 160)), (2, .ref ((shG G).1 0)), (3, .ref (G.1 170)), (4, .int (nI i))] → W p l e room_1 s m args below meth c H locs (cells + 5) (slots + 30) Q (F0 m 2538 ls [])) : ∀ (H : Heap) (locs : List Loc) (ls : Array Slot), LSt G (wLw G gc gm ov) A s.heap H locs → lv_has ls 7 [(0, .ref b), (1, .ref (G.1 160)), (2, .ref ((shG G).1 0)), (3, .ref (G.1 170)), (4, .int (nI i))] → W p l e room_1 s m args below meth c H locs cells slots Q (F0 m 2486 ls []) := by
  have hx := X.1
  have hb := X.2.1
  intro H locs ls Z hl
  refine lv_aload_n hx hb dL_law_2486 rfl (lv_at hl 1 rfl) ?_
  rw [← wLw_c] at Z
  refine l_callI (n := 0) (As := []) (rest := []) sameC adC (sG_r G) X Z (cX6_unsoundUses_c l hc) (oX6 k160) rfl (gooV mB1308 mB1309 mB1310 mB409 mB592) rfl (by decide +kernel) rfl ⟨Nat.le_of_ble_eq_true rfl, Nat.le_of_ble_eq_true rfl⟩ ⟨Nat.le_trans (Nat.le_add_right _ _) hcs.1, Nat.le_trans (Nat.le_add_right _ _) hcs.2⟩ hl.1 rfl (Nat.le_of_ble_eq_true rfl) dL_law_2487 (fun w9 H locs Z => ?_)
  rw [wLw_c] at Z
  refine lv_aload_n hx hb dL_law_2490 rfl (lv_at hl 2 rfl) ?_
  rw [← wLw_m] at Z
  refine l_callI (n := 0) (As := []) (rest := [.int r]) sameM adM (sG_sh G) X Z (cX7_unsoundUses_c l hm) oX7 rfl (gooV mB1311 mB1312 mB1313 mB614 mB916) rfl (by decide +kernel) rfl ⟨Nat.le_of_ble_eq_true rfl, Nat.le_of_ble_eq_true rfl⟩ ⟨Nat.le_trans (Nat.le_add_right _ _) hcs.1, Nat.le_trans (Nat.le_add_right _ _) hcs.2⟩ hl.1 rfl (Nat.le_of_ble_eq_true rfl) dL_law_2491 (fun w9 H locs Z => ?_)
  rw [wLw_m] at Z
  refine lv_icmp_eq (tgt := 2538) hx hb dL_law_2494 (by decide) (fun cz => ?_) (fun cz => absurd hv cz)
  refine W.widen (k := cells + 5) (n := slots + 30) (Nat.le_add_right _ _) (Nat.le_add_right _ _) ?_
  exact kk H locs ls Z hl
set_option maxHeartbeats 4000000 in
set_option maxRecDepth 100000 in
theorem law_inversions {n : Nat} {gc gm : Mem} {ov : Nat → Int64} (X : gC p s m args meth c cL_law 7 (Cond.initialized RX6 :: wA0) RL ret G A) (hX : va_X b L xs s s.heap) (hbl : b < s.heap.size) (hbA : ¬ A b) {r : Int32} (hc : sX6_inversions n gc = some r) {q : Int32 × Mem} (hm : sX7_inversions n gm = some q) (hv : r = q.1) (hcs : cells + 5 ≤ room_1.cells ∧ slots + 30 ≤ room_1.slots) (kk : ∀ (H : Heap) (locs : List Loc) (ls : Array Slot), LSt G (wLw G gc q.2 ov) A s.heap H locs → lv_has ls 7 [(0, .ref b), (1, .ref (G.1 160)), (2, .ref ((shG G).1 0)), (3, .ref (G.1 170)), (4, .int (nI i))] → W p l e room_1 s m args below meth c H locs (cells + 5) (slots + 30) Q (F0 m 2538 ls [])) : ∀ (H : Heap) (locs : List Loc) (ls : Array Slot), LSt G (wLw G gc gm ov) A s.heap H locs → lv_has ls 7 [(0, .ref b), (1, .ref (G.1 160)), (2, .ref ((shG G).1 0)), (3, .ref (G.1 170)), (4, .int (nI i))] → W p l e room_1 s m args below meth c H locs cells slots Q (F0 m 2499 ls []) := by
  have hx := X.1
  have hb := X.2.1
  intro H locs ls Z hl
  refine lv_aload_n hx hb dL_law_2499 rfl (lv_at hl 1 rfl) ?_
  rw [← wLw_c] at Z
  refine l_callI (n := 0) (As := []) (rest := []) sameC adC (sG_r G) X Z (cX6_inversions_c l hc) (oX6 k160) rfl (gooV mB1314 mB1315 mB1316 mB409 mB594) rfl (by decide +kernel) rfl ⟨Nat.le_of_ble_eq_true rfl, Nat.le_of_ble_eq_true rfl⟩ ⟨Nat.le_trans (Nat.le_add_right _ _) hcs.1, Nat.le_trans (Nat.le_add_right _ _) hcs.2⟩ hl.1 rfl (Nat.le_of_ble_eq_true rfl) dL_law_2500 (fun w9 H locs Z => ?_)
  rw [wLw_c] at Z
  refine lv_aload_n hx hb dL_law_2503 rfl (lv_at hl 2 rfl) ?_
  rw [← wLw_m] at Z
  refine l_callI (n := 0) (As := []) (rest := [.int r]) sameM adM (sG_sh G) X Z (cX7_inversions_c l hm) oX7 rfl (gooV mB1317 mB1318 mB1319 mB614 mB918) rfl (by decide +kernel) rfl ⟨Nat.le_of_ble_eq_true rfl, Nat.le_of_ble_eq_true rfl⟩ ⟨Nat.le_trans (Nat.le_add_right _ _) hcs.1, Nat.le_trans (Nat.le_add_right _ _) hcs.2⟩ hl.1 rfl (Nat.le_of_ble_eq_true rfl) dL_law_2504 (fun w9 H locs Z => ?_)
  rw [wLw_m] at Z
  refine lv_icmp_eq (tgt := 2538) hx hb dL_law_2507 (by decide) (fun cz => ?_) (fun cz => absurd hv cz)
  refine W.widen (k := cells + 5) (n := slots + 30) (Nat.le_add_right _ _) (Nat.le_add_right _ _) ?_
  exact kk H locs ls Z hl
set_option maxHeartbeats 4000000 in
set_option maxRecDepth 100000 in
theorem law_savedStates {gc gm : Mem} {ov : Nat → Int64} (X : gC p s m args meth c cL_law 7 (Cond.initialized RX6 :: wA0) RL ret G A) (hX : va_X b L xs s s.heap) (hbl : b < s.heap.size) (hbA : ¬ A b) {r : Int32} (hc : sX6_savedStates gc = some r) {q : Int32 × Mem} (hm : sX7_savedStates gm = some q) (hv : r = q.1) (hcs : cells + 5 ≤ room_1.cells ∧ slots + 30 ≤ room_1.slots) (kk : ∀ (H : Heap) (locs : List Loc) (ls : Array Slot), LSt G (wLw G gc q.2 ov) A s.heap H locs → lv_has ls 7 [(0, .ref b), (1, .ref (G.1 160)), (2, .ref ((shG G).1 0)), (3, .ref (G.1 170)), (4, .int (nI i))] → W p l e room_1 s m args below meth c H locs (cells + 5) (slots + 30) Q (F0 m 2538 ls [])) : ∀ (H : Heap) (locs : List Loc) (ls : Array Slot), LSt G (wLw G gc gm ov) A s.heap H locs → lv_has ls 7 [(0, .ref b), (1, .ref (G.1 160)), (2, .ref ((shG G).1 0)), (3, .ref (G.1 170)), (4, .int (nI i))] → W p l e room_1 s m args below meth c H locs cells slots Q (F0 m 2512 ls []) := by
  have hx := X.1
  have hb := X.2.1
  intro H locs ls Z hl
  refine lv_aload_n hx hb dL_law_2512 rfl (lv_at hl 1 rfl) ?_
  rw [← wLw_c] at Z
  refine l_callI (n := 0) (As := []) (rest := []) sameC adC (sG_r G) X Z (cX6_savedStates_c l hc) (oX6 k160) rfl (gooV mB1320 mB1321 mB1322 mB409 mB598) rfl (by decide +kernel) rfl ⟨Nat.le_of_ble_eq_true rfl, Nat.le_of_ble_eq_true rfl⟩ ⟨Nat.le_trans (Nat.le_add_right _ _) hcs.1, Nat.le_trans (Nat.le_add_right _ _) hcs.2⟩ hl.1 rfl (Nat.le_of_ble_eq_true rfl) dL_law_2513 (fun w9 H locs Z => ?_)
  rw [wLw_c] at Z
  refine lv_aload_n hx hb dL_law_2516 rfl (lv_at hl 2 rfl) ?_
  rw [← wLw_m] at Z
  refine l_callI (n := 0) (As := []) (rest := [.int r]) sameM adM (sG_sh G) X Z (cX7_savedStates_c l hm) oX7 rfl (gooV mB1323 mB1324 mB1325 mB614 mB922) rfl (by decide +kernel) rfl ⟨Nat.le_of_ble_eq_true rfl, Nat.le_of_ble_eq_true rfl⟩ ⟨Nat.le_trans (Nat.le_add_right _ _) hcs.1, Nat.le_trans (Nat.le_add_right _ _) hcs.2⟩ hl.1 rfl (Nat.le_of_ble_eq_true rfl) dL_law_2517 (fun w9 H locs Z => ?_)
  rw [wLw_m] at Z
  refine lv_icmp_eq (tgt := 2538) hx hb dL_law_2520 (by decide) (fun cz => ?_) (fun cz => absurd hv cz)
  refine W.widen (k := cells + 5) (n := slots + 30) (Nat.le_add_right _ _) (Nat.le_add_right _ _) ?_
  exact kk H locs ls Z hl
set_option maxHeartbeats 4000000 in
set_option maxRecDepth 100000 in
theorem law_textLength {gc gm : Mem} {ov : Nat → Int64} (X : gC p s m args meth c cL_law 7 (Cond.initialized RX6 :: wA0) RL ret G A) (hX : va_X b L xs s s.heap) (hbl : b < s.heap.size) (hbA : ¬ A b) {r : Int32} (hc : sX6_textLength gc = some r) {q : Int32 × Mem} (hm : sX7_textLength gm = some q) (hv : r = q.1) (hcs : cells + 5 ≤ room_1.cells ∧ slots + 30 ≤ room_1.slots) (kk : ∀ (H : Heap) (locs : List Loc) (ls : Array Slot), LSt G (wLw G gc q.2 ov) A s.heap H locs → lv_has ls 7 [(0, .ref b), (1, .ref (G.1 160)), (2, .ref ((shG G).1 0)), (3, .ref (G.1 170)), (4, .int (nI i))] → W p l e room_1 s m args below meth c H locs (cells + 5) (slots + 30) Q (F0 m 2538 ls [])) : ∀ (H : Heap) (locs : List Loc) (ls : Array Slot), LSt G (wLw G gc gm ov) A s.heap H locs → lv_has ls 7 [(0, .ref b), (1, .ref (G.1 160)), (2, .ref ((shG G).1 0)), (3, .ref (G.1 170)), (4, .int (nI i))] → W p l e room_1 s m args below meth c H locs cells slots Q (F0 m 2525 ls []) := by
  have hx := X.1
  have hb := X.2.1
  intro H locs ls Z hl
  refine lv_aload_n hx hb dL_law_2525 rfl (lv_at hl 1 rfl) ?_
  rw [← wLw_c] at Z
  refine l_callI (n := 0) (As := []) (rest := []) sameC adC (sG_r G) X Z (cX6_textLength_c l hc) (oX6 k160) rfl (gooV mB1326 mB1327 mB1328 mB409 mB599) rfl (by decide +kernel) rfl ⟨Nat.le_of_ble_eq_true rfl, Nat.le_of_ble_eq_true rfl⟩ ⟨Nat.le_trans (Nat.le_add_right _ _) hcs.1, Nat.le_trans (Nat.le_add_right _ _) hcs.2⟩ hl.1 rfl (Nat.le_of_ble_eq_true rfl) dL_law_2526 (fun w9 H locs Z => ?_)
  rw [wLw_c] at Z
  refine lv_aload_n hx hb dL_law_2529 rfl (lv_at hl 2 rfl) ?_
  rw [← wLw_m] at Z
  refine l_callI (n := 0) (As := []) (rest := [.int r]) sameM adM (sG_sh G) X Z (cX7_textLength_c l hm) oX7 rfl (gooV mB1329 mB1330 mB1331 mB614 mB923) rfl (by decide +kernel) rfl ⟨Nat.le_of_ble_eq_true rfl, Nat.le_of_ble_eq_true rfl⟩ ⟨Nat.le_trans (Nat.le_add_right _ _) hcs.1, Nat.le_trans (Nat.le_add_right _ _) hcs.2⟩ hl.1 rfl (Nat.le_of_ble_eq_true rfl) dL_law_2530 (fun w9 H locs Z => ?_)
  rw [wLw_m] at Z
  refine lv_icmp_eq (tgt := 2538) hx hb dL_law_2533 (by decide) (fun cz => ?_) (fun cz => absurd hv cz)
  refine W.widen (k := cells + 5) (n := slots + 30) (Nat.le_add_right _ _) (Nat.le_add_right _ _) ?_
  exact kk H locs ls Z hl
end GW
