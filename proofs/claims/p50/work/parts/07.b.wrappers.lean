section GW
variable {Qc : Array Value → State → Outcome → State → Prop} {XC : String → State → State → Prop} {p : Program} {l : Launch} {e : Env} {s : State} {m : MethodId} {args : Array Value} {below : List Frame} {meth : Method} {c : Code} {Q : State → Prop} {G : LY} {A : Nat → Prop}
abbrev wmL_begins : List Cond := Cond.codeWith yL_begins cL_begins 3 (some .int) [(0, 5, 6, 14)] :: wA0
def sL_begins (n : Nat) (g : Mem) (x1 : Int32) : Option (Int32 × Mem) := match sX6_begin n g x1 with
  | some r => if r.1 = 0 then some (r.2.1, r.2.2) else if r.1 = 3 then some (-1000000, r.2.2) else none
  | none => none
set_option maxHeartbeats 4000000 in
set_option maxRecDepth 100000 in
theorem wL_begins_0 (l : Launch) (hst : l.stackTraces = false) {G : LY} {g : Mem} {n : Nat} {x1 : Int32} {r : Nat × Int32 × Mem} (hm : sX6_begin n g x1 = some r) (h0 : r.1 = 0) : cLw l yL_begins wmL_begins 8 134 2 12 G [.ref (G.1 160), .int x1] (wC G g) (wC G r.2.2) r.2.1 := by
  refine mk_cLw (by decide +kernel) rfl (Nat.le_of_ble_eq_true rfl) (fun p e s m args below meth c A Q ls X ht kI hl Z => ?_)
  have hx := X.1
  have hb := X.2.1
  refine lv_aload_n hx hb dL_begins_0 rfl (lv_at hl 0 rfl) ?_
  refine lv_iload_n hx hb dL_begins_1 rfl (lv_at hl 1 rfl) ?_
  refine l_callX (n := 1) (a := []) (b := []) (As := [.int x1]) (rest := []) (c1 := 2) (s1 := 12) sameC adC (sG_r G) X (by rw [List.nil_append, List.append_nil]; exact Z) (cX6_begin_c l hst hm) (oX6 k160) rfl (gooV mB441 mB442 mB443 mB285 mB295) rfl (by decide +kernel) rfl ⟨Nat.le_of_ble_eq_true rfl, Nat.le_of_ble_eq_true rfl⟩ rfl rfl ⟨Nat.le_of_ble_eq_true rfl, Nat.le_of_ble_eq_true rfl⟩ hl.1 rfl (Nat.le_of_ble_eq_true rfl) dL_begins_2 (fun hec H locs q9 ce Z hce hcv hcl => ?_) (fun hec w9 H locs Z => ?_)
  · exact absurd h0 hec
  · rw [List.nil_append, List.append_nil] at Z
    exact kI _ _ _ _ _ _ (Nat.le_of_ble_eq_true rfl) (Nat.le_of_ble_eq_true rfl) dL_begins_5 Z
set_option maxHeartbeats 4000000 in
set_option maxRecDepth 100000 in
theorem wL_begins_1 (l : Launch) (hst : l.stackTraces = false) {G : LY} {g : Mem} {n : Nat} {x1 : Int32} {r : Nat × Int32 × Mem} (hm : sX6_begin n g x1 = some r) (hj : r.1 = 3) : cLw l yL_begins wmL_begins 8 134 2 12 G [.ref (G.1 160), .int x1] (wC G g) (wC G r.2.2) (-1000000) := by
  refine mk_cLw (by decide +kernel) rfl (Nat.le_of_ble_eq_true rfl) (fun p e s m args below meth c A Q ls X ht kI hl Z => ?_)
  have hx := X.1
  have hb := X.2.1
  refine lv_aload_n hx hb dL_begins_0 rfl (lv_at hl 0 rfl) ?_
  refine lv_iload_n hx hb dL_begins_1 rfl (lv_at hl 1 rfl) ?_
  refine l_callX (n := 1) (a := []) (b := []) (As := [.int x1]) (rest := []) (c1 := 2) (s1 := 12) sameC adC (sG_r G) X (by rw [List.nil_append, List.append_nil]; exact Z) (cX6_begin_c l hst hm) (oX6 k160) rfl (gooV mB441 mB442 mB443 mB285 mB295) rfl (by decide +kernel) rfl ⟨Nat.le_of_ble_eq_true rfl, Nat.le_of_ble_eq_true rfl⟩ rfl rfl ⟨Nat.le_of_ble_eq_true rfl, Nat.le_of_ble_eq_true rfl⟩ hl.1 rfl (Nat.le_of_ble_eq_true rfl) dL_begins_2 (fun hec H locs q9 ce Z hce hcv hcl => ?_) (fun hec w9 H locs Z => ?_)
  · rw [hj] at hcl
    rw [List.nil_append, List.append_nil] at Z
    refine l_catch (pre := []) (suf := []) (x := (0, 5, 6, 14)) (ec := 3) (pcx := 6) X Z.2.2 ht rfl (fun _ h => absurd h List.not_mem_nil) (by decide) (by decide) (List.mem_cons_of_mem _ mB439) (by decide) hce hcv hcl rfl ?_
    refine lv_astore_n (lv' := [(2, .ref q9), (0, .ref (G.1 160)), (1, .int x1)]) hx hb dL_begins_6 rfl hl (by decide) rfl (fun ls hl => ?_)
    refine lv_ldc (v := (-1000000 : Int32)) hx hb X.2.2.2.1 (X.2.2.2.2.1 _ (List.mem_cons_of_mem _ mB440)) dL_begins_7 ?_
    exact kI _ _ _ _ _ _ (Nat.le_of_ble_eq_true rfl) (Nat.le_of_ble_eq_true rfl) dL_begins_9 Z
  · rw [hj] at hec
    exact absurd hec (by decide)
theorem cL_begins_c (l : Launch) (hst : l.stackTraces = false) {G : LY} {g : Mem} {n : Nat} {x1 : Int32} {v : Int32} {g1 : Mem} (hm : sL_begins n g x1 = some (v, g1)) : cLw l yL_begins wmL_begins 8 134 2 12 G [.ref (G.1 160), .int x1] (wC G g) (wC G g1) v := by
  unfold sL_begins at hm
  cases h : sX6_begin n g x1 with
  | none => rw [h] at hm; cases hm
  | some r =>
    rw [h] at hm
    by_cases h0 : r.1 = 0
    · replace hm := (if_pos h0).symm.trans hm
      have e1 : r.2.1 = v := congrArg Prod.fst (Option.some.inj hm)
      have e2 : r.2.2 = g1 := congrArg Prod.snd (Option.some.inj hm)
      rw [← e1, ← e2]
      exact wL_begins_0 l hst h h0
    · replace hm := (if_neg h0).symm.trans hm
      by_cases h3 : r.1 = 3
      · replace hm := (if_pos h3).symm.trans hm
        have e1 : (-1000000 : Int32) = v := congrArg Prod.fst (Option.some.inj hm)
        have e2 : r.2.2 = g1 := congrArg Prod.snd (Option.some.inj hm)
        rw [← e1, ← e2]
        exact wL_begins_1 l hst h h3
      · replace hm := (if_neg h3).symm.trans hm
        cases hm
abbrev wmL_reads : List Cond := Cond.codeWith yL_reads cL_reads 4 (some .int) [(0, 6, 7, 14)] :: wA0
def sL_reads (n : Nat) (g : Mem) (x1 : Int32) (x2 : Int32) : Option (Int32 × Mem) := match sX6_read n g x1 x2 with
  | some r => if r.1 = 0 then some (r.2.1, r.2.2) else if r.1 = 3 then some (-1000000, r.2.2) else none
  | none => none
set_option maxHeartbeats 4000000 in
set_option maxRecDepth 100000 in
theorem wL_reads_0 (l : Launch) (hst : l.stackTraces = false) {G : LY} {g : Mem} {n : Nat} {x1 : Int32} {x2 : Int32} {r : Nat × Int32 × Mem} (hm : sX6_read n g x1 x2 = some r) (h0 : r.1 = 0) : cLw l yL_reads wmL_reads 8 135 3 18 G [.ref (G.1 160), .int x1, .int x2] (wC G g) (wC G r.2.2) r.2.1 := by
  refine mk_cLw (by decide +kernel) rfl (Nat.le_of_ble_eq_true rfl) (fun p e s m args below meth c A Q ls X ht kI hl Z => ?_)
  have hx := X.1
  have hb := X.2.1
  refine lv_aload_n hx hb dL_reads_0 rfl (lv_at hl 0 rfl) ?_
  refine lv_iload_n hx hb dL_reads_1 rfl (lv_at hl 1 rfl) ?_
  refine lv_iload_n hx hb dL_reads_2 rfl (lv_at hl 2 rfl) ?_
  refine l_callX (n := 2) (a := []) (b := []) (As := [.int x1, .int x2]) (rest := []) (c1 := 3) (s1 := 18) sameC adC (sG_r G) X (by rw [List.nil_append, List.append_nil]; exact Z) (cX6_read_c l hst hm) (oX6 k160) rfl (gooV mB445 mB446 mB447 mB285 mB316) rfl (by decide +kernel) rfl ⟨Nat.le_of_ble_eq_true rfl, Nat.le_of_ble_eq_true rfl⟩ rfl rfl ⟨Nat.le_of_ble_eq_true rfl, Nat.le_of_ble_eq_true rfl⟩ hl.1 rfl (Nat.le_of_ble_eq_true rfl) dL_reads_3 (fun hec H locs q9 ce Z hce hcv hcl => ?_) (fun hec w9 H locs Z => ?_)
  · exact absurd h0 hec
  · rw [List.nil_append, List.append_nil] at Z
    exact kI _ _ _ _ _ _ (Nat.le_of_ble_eq_true rfl) (Nat.le_of_ble_eq_true rfl) dL_reads_6 Z
set_option maxHeartbeats 4000000 in
set_option maxRecDepth 100000 in
theorem wL_reads_1 (l : Launch) (hst : l.stackTraces = false) {G : LY} {g : Mem} {n : Nat} {x1 : Int32} {x2 : Int32} {r : Nat × Int32 × Mem} (hm : sX6_read n g x1 x2 = some r) (hj : r.1 = 3) : cLw l yL_reads wmL_reads 8 135 3 18 G [.ref (G.1 160), .int x1, .int x2] (wC G g) (wC G r.2.2) (-1000000) := by
  refine mk_cLw (by decide +kernel) rfl (Nat.le_of_ble_eq_true rfl) (fun p e s m args below meth c A Q ls X ht kI hl Z => ?_)
  have hx := X.1
  have hb := X.2.1
  refine lv_aload_n hx hb dL_reads_0 rfl (lv_at hl 0 rfl) ?_
  refine lv_iload_n hx hb dL_reads_1 rfl (lv_at hl 1 rfl) ?_
  refine lv_iload_n hx hb dL_reads_2 rfl (lv_at hl 2 rfl) ?_
  refine l_callX (n := 2) (a := []) (b := []) (As := [.int x1, .int x2]) (rest := []) (c1 := 3) (s1 := 18) sameC adC (sG_r G) X (by rw [List.nil_append, List.append_nil]; exact Z) (cX6_read_c l hst hm) (oX6 k160) rfl (gooV mB445 mB446 mB447 mB285 mB316) rfl (by decide +kernel) rfl ⟨Nat.le_of_ble_eq_true rfl, Nat.le_of_ble_eq_true rfl⟩ rfl rfl ⟨Nat.le_of_ble_eq_true rfl, Nat.le_of_ble_eq_true rfl⟩ hl.1 rfl (Nat.le_of_ble_eq_true rfl) dL_reads_3 (fun hec H locs q9 ce Z hce hcv hcl => ?_) (fun hec w9 H locs Z => ?_)
  · rw [hj] at hcl
    rw [List.nil_append, List.append_nil] at Z
    refine l_catch (pre := []) (suf := []) (x := (0, 6, 7, 14)) (ec := 3) (pcx := 7) X Z.2.2 ht rfl (fun _ h => absurd h List.not_mem_nil) (by decide) (by decide) (List.mem_cons_of_mem _ mB439) (by decide) hce hcv hcl rfl ?_
    refine lv_astore_n (lv' := [(3, .ref q9), (0, .ref (G.1 160)), (1, .int x1), (2, .int x2)]) hx hb dL_reads_7 rfl hl (by decide) rfl (fun ls hl => ?_)
    refine lv_ldc (v := (-1000000 : Int32)) hx hb X.2.2.2.1 (X.2.2.2.2.1 _ (List.mem_cons_of_mem _ mB440)) dL_reads_8 ?_
    exact kI _ _ _ _ _ _ (Nat.le_of_ble_eq_true rfl) (Nat.le_of_ble_eq_true rfl) dL_reads_10 Z
  · rw [hj] at hec
    exact absurd hec (by decide)
theorem cL_reads_c (l : Launch) (hst : l.stackTraces = false) {G : LY} {g : Mem} {n : Nat} {x1 : Int32} {x2 : Int32} {v : Int32} {g1 : Mem} (hm : sL_reads n g x1 x2 = some (v, g1)) : cLw l yL_reads wmL_reads 8 135 3 18 G [.ref (G.1 160), .int x1, .int x2] (wC G g) (wC G g1) v := by
  unfold sL_reads at hm
  cases h : sX6_read n g x1 x2 with
  | none => rw [h] at hm; cases hm
  | some r =>
    rw [h] at hm
    by_cases h0 : r.1 = 0
    · replace hm := (if_pos h0).symm.trans hm
      have e1 : r.2.1 = v := congrArg Prod.fst (Option.some.inj hm)
      have e2 : r.2.2 = g1 := congrArg Prod.snd (Option.some.inj hm)
      rw [← e1, ← e2]
      exact wL_reads_0 l hst h h0
    · replace hm := (if_neg h0).symm.trans hm
      by_cases h3 : r.1 = 3
      · replace hm := (if_pos h3).symm.trans hm
        have e1 : (-1000000 : Int32) = v := congrArg Prod.fst (Option.some.inj hm)
        have e2 : r.2.2 = g1 := congrArg Prod.snd (Option.some.inj hm)
        rw [← e1, ← e2]
        exact wL_reads_1 l hst h h3
      · replace hm := (if_neg h3).symm.trans hm
        cases hm
abbrev wmL_writes : List Cond := Cond.codeWith yL_writes cL_writes 5 (some .int) [(0, 7, 8, 14)] :: wA0
def sL_writes (n : Nat) (g : Mem) (x1 : Int32) (x2 : Int32) (x3 : Int32) : Option (Int32 × Mem) := match sX6_write n g x1 x2 x3 with
  | some r => if r.1 = 0 then some (r.2.1, r.2.2) else if r.1 = 3 then some (-1000000, r.2.2) else none
  | none => none
set_option maxHeartbeats 4000000 in
set_option maxRecDepth 100000 in
theorem wL_writes_0 (l : Launch) (hst : l.stackTraces = false) {G : LY} {g : Mem} {n : Nat} {x1 : Int32} {x2 : Int32} {x3 : Int32} {r : Nat × Int32 × Mem} (hm : sX6_write n g x1 x2 x3 = some r) (h0 : r.1 = 0) : cLw l yL_writes wmL_writes 8 136 4 24 G [.ref (G.1 160), .int x1, .int x2, .int x3] (wC G g) (wC G r.2.2) r.2.1 := by
  refine mk_cLw (by decide +kernel) rfl (Nat.le_of_ble_eq_true rfl) (fun p e s m args below meth c A Q ls X ht kI hl Z => ?_)
  have hx := X.1
  have hb := X.2.1
  refine lv_aload_n hx hb dL_writes_0 rfl (lv_at hl 0 rfl) ?_
  refine lv_iload_n hx hb dL_writes_1 rfl (lv_at hl 1 rfl) ?_
  refine lv_iload_n hx hb dL_writes_2 rfl (lv_at hl 2 rfl) ?_
  refine lv_iload_n hx hb dL_writes_3 rfl (lv_at hl 3 rfl) ?_
  refine l_callX (n := 3) (a := []) (b := []) (As := [.int x1, .int x2, .int x3]) (rest := []) (c1 := 4) (s1 := 24) sameC adC (sG_r G) X (by rw [List.nil_append, List.append_nil]; exact Z) (cX6_write_c l hst hm) (oX6 k160) rfl (gooV mB449 mB450 mB451 mB285 mB326) rfl (by decide +kernel) rfl ⟨Nat.le_of_ble_eq_true rfl, Nat.le_of_ble_eq_true rfl⟩ rfl rfl ⟨Nat.le_of_ble_eq_true rfl, Nat.le_of_ble_eq_true rfl⟩ hl.1 rfl (Nat.le_of_ble_eq_true rfl) dL_writes_4 (fun hec H locs q9 ce Z hce hcv hcl => ?_) (fun hec w9 H locs Z => ?_)
  · exact absurd h0 hec
  · rw [List.nil_append, List.append_nil] at Z
    exact kI _ _ _ _ _ _ (Nat.le_of_ble_eq_true rfl) (Nat.le_of_ble_eq_true rfl) dL_writes_7 Z
set_option maxHeartbeats 4000000 in
set_option maxRecDepth 100000 in
theorem wL_writes_1 (l : Launch) (hst : l.stackTraces = false) {G : LY} {g : Mem} {n : Nat} {x1 : Int32} {x2 : Int32} {x3 : Int32} {r : Nat × Int32 × Mem} (hm : sX6_write n g x1 x2 x3 = some r) (hj : r.1 = 3) : cLw l yL_writes wmL_writes 8 136 4 24 G [.ref (G.1 160), .int x1, .int x2, .int x3] (wC G g) (wC G r.2.2) (-1000000) := by
  refine mk_cLw (by decide +kernel) rfl (Nat.le_of_ble_eq_true rfl) (fun p e s m args below meth c A Q ls X ht kI hl Z => ?_)
  have hx := X.1
  have hb := X.2.1
  refine lv_aload_n hx hb dL_writes_0 rfl (lv_at hl 0 rfl) ?_
  refine lv_iload_n hx hb dL_writes_1 rfl (lv_at hl 1 rfl) ?_
  refine lv_iload_n hx hb dL_writes_2 rfl (lv_at hl 2 rfl) ?_
  refine lv_iload_n hx hb dL_writes_3 rfl (lv_at hl 3 rfl) ?_
  refine l_callX (n := 3) (a := []) (b := []) (As := [.int x1, .int x2, .int x3]) (rest := []) (c1 := 4) (s1 := 24) sameC adC (sG_r G) X (by rw [List.nil_append, List.append_nil]; exact Z) (cX6_write_c l hst hm) (oX6 k160) rfl (gooV mB449 mB450 mB451 mB285 mB326) rfl (by decide +kernel) rfl ⟨Nat.le_of_ble_eq_true rfl, Nat.le_of_ble_eq_true rfl⟩ rfl rfl ⟨Nat.le_of_ble_eq_true rfl, Nat.le_of_ble_eq_true rfl⟩ hl.1 rfl (Nat.le_of_ble_eq_true rfl) dL_writes_4 (fun hec H locs q9 ce Z hce hcv hcl => ?_) (fun hec w9 H locs Z => ?_)
  · rw [hj] at hcl
    rw [List.nil_append, List.append_nil] at Z
    refine l_catch (pre := []) (suf := []) (x := (0, 7, 8, 14)) (ec := 3) (pcx := 8) X Z.2.2 ht rfl (fun _ h => absurd h List.not_mem_nil) (by decide) (by decide) (List.mem_cons_of_mem _ mB439) (by decide) hce hcv hcl rfl ?_
    refine lv_astore (lv' := [(4, .ref q9), (0, .ref (G.1 160)), (1, .int x1), (2, .int x2), (3, .int x3)]) hx hb dL_writes_8 hl (by decide) rfl (fun ls hl => ?_)
    refine lv_ldc (v := (-1000000 : Int32)) hx hb X.2.2.2.1 (X.2.2.2.2.1 _ (List.mem_cons_of_mem _ mB440)) dL_writes_10 ?_
    exact kI _ _ _ _ _ _ (Nat.le_of_ble_eq_true rfl) (Nat.le_of_ble_eq_true rfl) dL_writes_12 Z
  · rw [hj] at hec
    exact absurd hec (by decide)
theorem cL_writes_c (l : Launch) (hst : l.stackTraces = false) {G : LY} {g : Mem} {n : Nat} {x1 : Int32} {x2 : Int32} {x3 : Int32} {v : Int32} {g1 : Mem} (hm : sL_writes n g x1 x2 x3 = some (v, g1)) : cLw l yL_writes wmL_writes 8 136 4 24 G [.ref (G.1 160), .int x1, .int x2, .int x3] (wC G g) (wC G g1) v := by
  unfold sL_writes at hm
  cases h : sX6_write n g x1 x2 x3 with
  | none => rw [h] at hm; cases hm
  | some r =>
    rw [h] at hm
    by_cases h0 : r.1 = 0
    · replace hm := (if_pos h0).symm.trans hm
      have e1 : r.2.1 = v := congrArg Prod.fst (Option.some.inj hm)
      have e2 : r.2.2 = g1 := congrArg Prod.snd (Option.some.inj hm)
      rw [← e1, ← e2]
      exact wL_writes_0 l hst h h0
    · replace hm := (if_neg h0).symm.trans hm
      by_cases h3 : r.1 = 3
      · replace hm := (if_pos h3).symm.trans hm
        have e1 : (-1000000 : Int32) = v := congrArg Prod.fst (Option.some.inj hm)
        have e2 : r.2.2 = g1 := congrArg Prod.snd (Option.some.inj hm)
        rw [← e1, ← e2]
        exact wL_writes_1 l hst h h3
      · replace hm := (if_neg h3).symm.trans hm
        cases hm
abbrev wmL_commits : List Cond := Cond.codeWith yL_commits cL_commits 3 (some .int) [(0, 5, 6, 14)] :: wA0
def sL_commits (n : Nat) (g : Mem) (x1 : Int32) : Option (Int32 × Mem) := match sX6_commit n g x1 with
  | some r => if r.1 = 0 then some (r.2.1, r.2.2) else if r.1 = 3 then some (-1000000, r.2.2) else none
  | none => none
set_option maxHeartbeats 4000000 in
set_option maxRecDepth 100000 in
theorem wL_commits_0 (l : Launch) (hst : l.stackTraces = false) {G : LY} {g : Mem} {n : Nat} {x1 : Int32} {r : Nat × Int32 × Mem} (hm : sX6_commit n g x1 = some r) (h0 : r.1 = 0) : cLw l yL_commits wmL_commits 8 135 2 12 G [.ref (G.1 160), .int x1] (wC G g) (wC G r.2.2) r.2.1 := by
  refine mk_cLw (by decide +kernel) rfl (Nat.le_of_ble_eq_true rfl) (fun p e s m args below meth c A Q ls X ht kI hl Z => ?_)
  have hx := X.1
  have hb := X.2.1
  refine lv_aload_n hx hb dL_commits_0 rfl (lv_at hl 0 rfl) ?_
  refine lv_iload_n hx hb dL_commits_1 rfl (lv_at hl 1 rfl) ?_
  refine l_callX (n := 1) (a := []) (b := []) (As := [.int x1]) (rest := []) (c1 := 2) (s1 := 12) sameC adC (sG_r G) X (by rw [List.nil_append, List.append_nil]; exact Z) (cX6_commit_c l hst hm) (oX6 k160) rfl (gooV mB453 mB454 mB455 mB285 mB333) rfl (by decide +kernel) rfl ⟨Nat.le_of_ble_eq_true rfl, Nat.le_of_ble_eq_true rfl⟩ rfl rfl ⟨Nat.le_of_ble_eq_true rfl, Nat.le_of_ble_eq_true rfl⟩ hl.1 rfl (Nat.le_of_ble_eq_true rfl) dL_commits_2 (fun hec H locs q9 ce Z hce hcv hcl => ?_) (fun hec w9 H locs Z => ?_)
  · exact absurd h0 hec
  · rw [List.nil_append, List.append_nil] at Z
    exact kI _ _ _ _ _ _ (Nat.le_of_ble_eq_true rfl) (Nat.le_of_ble_eq_true rfl) dL_commits_5 Z
set_option maxHeartbeats 4000000 in
set_option maxRecDepth 100000 in
theorem wL_commits_1 (l : Launch) (hst : l.stackTraces = false) {G : LY} {g : Mem} {n : Nat} {x1 : Int32} {r : Nat × Int32 × Mem} (hm : sX6_commit n g x1 = some r) (hj : r.1 = 3) : cLw l yL_commits wmL_commits 8 135 2 12 G [.ref (G.1 160), .int x1] (wC G g) (wC G r.2.2) (-1000000) := by
  refine mk_cLw (by decide +kernel) rfl (Nat.le_of_ble_eq_true rfl) (fun p e s m args below meth c A Q ls X ht kI hl Z => ?_)
  have hx := X.1
  have hb := X.2.1
  refine lv_aload_n hx hb dL_commits_0 rfl (lv_at hl 0 rfl) ?_
  refine lv_iload_n hx hb dL_commits_1 rfl (lv_at hl 1 rfl) ?_
  refine l_callX (n := 1) (a := []) (b := []) (As := [.int x1]) (rest := []) (c1 := 2) (s1 := 12) sameC adC (sG_r G) X (by rw [List.nil_append, List.append_nil]; exact Z) (cX6_commit_c l hst hm) (oX6 k160) rfl (gooV mB453 mB454 mB455 mB285 mB333) rfl (by decide +kernel) rfl ⟨Nat.le_of_ble_eq_true rfl, Nat.le_of_ble_eq_true rfl⟩ rfl rfl ⟨Nat.le_of_ble_eq_true rfl, Nat.le_of_ble_eq_true rfl⟩ hl.1 rfl (Nat.le_of_ble_eq_true rfl) dL_commits_2 (fun hec H locs q9 ce Z hce hcv hcl => ?_) (fun hec w9 H locs Z => ?_)
  · rw [hj] at hcl
    rw [List.nil_append, List.append_nil] at Z
    refine l_catch (pre := []) (suf := []) (x := (0, 5, 6, 14)) (ec := 3) (pcx := 6) X Z.2.2 ht rfl (fun _ h => absurd h List.not_mem_nil) (by decide) (by decide) (List.mem_cons_of_mem _ mB439) (by decide) hce hcv hcl rfl ?_
    refine lv_astore_n (lv' := [(2, .ref q9), (0, .ref (G.1 160)), (1, .int x1)]) hx hb dL_commits_6 rfl hl (by decide) rfl (fun ls hl => ?_)
    refine lv_ldc (v := (-1000000 : Int32)) hx hb X.2.2.2.1 (X.2.2.2.2.1 _ (List.mem_cons_of_mem _ mB440)) dL_commits_7 ?_
    exact kI _ _ _ _ _ _ (Nat.le_of_ble_eq_true rfl) (Nat.le_of_ble_eq_true rfl) dL_commits_9 Z
  · rw [hj] at hec
    exact absurd hec (by decide)
theorem cL_commits_c (l : Launch) (hst : l.stackTraces = false) {G : LY} {g : Mem} {n : Nat} {x1 : Int32} {v : Int32} {g1 : Mem} (hm : sL_commits n g x1 = some (v, g1)) : cLw l yL_commits wmL_commits 8 135 2 12 G [.ref (G.1 160), .int x1] (wC G g) (wC G g1) v := by
  unfold sL_commits at hm
  cases h : sX6_commit n g x1 with
  | none => rw [h] at hm; cases hm
  | some r =>
    rw [h] at hm
    by_cases h0 : r.1 = 0
    · replace hm := (if_pos h0).symm.trans hm
      have e1 : r.2.1 = v := congrArg Prod.fst (Option.some.inj hm)
      have e2 : r.2.2 = g1 := congrArg Prod.snd (Option.some.inj hm)
      rw [← e1, ← e2]
      exact wL_commits_0 l hst h h0
    · replace hm := (if_neg h0).symm.trans hm
      by_cases h3 : r.1 = 3
      · replace hm := (if_pos h3).symm.trans hm
        have e1 : (-1000000 : Int32) = v := congrArg Prod.fst (Option.some.inj hm)
        have e2 : r.2.2 = g1 := congrArg Prod.snd (Option.some.inj hm)
        rw [← e1, ← e2]
        exact wL_commits_1 l hst h h3
      · replace hm := (if_neg h3).symm.trans hm
        cases hm
abbrev wmL_aborts : List Cond := Cond.codeWith yL_aborts cL_aborts 3 (some .int) [(0, 5, 6, 14)] :: wA0
def sL_aborts (n : Nat) (g : Mem) (x1 : Int32) : Option (Int32 × Mem) := match sX6_abort n g x1 with
  | some r => if r.1 = 0 then some (r.2.1, r.2.2) else if r.1 = 3 then some (-1000000, r.2.2) else none
  | none => none
set_option maxHeartbeats 4000000 in
set_option maxRecDepth 100000 in
theorem wL_aborts_0 (l : Launch) (hst : l.stackTraces = false) {G : LY} {g : Mem} {n : Nat} {x1 : Int32} {r : Nat × Int32 × Mem} (hm : sX6_abort n g x1 = some r) (h0 : r.1 = 0) : cLw l yL_aborts wmL_aborts 8 134 2 12 G [.ref (G.1 160), .int x1] (wC G g) (wC G r.2.2) r.2.1 := by
  refine mk_cLw (by decide +kernel) rfl (Nat.le_of_ble_eq_true rfl) (fun p e s m args below meth c A Q ls X ht kI hl Z => ?_)
  have hx := X.1
  have hb := X.2.1
  refine lv_aload_n hx hb dL_aborts_0 rfl (lv_at hl 0 rfl) ?_
  refine lv_iload_n hx hb dL_aborts_1 rfl (lv_at hl 1 rfl) ?_
  refine l_callX (n := 1) (a := []) (b := []) (As := [.int x1]) (rest := []) (c1 := 2) (s1 := 12) sameC adC (sG_r G) X (by rw [List.nil_append, List.append_nil]; exact Z) (cX6_abort_c l hst hm) (oX6 k160) rfl (gooV mB457 mB458 mB459 mB285 mB335) rfl (by decide +kernel) rfl ⟨Nat.le_of_ble_eq_true rfl, Nat.le_of_ble_eq_true rfl⟩ rfl rfl ⟨Nat.le_of_ble_eq_true rfl, Nat.le_of_ble_eq_true rfl⟩ hl.1 rfl (Nat.le_of_ble_eq_true rfl) dL_aborts_2 (fun hec H locs q9 ce Z hce hcv hcl => ?_) (fun hec w9 H locs Z => ?_)
  · exact absurd h0 hec
  · rw [List.nil_append, List.append_nil] at Z
    exact kI _ _ _ _ _ _ (Nat.le_of_ble_eq_true rfl) (Nat.le_of_ble_eq_true rfl) dL_aborts_5 Z
set_option maxHeartbeats 4000000 in
set_option maxRecDepth 100000 in
theorem wL_aborts_1 (l : Launch) (hst : l.stackTraces = false) {G : LY} {g : Mem} {n : Nat} {x1 : Int32} {r : Nat × Int32 × Mem} (hm : sX6_abort n g x1 = some r) (hj : r.1 = 3) : cLw l yL_aborts wmL_aborts 8 134 2 12 G [.ref (G.1 160), .int x1] (wC G g) (wC G r.2.2) (-1000000) := by
  refine mk_cLw (by decide +kernel) rfl (Nat.le_of_ble_eq_true rfl) (fun p e s m args below meth c A Q ls X ht kI hl Z => ?_)
  have hx := X.1
  have hb := X.2.1
  refine lv_aload_n hx hb dL_aborts_0 rfl (lv_at hl 0 rfl) ?_
  refine lv_iload_n hx hb dL_aborts_1 rfl (lv_at hl 1 rfl) ?_
  refine l_callX (n := 1) (a := []) (b := []) (As := [.int x1]) (rest := []) (c1 := 2) (s1 := 12) sameC adC (sG_r G) X (by rw [List.nil_append, List.append_nil]; exact Z) (cX6_abort_c l hst hm) (oX6 k160) rfl (gooV mB457 mB458 mB459 mB285 mB335) rfl (by decide +kernel) rfl ⟨Nat.le_of_ble_eq_true rfl, Nat.le_of_ble_eq_true rfl⟩ rfl rfl ⟨Nat.le_of_ble_eq_true rfl, Nat.le_of_ble_eq_true rfl⟩ hl.1 rfl (Nat.le_of_ble_eq_true rfl) dL_aborts_2 (fun hec H locs q9 ce Z hce hcv hcl => ?_) (fun hec w9 H locs Z => ?_)
  · rw [hj] at hcl
    rw [List.nil_append, List.append_nil] at Z
    refine l_catch (pre := []) (suf := []) (x := (0, 5, 6, 14)) (ec := 3) (pcx := 6) X Z.2.2 ht rfl (fun _ h => absurd h List.not_mem_nil) (by decide) (by decide) (List.mem_cons_of_mem _ mB439) (by decide) hce hcv hcl rfl ?_
    refine lv_astore_n (lv' := [(2, .ref q9), (0, .ref (G.1 160)), (1, .int x1)]) hx hb dL_aborts_6 rfl hl (by decide) rfl (fun ls hl => ?_)
    refine lv_ldc (v := (-1000000 : Int32)) hx hb X.2.2.2.1 (X.2.2.2.2.1 _ (List.mem_cons_of_mem _ mB440)) dL_aborts_7 ?_
    exact kI _ _ _ _ _ _ (Nat.le_of_ble_eq_true rfl) (Nat.le_of_ble_eq_true rfl) dL_aborts_9 Z
  · rw [hj] at hec
    exact absurd hec (by decide)
theorem cL_aborts_c (l : Launch) (hst : l.stackTraces = false) {G : LY} {g : Mem} {n : Nat} {x1 : Int32} {v : Int32} {g1 : Mem} (hm : sL_aborts n g x1 = some (v, g1)) : cLw l yL_aborts wmL_aborts 8 134 2 12 G [.ref (G.1 160), .int x1] (wC G g) (wC G g1) v := by
  unfold sL_aborts at hm
  cases h : sX6_abort n g x1 with
  | none => rw [h] at hm; cases hm
  | some r =>
    rw [h] at hm
    by_cases h0 : r.1 = 0
    · replace hm := (if_pos h0).symm.trans hm
      have e1 : r.2.1 = v := congrArg Prod.fst (Option.some.inj hm)
      have e2 : r.2.2 = g1 := congrArg Prod.snd (Option.some.inj hm)
      rw [← e1, ← e2]
      exact wL_aborts_0 l hst h h0
    · replace hm := (if_neg h0).symm.trans hm
      by_cases h3 : r.1 = 3
      · replace hm := (if_pos h3).symm.trans hm
        have e1 : (-1000000 : Int32) = v := congrArg Prod.fst (Option.some.inj hm)
        have e2 : r.2.2 = g1 := congrArg Prod.snd (Option.some.inj hm)
        rw [← e1, ← e2]
        exact wL_aborts_1 l hst h h3
      · replace hm := (if_neg h3).symm.trans hm
        cases hm
abbrev wmL_snapshots : List Cond := Cond.codeWith yL_snapshots cL_snapshots 4 (some .int) [(0, 6, 7, 14)] :: wA0
def sL_snapshots (n : Nat) (g : Mem) (x1 : Int32) (x2 : Int32) : Option (Int32 × Mem) := match sX6_snapshotRead n g x1 x2 with
  | some r => if r.1 = 0 then some (r.2.1, r.2.2) else if r.1 = 3 then some (-1000000, r.2.2) else none
  | none => none
set_option maxHeartbeats 4000000 in
set_option maxRecDepth 100000 in
theorem wL_snapshots_0 (l : Launch) (hst : l.stackTraces = false) {G : LY} {g : Mem} {n : Nat} {x1 : Int32} {x2 : Int32} {r : Nat × Int32 × Mem} (hm : sX6_snapshotRead n g x1 x2 = some r) (h0 : r.1 = 0) : cLw l yL_snapshots wmL_snapshots 8 135 3 18 G [.ref (G.1 160), .int x1, .int x2] (wC G g) (wC G r.2.2) r.2.1 := by
  refine mk_cLw (by decide +kernel) rfl (Nat.le_of_ble_eq_true rfl) (fun p e s m args below meth c A Q ls X ht kI hl Z => ?_)
  have hx := X.1
  have hb := X.2.1
  refine lv_aload_n hx hb dL_snapshots_0 rfl (lv_at hl 0 rfl) ?_
  refine lv_iload_n hx hb dL_snapshots_1 rfl (lv_at hl 1 rfl) ?_
  refine lv_iload_n hx hb dL_snapshots_2 rfl (lv_at hl 2 rfl) ?_
  refine l_callX (n := 2) (a := []) (b := []) (As := [.int x1, .int x2]) (rest := []) (c1 := 3) (s1 := 18) sameC adC (sG_r G) X (by rw [List.nil_append, List.append_nil]; exact Z) (cX6_snapshotRead_c l hst hm) (oX6 k160) rfl (gooV mB461 mB462 mB463 mB285 mB371) rfl (by decide +kernel) rfl ⟨Nat.le_of_ble_eq_true rfl, Nat.le_of_ble_eq_true rfl⟩ rfl rfl ⟨Nat.le_of_ble_eq_true rfl, Nat.le_of_ble_eq_true rfl⟩ hl.1 rfl (Nat.le_of_ble_eq_true rfl) dL_snapshots_3 (fun hec H locs q9 ce Z hce hcv hcl => ?_) (fun hec w9 H locs Z => ?_)
  · exact absurd h0 hec
  · rw [List.nil_append, List.append_nil] at Z
    exact kI _ _ _ _ _ _ (Nat.le_of_ble_eq_true rfl) (Nat.le_of_ble_eq_true rfl) dL_snapshots_6 Z
set_option maxHeartbeats 4000000 in
set_option maxRecDepth 100000 in
theorem wL_snapshots_1 (l : Launch) (hst : l.stackTraces = false) {G : LY} {g : Mem} {n : Nat} {x1 : Int32} {x2 : Int32} {r : Nat × Int32 × Mem} (hm : sX6_snapshotRead n g x1 x2 = some r) (hj : r.1 = 3) : cLw l yL_snapshots wmL_snapshots 8 135 3 18 G [.ref (G.1 160), .int x1, .int x2] (wC G g) (wC G r.2.2) (-1000000) := by
  refine mk_cLw (by decide +kernel) rfl (Nat.le_of_ble_eq_true rfl) (fun p e s m args below meth c A Q ls X ht kI hl Z => ?_)
  have hx := X.1
  have hb := X.2.1
  refine lv_aload_n hx hb dL_snapshots_0 rfl (lv_at hl 0 rfl) ?_
  refine lv_iload_n hx hb dL_snapshots_1 rfl (lv_at hl 1 rfl) ?_
  refine lv_iload_n hx hb dL_snapshots_2 rfl (lv_at hl 2 rfl) ?_
  refine l_callX (n := 2) (a := []) (b := []) (As := [.int x1, .int x2]) (rest := []) (c1 := 3) (s1 := 18) sameC adC (sG_r G) X (by rw [List.nil_append, List.append_nil]; exact Z) (cX6_snapshotRead_c l hst hm) (oX6 k160) rfl (gooV mB461 mB462 mB463 mB285 mB371) rfl (by decide +kernel) rfl ⟨Nat.le_of_ble_eq_true rfl, Nat.le_of_ble_eq_true rfl⟩ rfl rfl ⟨Nat.le_of_ble_eq_true rfl, Nat.le_of_ble_eq_true rfl⟩ hl.1 rfl (Nat.le_of_ble_eq_true rfl) dL_snapshots_3 (fun hec H locs q9 ce Z hce hcv hcl => ?_) (fun hec w9 H locs Z => ?_)
  · rw [hj] at hcl
    rw [List.nil_append, List.append_nil] at Z
    refine l_catch (pre := []) (suf := []) (x := (0, 6, 7, 14)) (ec := 3) (pcx := 7) X Z.2.2 ht rfl (fun _ h => absurd h List.not_mem_nil) (by decide) (by decide) (List.mem_cons_of_mem _ mB439) (by decide) hce hcv hcl rfl ?_
    refine lv_astore_n (lv' := [(3, .ref q9), (0, .ref (G.1 160)), (1, .int x1), (2, .int x2)]) hx hb dL_snapshots_7 rfl hl (by decide) rfl (fun ls hl => ?_)
    refine lv_ldc (v := (-1000000 : Int32)) hx hb X.2.2.2.1 (X.2.2.2.2.1 _ (List.mem_cons_of_mem _ mB440)) dL_snapshots_8 ?_
    exact kI _ _ _ _ _ _ (Nat.le_of_ble_eq_true rfl) (Nat.le_of_ble_eq_true rfl) dL_snapshots_10 Z
  · rw [hj] at hec
    exact absurd hec (by decide)
theorem cL_snapshots_c (l : Launch) (hst : l.stackTraces = false) {G : LY} {g : Mem} {n : Nat} {x1 : Int32} {x2 : Int32} {v : Int32} {g1 : Mem} (hm : sL_snapshots n g x1 x2 = some (v, g1)) : cLw l yL_snapshots wmL_snapshots 8 135 3 18 G [.ref (G.1 160), .int x1, .int x2] (wC G g) (wC G g1) v := by
  unfold sL_snapshots at hm
  cases h : sX6_snapshotRead n g x1 x2 with
  | none => rw [h] at hm; cases hm
  | some r =>
    rw [h] at hm
    by_cases h0 : r.1 = 0
    · replace hm := (if_pos h0).symm.trans hm
      have e1 : r.2.1 = v := congrArg Prod.fst (Option.some.inj hm)
      have e2 : r.2.2 = g1 := congrArg Prod.snd (Option.some.inj hm)
      rw [← e1, ← e2]
      exact wL_snapshots_0 l hst h h0
    · replace hm := (if_neg h0).symm.trans hm
      by_cases h3 : r.1 = 3
      · replace hm := (if_pos h3).symm.trans hm
        have e1 : (-1000000 : Int32) = v := congrArg Prod.fst (Option.some.inj hm)
        have e2 : r.2.2 = g1 := congrArg Prod.snd (Option.some.inj hm)
        rw [← e1, ← e2]
        exact wL_snapshots_1 l hst h h3
      · replace hm := (if_neg h3).symm.trans hm
        cases hm
end GW
