theorem va_D_iff {A : Nat → Prop} {ws : va_W} : va_D A ws ↔ (ws.map Prod.fst).Nodup ∧ ∀ q ∈ ws, A q.1 := by
  constructor
  · intro h
    refine ⟨?_, fun q hq => ?_⟩
    · show List.Pairwise _ _
      rw [List.pairwise_iff_getElem]
      intro i j hi hj hij he
      rw [List.length_map] at hi hj
      rw [List.getElem_map, List.getElem_map] at he
      have := h.1 i j _ _ (List.getElem?_eq_getElem hi) (List.getElem?_eq_getElem hj) he
      omega
    · obtain ⟨k, hk, rfl⟩ := List.mem_iff_getElem.mp hq
      exact h.2 k _ (List.getElem?_eq_getElem hk)
  · rintro ⟨h1, h2⟩
    refine ⟨fun i j p q hi hj he => ?_, fun k q hk => h2 q (List.mem_of_getElem? hk)⟩
    replace h1 : List.Pairwise (fun a b => a ≠ b) (ws.map Prod.fst) := h1
    rw [List.pairwise_iff_getElem] at h1
    obtain ⟨hi1, hi2⟩ := List.getElem?_eq_some_iff.mp hi
    obtain ⟨hj1, hj2⟩ := List.getElem?_eq_some_iff.mp hj
    have hi3 : i < (ws.map Prod.fst).length := by rw [List.length_map]; exact hi1
    have hj3 : j < (ws.map Prod.fst).length := by rw [List.length_map]; exact hj1
    rcases Nat.lt_trichotomy i j with z | z | z
    · refine absurd ?_ (h1 i j hi3 hj3 z)
      rw [List.getElem_map, List.getElem_map, hi2, hj2]
      exact he
    · exact z
    · refine absurd ?_ (h1 j i hj3 hi3 z)
      rw [List.getElem_map, List.getElem_map, hi2, hj2]
      exact he.symm
theorem va_P_iff {D : va_G} {cl : List vw_C} {ws : va_W} {H : Heap} : va_P D cl ws H ↔ ∀ q ∈ ws, va_at D cl q H := by
  refine ⟨fun h q hq => ?_, fun h k q hk => h q (List.mem_of_getElem? hk)⟩
  obtain ⟨k, hk, rfl⟩ := List.mem_iff_getElem.mp hq
  exact h k _ (List.getElem?_eq_getElem hk)
theorem ls_perm {G : LY} {A : Nat → Prop} {H0 H : Heap} {locs : List Loc} {w w' : va_W} (hp : w.Perm w') (Z : LSt G w A H0 H locs) : LSt G w' A H0 H locs := by
  obtain ⟨h1, h2, h3⟩ := Z
  refine ⟨va_P_iff.mpr fun q hq => va_P_iff.mp h1 q (hp.mem_iff.mpr hq), va_D_iff.mpr ⟨?_, fun q hq => (va_D_iff.mp h2).2 q (hp.mem_iff.mpr hq)⟩, h3⟩
  exact (hp.map Prod.fst).nodup_iff.mp (va_D_iff.mp h2).1
theorem ls_mv {G : LY} {A : Nat → Prop} {H0 H : Heap} {locs : List Loc} {e b n : va_W} (Z : LSt G ((e ++ b) ++ n) A H0 H locs) : LSt G ((e ++ n) ++ b) A H0 H locs := by
  have hp : ((e ++ b) ++ n).Perm ((e ++ n) ++ b) := by
    rw [List.append_assoc, List.append_assoc]
    exact List.Perm.append_left e List.perm_append_comm
  exact ls_perm hp Z
theorem ls_as {G : LY} {A : Nat → Prop} {H0 H : Heap} {locs : List Loc} {e b n : va_W} (Z : LSt G ((e ++ b) ++ n) A H0 H locs) : LSt G (e ++ (b ++ n)) A H0 H locs := by
  rw [← List.append_assoc]
  exact Z
section GN
def stL (G : LY) (ad : Nat → Nat) : va_W := [((ad 0), .inr (2, [.int 0, .int 0, .int 0, .ref (ad 1), .ref (ad 5), .ref (ad 9)])), ((ad 1), .inl (G.2.1 3, 3, .inr (.inr (.inr (.inr (va_up (va_up (va_up (fun _ => none) (0 : Int32).toNatClampNeg (some (ad 2))) (1 : Int32).toNatClampNeg (some (ad 3))) (2 : Int32).toNatClampNeg (some (ad 4)))))))), ((ad 5), .inr (5, [.ref (ad 6), .ref (ad 7), .ref (ad 8)])), ((ad 6), .inl (G.2.1 0, 8, .inl (upd (upd (upd (upd (upd (upd (upd (upd (fun _ => 0) (0 : Int32).toNatClampNeg 1) (1 : Int32).toNatClampNeg 1) (2 : Int32).toNatClampNeg 1) (3 : Int32).toNatClampNeg 1) (4 : Int32).toNatClampNeg 1) (5 : Int32).toNatClampNeg 1) (6 : Int32).toNatClampNeg 1) (7 : Int32).toNatClampNeg 1))), ((ad 7), .inl (G.2.1 0, 328, .inl (fun _ => 0))), ((ad 8), .inl (G.2.1 0, 328, .inl (fun _ => 0))), ((ad 9), .inr (4, [.int 0, .ref (ad 10), .ref (ad 11), .ref (ad 12), .ref (ad 13), .ref (ad 14), .ref (ad 15), .ref (ad 16)])), ((ad 10), .inl (G.2.1 0, 40, .inl (fun _ => 0))), ((ad 11), .inl (G.2.1 0, 40, .inl (fun _ => 0))), ((ad 12), .inl (G.2.1 0, 40, .inl (fun _ => 0))), ((ad 13), .inl (G.2.1 0, 40, .inl (fun _ => 0))), ((ad 14), .inl (G.2.1 0, 40, .inl (fun _ => 0))), ((ad 15), .inl (G.2.1 0, 320, .inl (fun _ => 0))), ((ad 16), .inl (G.2.1 0, 320, .inl (fun _ => 0))), ((ad 2), .inr (1, [.int 0, .int 0, .int 0, .int 5, .int 2, .int 0, .int 0])), ((ad 3), .inr (1, [.int 0, .int 0, .int 0, .int 5, .int 2, .int 0, .int 0])), ((ad 4), .inr (1, [.int 0, .int 0, .int 0, .int 5, .int 2, .int 0, .int 0]))]
theorem st_0 (G : LY) (ad : Nat → Nat) : (stL G ad)[0]? = some (ad 0, .inr (2, [.int 0, .int 0, .int 0, .ref (ad 1), .ref (ad 5), .ref (ad 9)])) := rfl
def svL (G : LY) (h r : Nat) (as : Nat → Nat → Nat) : va_W := [(h, .inr (0, [.int 0, .int 0, .ref r])), (r, .inl (G.2.1 4, 6, .inr (.inr (.inr (.inr (va_up (va_up (va_up (va_up (va_up (va_up (fun _ => none) (0 : Int32).toNatClampNeg (some (as 0 0))) (1 : Int32).toNatClampNeg (some (as 1 0))) (2 : Int32).toNatClampNeg (some (as 2 0))) (3 : Int32).toNatClampNeg (some (as 3 0))) (4 : Int32).toNatClampNeg (some (as 4 0))) (5 : Int32).toNatClampNeg (some (as 5 0))))))))] ++ (stL G (as 0) ++ stL G (as 1) ++ stL G (as 2) ++ stL G (as 3) ++ stL G (as 4) ++ stL G (as 5))
def x6L (G : LY) (h u1 u2 u3 u4 u5 sv r : Nat) (s0 s7 s8 : Nat → Nat) (as : Nat → Nat → Nat) : va_W := [(h, .inr (6, [.ref (s0 0), .ref sv, .ref u1, .ref u2, .ref u3])), (u1, .inl (G.2.1 4, 2, .inr (.inr (.inr (.inr (va_up (va_up (fun _ => none) (0 : Int32).toNatClampNeg (some (s7 0))) (1 : Int32).toNatClampNeg (some (s8 0)))))))), (u2, .inl (G.2.1 1, 2, .inl (fun _ => 0))), (u3, .inr (3, [.int 0, .int 0, .ref u4, .int 0, .ref u5])), (u4, .inl (G.2.1 0, 3, .inl (fun _ => 0))), (u5, .inl (G.2.1 2, 80, .inl (fun _ => 0)))] ++ (stL G s0 ++ svL G sv r as ++ stL G s7 ++ stL G s8)
variable {G : LY}
abbrev wmX1_init : List Cond := Cond.code yX1_init cX1_init 1 none :: wA0
set_option maxHeartbeats 8000000 in
set_option maxRecDepth 100000 in
theorem cX1_init_c (l : Launch) (h0 : Nat) : cN l yX1_init wmX1_init 1 12 0 0 G [.ref h0] [(h0, .inr (1, [.int 0, .int 0, .int 0, .int 0, .int 0, .int 0, .int 0]))] (fun w => w = [(h0, .inr (1, [.int 0, .int 0, .int 0, .int 5, .int 2, .int 0, .int 0]))]) := by
  refine mk_cN (by decide +kernel) rfl rfl (Nat.le_of_ble_eq_true rfl) (fun p e s m args below meth c A Q ls X hin kI hl Z => ?_)
  have hx := X.1
  have hb := X.2.1
  obtain ⟨H, hH⟩ : ∃ z, z = s.heap := ⟨_, rfl⟩
  obtain ⟨locs, hlocs⟩ : ∃ z : List Loc, z = [] := ⟨_, rfl⟩
  rw [← hlocs]
  have Z : LSt G [(h0, .inr (1, [.int 0, .int 0, .int 0, .int 0, .int 0, .int 0, .int 0]))] A s.heap s.heap locs := by rw [hlocs]; exact Z
  refine lv_aload_n hx hb dX1_init_0 rfl (lv_at hl 0 rfl) ?_
  refine n_obj X (List.mem_cons_of_mem _ mB18) (List.mem_cons_of_mem _ mB2) (List.mem_cons_of_mem _ mB3) hl.1 ⟨Nat.le_of_ble_eq_true rfl, Nat.le_of_ble_eq_true rfl⟩ dX1_init_1 ?_
  refine lv_aload_n hx hb dX1_init_4 rfl (lv_at hl 0 rfl) ?_
  refine lv_iconst (v := 5) hx hb dX1_init_5 (by decide) ?_
  refine n_put (j := 3) (q0 := 0) (x := 5) X Z (iB1 _) tyX1_ok nmX1 rfl rfl (by decide) rfl (List.mem_cons_of_mem _ mB19) rfl (by decide +kernel) (Nat.le_of_ble_eq_true rfl) dX1_init_6 (fun H locs Z => ?_)
  have Z : LSt G ([(h0, .inr (1, [.int 0, .int 0, .int 0, .int 5, .int 0, .int 0, .int 0]))]) A s.heap H locs := Z
  refine lv_aload_n hx hb dX1_init_9 rfl (lv_at hl 0 rfl) ?_
  refine lv_iconst (v := 2) hx hb dX1_init_10 (by decide) ?_
  refine n_put (j := 4) (q0 := 0) (x := 2) X Z (iB1 _) tyX1_ok nmX1 rfl rfl (by decide) rfl (List.mem_cons_of_mem _ mB20) rfl (by decide +kernel) (Nat.le_of_ble_eq_true rfl) dX1_init_11 (fun H locs Z => ?_)
  have Z : LSt G ([(h0, .inr (1, [.int 0, .int 0, .int 0, .int 5, .int 2, .int 0, .int 0]))]) A s.heap H locs := Z
  exact kI _ _ _ _ _ dX1_init_14 rfl Z
abbrev wmX5_init : List Cond := Cond.code yX5_init cX5_init 2 none :: wA0
set_option maxHeartbeats 8000000 in
set_option maxRecDepth 100000 in
theorem cX5_init_c (l : Launch) (h0 : Nat) : cN l yX5_init wmX5_init 1 12 3 664 G [.ref h0] [(h0, .inr (5, [.null, .null, .null]))] (fun w => ∃ v0 v1 v2 : Nat, w = [(h0, .inr (5, [.ref v0, .ref v1, .ref v2])), (v0, .inl (G.2.1 0, 8, .inl (upd (upd (upd (upd (upd (upd (upd (upd (fun _ => 0) (0 : Int32).toNatClampNeg 1) (1 : Int32).toNatClampNeg 1) (2 : Int32).toNatClampNeg 1) (3 : Int32).toNatClampNeg 1) (4 : Int32).toNatClampNeg 1) (5 : Int32).toNatClampNeg 1) (6 : Int32).toNatClampNeg 1) (7 : Int32).toNatClampNeg 1))), (v1, .inl (G.2.1 0, 328, .inl (fun _ => 0))), (v2, .inl (G.2.1 0, 328, .inl (fun _ => 0)))]) := by
  refine mk_cN (by decide +kernel) rfl rfl (Nat.le_of_ble_eq_true rfl) (fun p e s m args below meth c A Q ls X hin kI hl Z => ?_)
  have hx := X.1
  have hb := X.2.1
  obtain ⟨H, hH⟩ : ∃ z, z = s.heap := ⟨_, rfl⟩
  obtain ⟨locs, hlocs⟩ : ∃ z : List Loc, z = [] := ⟨_, rfl⟩
  rw [← hlocs]
  have Z : LSt G [(h0, .inr (5, [.null, .null, .null]))] A s.heap s.heap locs := by rw [hlocs]; exact Z
  refine lv_aload_n hx hb dX5_init_0 rfl (lv_at hl 0 rfl) ?_
  refine n_obj X (List.mem_cons_of_mem _ mB1) (List.mem_cons_of_mem _ mB2) (List.mem_cons_of_mem _ mB3) hl.1 ⟨Nat.le_of_ble_eq_true rfl, Nat.le_of_ble_eq_true rfl⟩ dX5_init_1 ?_
  refine lv_aload_n hx hb dX5_init_4 rfl (lv_at hl 0 rfl) ?_
  refine lv_bipush (v := 8) hx hb dX5_init_5 (by decide) ?_
  refine n_newa (atype := .int) (t := 0) (ty := .int) (N' := 8) (c1 := 1) (s1 := 8) X Z (List.mem_cons_of_mem _ mB4) rfl rfl (fun _ => rfl) (by decide) (by decide) (Nat.le_of_ble_eq_true rfl) rfl rfl ⟨Nat.le_of_ble_eq_true rfl, Nat.le_of_ble_eq_true rfl⟩ dX5_init_7 (fun q1 H Z => ?_)
  have Z : LSt G ([(h0, .inr (5, [.null, .null, .null])), (q1, .inl (G.2.1 0, 8, .inl (fun _ => 0)))]) A s.heap H locs := Z
  refine n_putF (j := 0) (q0 := 0) (ty := tyX5 0) (v := .ref q1) X hin Z (iB5 _) tyX5_ok nmX5 rfl rfl (by decide) rfl (List.mem_cons_of_mem _ mB5) rfl rfl (by decide +kernel) rfl rfl (Nat.le_of_ble_eq_true rfl) dX5_init_9 (fun H locs Z => ?_)
  have Z : LSt G ([(h0, .inr (5, [.ref q1, .null, .null])), (q1, .inl (G.2.1 0, 8, .inl (fun _ => 0)))]) A s.heap H locs := Z
  refine lv_aload_n hx hb dX5_init_12 rfl (lv_at hl 0 rfl) ?_
  refine lv_sipush (v := 328) hx hb dX5_init_13 (by decide) ?_
  refine n_newa (atype := .int) (t := 0) (ty := .int) (N' := 328) (c1 := 2) (s1 := 336) X Z (List.mem_cons_of_mem _ mB4) rfl rfl (fun _ => rfl) (by decide) (by decide) (Nat.le_of_ble_eq_true rfl) rfl rfl ⟨Nat.le_of_ble_eq_true rfl, Nat.le_of_ble_eq_true rfl⟩ dX5_init_16 (fun q2 H Z => ?_)
  have Z : LSt G ([(h0, .inr (5, [.ref q1, .null, .null])), (q1, .inl (G.2.1 0, 8, .inl (fun _ => 0))), (q2, .inl (G.2.1 0, 328, .inl (fun _ => 0)))]) A s.heap H locs := Z
  refine n_putF (j := 1) (q0 := 0) (ty := tyX5 1) (v := .ref q2) X hin Z (iB5 _) tyX5_ok nmX5 rfl rfl (by decide) rfl (List.mem_cons_of_mem _ mB6) rfl rfl (by decide +kernel) rfl rfl (Nat.le_of_ble_eq_true rfl) dX5_init_18 (fun H locs Z => ?_)
  have Z : LSt G ([(h0, .inr (5, [.ref q1, .ref q2, .null])), (q1, .inl (G.2.1 0, 8, .inl (fun _ => 0))), (q2, .inl (G.2.1 0, 328, .inl (fun _ => 0)))]) A s.heap H locs := Z
  refine lv_aload_n hx hb dX5_init_21 rfl (lv_at hl 0 rfl) ?_
  refine lv_sipush (v := 328) hx hb dX5_init_22 (by decide) ?_
  refine n_newa (atype := .int) (t := 0) (ty := .int) (N' := 328) (c1 := 3) (s1 := 664) X Z (List.mem_cons_of_mem _ mB4) rfl rfl (fun _ => rfl) (by decide) (by decide) (Nat.le_of_ble_eq_true rfl) rfl rfl ⟨Nat.le_of_ble_eq_true rfl, Nat.le_of_ble_eq_true rfl⟩ dX5_init_25 (fun q3 H Z => ?_)
  have Z : LSt G ([(h0, .inr (5, [.ref q1, .ref q2, .null])), (q1, .inl (G.2.1 0, 8, .inl (fun _ => 0))), (q2, .inl (G.2.1 0, 328, .inl (fun _ => 0))), (q3, .inl (G.2.1 0, 328, .inl (fun _ => 0)))]) A s.heap H locs := Z
  refine n_putF (j := 2) (q0 := 0) (ty := tyX5 2) (v := .ref q3) X hin Z (iB5 _) tyX5_ok nmX5 rfl rfl (by decide) rfl (List.mem_cons_of_mem _ mB7) rfl rfl (by decide +kernel) rfl rfl (Nat.le_of_ble_eq_true rfl) dX5_init_27 (fun H locs Z => ?_)
  have Z : LSt G ([(h0, .inr (5, [.ref q1, .ref q2, .ref q3])), (q1, .inl (G.2.1 0, 8, .inl (fun _ => 0))), (q2, .inl (G.2.1 0, 328, .inl (fun _ => 0))), (q3, .inl (G.2.1 0, 328, .inl (fun _ => 0)))]) A s.heap H locs := Z
  refine lv_iconst (v := 0) hx hb dX5_init_30 (by decide) ?_
  refine lv_istore_n (lv' := [(1, .int 0), (0, .ref h0)]) hx hb dX5_init_31 rfl hl (by decide) rfl (fun ls hl => ?_)
  refine lv_iload_n hx hb dX5_init_32 rfl (lv_at hl 0 rfl) ?_
  refine lv_bipush (v := 8) hx hb dX5_init_33 (by decide) ?_
  refine lv_icmp_ge (tgt := 51) hx hb dX5_init_35 (by decide) (fun c4 => ?_) (fun c4 => ?_)
  · first | exact absurd c4 (by decide) | exact absurd (by decide) c4
  refine lv_aload_n hx hb dX5_init_38 rfl (lv_at hl 1 rfl) ?_
  refine n_get (j := 0) (q0 := 0) (v := .ref q1) X Z (iB5 _) rfl rfl (by decide) rfl (List.mem_cons_of_mem _ mB5) rfl dX5_init_39 ?_
  refine lv_iload_n hx hb dX5_init_42 rfl (lv_at hl 0 rfl) ?_
  refine lv_iconst (v := 1) hx hb dX5_init_43 (by decide) ?_
  refine n_iast (q0 := 1) X Z rfl (by unfold vp_in; decide) dX5_init_44 (fun H locs Z => ?_)
  have Z : LSt G ([(h0, .inr (5, [.ref q1, .ref q2, .ref q3])), (q1, .inl (G.2.1 0, 8, .inl (upd (fun _ => 0) (0 : Int32).toNatClampNeg 1))), (q2, .inl (G.2.1 0, 328, .inl (fun _ => 0))), (q3, .inl (G.2.1 0, 328, .inl (fun _ => 0)))]) A s.heap H locs := Z
  refine lv_iinc (v := 1) (lv' := [(1, .int 1), (0, .ref h0)]) hx hb dX5_init_45 hl (k := 0) rfl (by decide) (by decide) rfl (fun ls hl => ?_)
  refine lv_goto (tgt := 32) hx hb dX5_init_48 (by decide) ?_
  refine lv_iload_n hx hb dX5_init_32 rfl (lv_at hl 0 rfl) ?_
  refine lv_bipush (v := 8) hx hb dX5_init_33 (by decide) ?_
  refine lv_icmp_ge (tgt := 51) hx hb dX5_init_35 (by decide) (fun c5 => ?_) (fun c5 => ?_)
  · first | exact absurd c5 (by decide) | exact absurd (by decide) c5
  refine lv_aload_n hx hb dX5_init_38 rfl (lv_at hl 1 rfl) ?_
  refine n_get (j := 0) (q0 := 0) (v := .ref q1) X Z (iB5 _) rfl rfl (by decide) rfl (List.mem_cons_of_mem _ mB5) rfl dX5_init_39 ?_
  refine lv_iload_n hx hb dX5_init_42 rfl (lv_at hl 0 rfl) ?_
  refine lv_iconst (v := 1) hx hb dX5_init_43 (by decide) ?_
  refine n_iast (q0 := 1) X Z rfl (by unfold vp_in; decide) dX5_init_44 (fun H locs Z => ?_)
  have Z : LSt G ([(h0, .inr (5, [.ref q1, .ref q2, .ref q3])), (q1, .inl (G.2.1 0, 8, .inl (upd (upd (fun _ => 0) (0 : Int32).toNatClampNeg 1) (1 : Int32).toNatClampNeg 1))), (q2, .inl (G.2.1 0, 328, .inl (fun _ => 0))), (q3, .inl (G.2.1 0, 328, .inl (fun _ => 0)))]) A s.heap H locs := Z
  refine lv_iinc (v := 2) (lv' := [(1, .int 2), (0, .ref h0)]) hx hb dX5_init_45 hl (k := 0) rfl (by decide) (by decide) rfl (fun ls hl => ?_)
  refine lv_goto (tgt := 32) hx hb dX5_init_48 (by decide) ?_
  refine lv_iload_n hx hb dX5_init_32 rfl (lv_at hl 0 rfl) ?_
  refine lv_bipush (v := 8) hx hb dX5_init_33 (by decide) ?_
  refine lv_icmp_ge (tgt := 51) hx hb dX5_init_35 (by decide) (fun c6 => ?_) (fun c6 => ?_)
  · first | exact absurd c6 (by decide) | exact absurd (by decide) c6
  refine lv_aload_n hx hb dX5_init_38 rfl (lv_at hl 1 rfl) ?_
  refine n_get (j := 0) (q0 := 0) (v := .ref q1) X Z (iB5 _) rfl rfl (by decide) rfl (List.mem_cons_of_mem _ mB5) rfl dX5_init_39 ?_
  refine lv_iload_n hx hb dX5_init_42 rfl (lv_at hl 0 rfl) ?_
  refine lv_iconst (v := 1) hx hb dX5_init_43 (by decide) ?_
  refine n_iast (q0 := 1) X Z rfl (by unfold vp_in; decide) dX5_init_44 (fun H locs Z => ?_)
  have Z : LSt G ([(h0, .inr (5, [.ref q1, .ref q2, .ref q3])), (q1, .inl (G.2.1 0, 8, .inl (upd (upd (upd (fun _ => 0) (0 : Int32).toNatClampNeg 1) (1 : Int32).toNatClampNeg 1) (2 : Int32).toNatClampNeg 1))), (q2, .inl (G.2.1 0, 328, .inl (fun _ => 0))), (q3, .inl (G.2.1 0, 328, .inl (fun _ => 0)))]) A s.heap H locs := Z
  refine lv_iinc (v := 3) (lv' := [(1, .int 3), (0, .ref h0)]) hx hb dX5_init_45 hl (k := 0) rfl (by decide) (by decide) rfl (fun ls hl => ?_)
  refine lv_goto (tgt := 32) hx hb dX5_init_48 (by decide) ?_
  refine lv_iload_n hx hb dX5_init_32 rfl (lv_at hl 0 rfl) ?_
  refine lv_bipush (v := 8) hx hb dX5_init_33 (by decide) ?_
  refine lv_icmp_ge (tgt := 51) hx hb dX5_init_35 (by decide) (fun c7 => ?_) (fun c7 => ?_)
  · first | exact absurd c7 (by decide) | exact absurd (by decide) c7
  refine lv_aload_n hx hb dX5_init_38 rfl (lv_at hl 1 rfl) ?_
  refine n_get (j := 0) (q0 := 0) (v := .ref q1) X Z (iB5 _) rfl rfl (by decide) rfl (List.mem_cons_of_mem _ mB5) rfl dX5_init_39 ?_
  refine lv_iload_n hx hb dX5_init_42 rfl (lv_at hl 0 rfl) ?_
  refine lv_iconst (v := 1) hx hb dX5_init_43 (by decide) ?_
  refine n_iast (q0 := 1) X Z rfl (by unfold vp_in; decide) dX5_init_44 (fun H locs Z => ?_)
  have Z : LSt G ([(h0, .inr (5, [.ref q1, .ref q2, .ref q3])), (q1, .inl (G.2.1 0, 8, .inl (upd (upd (upd (upd (fun _ => 0) (0 : Int32).toNatClampNeg 1) (1 : Int32).toNatClampNeg 1) (2 : Int32).toNatClampNeg 1) (3 : Int32).toNatClampNeg 1))), (q2, .inl (G.2.1 0, 328, .inl (fun _ => 0))), (q3, .inl (G.2.1 0, 328, .inl (fun _ => 0)))]) A s.heap H locs := Z
  refine lv_iinc (v := 4) (lv' := [(1, .int 4), (0, .ref h0)]) hx hb dX5_init_45 hl (k := 0) rfl (by decide) (by decide) rfl (fun ls hl => ?_)
  refine lv_goto (tgt := 32) hx hb dX5_init_48 (by decide) ?_
  refine lv_iload_n hx hb dX5_init_32 rfl (lv_at hl 0 rfl) ?_
  refine lv_bipush (v := 8) hx hb dX5_init_33 (by decide) ?_
  refine lv_icmp_ge (tgt := 51) hx hb dX5_init_35 (by decide) (fun c8 => ?_) (fun c8 => ?_)
  · first | exact absurd c8 (by decide) | exact absurd (by decide) c8
  refine lv_aload_n hx hb dX5_init_38 rfl (lv_at hl 1 rfl) ?_
  refine n_get (j := 0) (q0 := 0) (v := .ref q1) X Z (iB5 _) rfl rfl (by decide) rfl (List.mem_cons_of_mem _ mB5) rfl dX5_init_39 ?_
  refine lv_iload_n hx hb dX5_init_42 rfl (lv_at hl 0 rfl) ?_
  refine lv_iconst (v := 1) hx hb dX5_init_43 (by decide) ?_
  refine n_iast (q0 := 1) X Z rfl (by unfold vp_in; decide) dX5_init_44 (fun H locs Z => ?_)
  have Z : LSt G ([(h0, .inr (5, [.ref q1, .ref q2, .ref q3])), (q1, .inl (G.2.1 0, 8, .inl (upd (upd (upd (upd (upd (fun _ => 0) (0 : Int32).toNatClampNeg 1) (1 : Int32).toNatClampNeg 1) (2 : Int32).toNatClampNeg 1) (3 : Int32).toNatClampNeg 1) (4 : Int32).toNatClampNeg 1))), (q2, .inl (G.2.1 0, 328, .inl (fun _ => 0))), (q3, .inl (G.2.1 0, 328, .inl (fun _ => 0)))]) A s.heap H locs := Z
  refine lv_iinc (v := 5) (lv' := [(1, .int 5), (0, .ref h0)]) hx hb dX5_init_45 hl (k := 0) rfl (by decide) (by decide) rfl (fun ls hl => ?_)
  refine lv_goto (tgt := 32) hx hb dX5_init_48 (by decide) ?_
  refine lv_iload_n hx hb dX5_init_32 rfl (lv_at hl 0 rfl) ?_
  refine lv_bipush (v := 8) hx hb dX5_init_33 (by decide) ?_
  refine lv_icmp_ge (tgt := 51) hx hb dX5_init_35 (by decide) (fun c9 => ?_) (fun c9 => ?_)
  · first | exact absurd c9 (by decide) | exact absurd (by decide) c9
  refine lv_aload_n hx hb dX5_init_38 rfl (lv_at hl 1 rfl) ?_
  refine n_get (j := 0) (q0 := 0) (v := .ref q1) X Z (iB5 _) rfl rfl (by decide) rfl (List.mem_cons_of_mem _ mB5) rfl dX5_init_39 ?_
  refine lv_iload_n hx hb dX5_init_42 rfl (lv_at hl 0 rfl) ?_
  refine lv_iconst (v := 1) hx hb dX5_init_43 (by decide) ?_
  refine n_iast (q0 := 1) X Z rfl (by unfold vp_in; decide) dX5_init_44 (fun H locs Z => ?_)
  have Z : LSt G ([(h0, .inr (5, [.ref q1, .ref q2, .ref q3])), (q1, .inl (G.2.1 0, 8, .inl (upd (upd (upd (upd (upd (upd (fun _ => 0) (0 : Int32).toNatClampNeg 1) (1 : Int32).toNatClampNeg 1) (2 : Int32).toNatClampNeg 1) (3 : Int32).toNatClampNeg 1) (4 : Int32).toNatClampNeg 1) (5 : Int32).toNatClampNeg 1))), (q2, .inl (G.2.1 0, 328, .inl (fun _ => 0))), (q3, .inl (G.2.1 0, 328, .inl (fun _ => 0)))]) A s.heap H locs := Z
  refine lv_iinc (v := 6) (lv' := [(1, .int 6), (0, .ref h0)]) hx hb dX5_init_45 hl (k := 0) rfl (by decide) (by decide) rfl (fun ls hl => ?_)
  refine lv_goto (tgt := 32) hx hb dX5_init_48 (by decide) ?_
  refine lv_iload_n hx hb dX5_init_32 rfl (lv_at hl 0 rfl) ?_
  refine lv_bipush (v := 8) hx hb dX5_init_33 (by decide) ?_
  refine lv_icmp_ge (tgt := 51) hx hb dX5_init_35 (by decide) (fun c10 => ?_) (fun c10 => ?_)
  · first | exact absurd c10 (by decide) | exact absurd (by decide) c10
  refine lv_aload_n hx hb dX5_init_38 rfl (lv_at hl 1 rfl) ?_
  refine n_get (j := 0) (q0 := 0) (v := .ref q1) X Z (iB5 _) rfl rfl (by decide) rfl (List.mem_cons_of_mem _ mB5) rfl dX5_init_39 ?_
  refine lv_iload_n hx hb dX5_init_42 rfl (lv_at hl 0 rfl) ?_
  refine lv_iconst (v := 1) hx hb dX5_init_43 (by decide) ?_
  refine n_iast (q0 := 1) X Z rfl (by unfold vp_in; decide) dX5_init_44 (fun H locs Z => ?_)
  have Z : LSt G ([(h0, .inr (5, [.ref q1, .ref q2, .ref q3])), (q1, .inl (G.2.1 0, 8, .inl (upd (upd (upd (upd (upd (upd (upd (fun _ => 0) (0 : Int32).toNatClampNeg 1) (1 : Int32).toNatClampNeg 1) (2 : Int32).toNatClampNeg 1) (3 : Int32).toNatClampNeg 1) (4 : Int32).toNatClampNeg 1) (5 : Int32).toNatClampNeg 1) (6 : Int32).toNatClampNeg 1))), (q2, .inl (G.2.1 0, 328, .inl (fun _ => 0))), (q3, .inl (G.2.1 0, 328, .inl (fun _ => 0)))]) A s.heap H locs := Z
  refine lv_iinc (v := 7) (lv' := [(1, .int 7), (0, .ref h0)]) hx hb dX5_init_45 hl (k := 0) rfl (by decide) (by decide) rfl (fun ls hl => ?_)
  refine lv_goto (tgt := 32) hx hb dX5_init_48 (by decide) ?_
  refine lv_iload_n hx hb dX5_init_32 rfl (lv_at hl 0 rfl) ?_
  refine lv_bipush (v := 8) hx hb dX5_init_33 (by decide) ?_
  refine lv_icmp_ge (tgt := 51) hx hb dX5_init_35 (by decide) (fun c11 => ?_) (fun c11 => ?_)
  · first | exact absurd c11 (by decide) | exact absurd (by decide) c11
  refine lv_aload_n hx hb dX5_init_38 rfl (lv_at hl 1 rfl) ?_
  refine n_get (j := 0) (q0 := 0) (v := .ref q1) X Z (iB5 _) rfl rfl (by decide) rfl (List.mem_cons_of_mem _ mB5) rfl dX5_init_39 ?_
  refine lv_iload_n hx hb dX5_init_42 rfl (lv_at hl 0 rfl) ?_
  refine lv_iconst (v := 1) hx hb dX5_init_43 (by decide) ?_
  refine n_iast (q0 := 1) X Z rfl (by unfold vp_in; decide) dX5_init_44 (fun H locs Z => ?_)
  have Z : LSt G ([(h0, .inr (5, [.ref q1, .ref q2, .ref q3])), (q1, .inl (G.2.1 0, 8, .inl (upd (upd (upd (upd (upd (upd (upd (upd (fun _ => 0) (0 : Int32).toNatClampNeg 1) (1 : Int32).toNatClampNeg 1) (2 : Int32).toNatClampNeg 1) (3 : Int32).toNatClampNeg 1) (4 : Int32).toNatClampNeg 1) (5 : Int32).toNatClampNeg 1) (6 : Int32).toNatClampNeg 1) (7 : Int32).toNatClampNeg 1))), (q2, .inl (G.2.1 0, 328, .inl (fun _ => 0))), (q3, .inl (G.2.1 0, 328, .inl (fun _ => 0)))]) A s.heap H locs := Z
  refine lv_iinc (v := 8) (lv' := [(1, .int 8), (0, .ref h0)]) hx hb dX5_init_45 hl (k := 0) rfl (by decide) (by decide) rfl (fun ls hl => ?_)
  refine lv_goto (tgt := 32) hx hb dX5_init_48 (by decide) ?_
  refine lv_iload_n hx hb dX5_init_32 rfl (lv_at hl 0 rfl) ?_
  refine lv_bipush (v := 8) hx hb dX5_init_33 (by decide) ?_
  refine lv_icmp_ge (tgt := 51) hx hb dX5_init_35 (by decide) (fun c12 => ?_) (fun c12 => ?_)
  rotate_left
  · first | exact absurd c12 (by decide) | exact absurd (by decide) c12
  exact kI _ _ _ _ _ dX5_init_51 ⟨q1, q2, q3, rfl⟩ Z
abbrev wmX4_init : List Cond := Cond.code yX4_init cX4_init 1 none :: wA0
set_option maxHeartbeats 8000000 in
set_option maxRecDepth 100000 in
theorem cX4_init_c (l : Launch) (h0 : Nat) : cN l yX4_init wmX4_init 1 12 7 840 G [.ref h0] [(h0, .inr (4, [.int 0, .null, .null, .null, .null, .null, .null, .null]))] (fun w => ∃ v0 v1 v2 v3 v4 v5 v6 : Nat, w = [(h0, .inr (4, [.int 0, .ref v0, .ref v1, .ref v2, .ref v3, .ref v4, .ref v5, .ref v6])), (v0, .inl (G.2.1 0, 40, .inl (fun _ => 0))), (v1, .inl (G.2.1 0, 40, .inl (fun _ => 0))), (v2, .inl (G.2.1 0, 40, .inl (fun _ => 0))), (v3, .inl (G.2.1 0, 40, .inl (fun _ => 0))), (v4, .inl (G.2.1 0, 40, .inl (fun _ => 0))), (v5, .inl (G.2.1 0, 320, .inl (fun _ => 0))), (v6, .inl (G.2.1 0, 320, .inl (fun _ => 0)))]) := by
  refine mk_cN (by decide +kernel) rfl rfl (Nat.le_of_ble_eq_true rfl) (fun p e s m args below meth c A Q ls X hin kI hl Z => ?_)
  have hx := X.1
  have hb := X.2.1
  obtain ⟨H, hH⟩ : ∃ z, z = s.heap := ⟨_, rfl⟩
  obtain ⟨locs, hlocs⟩ : ∃ z : List Loc, z = [] := ⟨_, rfl⟩
  rw [← hlocs]
  have Z : LSt G [(h0, .inr (4, [.int 0, .null, .null, .null, .null, .null, .null, .null]))] A s.heap s.heap locs := by rw [hlocs]; exact Z
  refine lv_aload_n hx hb dX4_init_0 rfl (lv_at hl 0 rfl) ?_
  refine n_obj X (List.mem_cons_of_mem _ mB9) (List.mem_cons_of_mem _ mB2) (List.mem_cons_of_mem _ mB3) hl.1 ⟨Nat.le_of_ble_eq_true rfl, Nat.le_of_ble_eq_true rfl⟩ dX4_init_1 ?_
  refine lv_aload_n hx hb dX4_init_4 rfl (lv_at hl 0 rfl) ?_
  refine lv_bipush (v := 40) hx hb dX4_init_5 (by decide) ?_
  refine n_newa (atype := .int) (t := 0) (ty := .int) (N' := 40) (c1 := 1) (s1 := 40) X Z (List.mem_cons_of_mem _ mB4) rfl rfl (fun _ => rfl) (by decide) (by decide) (Nat.le_of_ble_eq_true rfl) rfl rfl ⟨Nat.le_of_ble_eq_true rfl, Nat.le_of_ble_eq_true rfl⟩ dX4_init_7 (fun q1 H Z => ?_)
  have Z : LSt G ([(h0, .inr (4, [.int 0, .null, .null, .null, .null, .null, .null, .null])), (q1, .inl (G.2.1 0, 40, .inl (fun _ => 0)))]) A s.heap H locs := Z
  refine n_putF (j := 1) (q0 := 0) (ty := tyX4 1) (v := .ref q1) X hin Z (iB4 _) tyX4_ok nmX4 rfl rfl (by decide) rfl (List.mem_cons_of_mem _ mB10) rfl rfl (by decide +kernel) rfl rfl (Nat.le_of_ble_eq_true rfl) dX4_init_9 (fun H locs Z => ?_)
  have Z : LSt G ([(h0, .inr (4, [.int 0, .ref q1, .null, .null, .null, .null, .null, .null])), (q1, .inl (G.2.1 0, 40, .inl (fun _ => 0)))]) A s.heap H locs := Z
  refine lv_aload_n hx hb dX4_init_12 rfl (lv_at hl 0 rfl) ?_
  refine lv_bipush (v := 40) hx hb dX4_init_13 (by decide) ?_
  refine n_newa (atype := .int) (t := 0) (ty := .int) (N' := 40) (c1 := 2) (s1 := 80) X Z (List.mem_cons_of_mem _ mB4) rfl rfl (fun _ => rfl) (by decide) (by decide) (Nat.le_of_ble_eq_true rfl) rfl rfl ⟨Nat.le_of_ble_eq_true rfl, Nat.le_of_ble_eq_true rfl⟩ dX4_init_15 (fun q2 H Z => ?_)
  have Z : LSt G ([(h0, .inr (4, [.int 0, .ref q1, .null, .null, .null, .null, .null, .null])), (q1, .inl (G.2.1 0, 40, .inl (fun _ => 0))), (q2, .inl (G.2.1 0, 40, .inl (fun _ => 0)))]) A s.heap H locs := Z
  refine n_putF (j := 2) (q0 := 0) (ty := tyX4 2) (v := .ref q2) X hin Z (iB4 _) tyX4_ok nmX4 rfl rfl (by decide) rfl (List.mem_cons_of_mem _ mB11) rfl rfl (by decide +kernel) rfl rfl (Nat.le_of_ble_eq_true rfl) dX4_init_17 (fun H locs Z => ?_)
  have Z : LSt G ([(h0, .inr (4, [.int 0, .ref q1, .ref q2, .null, .null, .null, .null, .null])), (q1, .inl (G.2.1 0, 40, .inl (fun _ => 0))), (q2, .inl (G.2.1 0, 40, .inl (fun _ => 0)))]) A s.heap H locs := Z
  refine lv_aload_n hx hb dX4_init_20 rfl (lv_at hl 0 rfl) ?_
  refine lv_bipush (v := 40) hx hb dX4_init_21 (by decide) ?_
  refine n_newa (atype := .int) (t := 0) (ty := .int) (N' := 40) (c1 := 3) (s1 := 120) X Z (List.mem_cons_of_mem _ mB4) rfl rfl (fun _ => rfl) (by decide) (by decide) (Nat.le_of_ble_eq_true rfl) rfl rfl ⟨Nat.le_of_ble_eq_true rfl, Nat.le_of_ble_eq_true rfl⟩ dX4_init_23 (fun q3 H Z => ?_)
  have Z : LSt G ([(h0, .inr (4, [.int 0, .ref q1, .ref q2, .null, .null, .null, .null, .null])), (q1, .inl (G.2.1 0, 40, .inl (fun _ => 0))), (q2, .inl (G.2.1 0, 40, .inl (fun _ => 0))), (q3, .inl (G.2.1 0, 40, .inl (fun _ => 0)))]) A s.heap H locs := Z
  refine n_putF (j := 3) (q0 := 0) (ty := tyX4 3) (v := .ref q3) X hin Z (iB4 _) tyX4_ok nmX4 rfl rfl (by decide) rfl (List.mem_cons_of_mem _ mB12) rfl rfl (by decide +kernel) rfl rfl (Nat.le_of_ble_eq_true rfl) dX4_init_25 (fun H locs Z => ?_)
  have Z : LSt G ([(h0, .inr (4, [.int 0, .ref q1, .ref q2, .ref q3, .null, .null, .null, .null])), (q1, .inl (G.2.1 0, 40, .inl (fun _ => 0))), (q2, .inl (G.2.1 0, 40, .inl (fun _ => 0))), (q3, .inl (G.2.1 0, 40, .inl (fun _ => 0)))]) A s.heap H locs := Z
  refine lv_aload_n hx hb dX4_init_28 rfl (lv_at hl 0 rfl) ?_
  refine lv_bipush (v := 40) hx hb dX4_init_29 (by decide) ?_
  refine n_newa (atype := .int) (t := 0) (ty := .int) (N' := 40) (c1 := 4) (s1 := 160) X Z (List.mem_cons_of_mem _ mB4) rfl rfl (fun _ => rfl) (by decide) (by decide) (Nat.le_of_ble_eq_true rfl) rfl rfl ⟨Nat.le_of_ble_eq_true rfl, Nat.le_of_ble_eq_true rfl⟩ dX4_init_31 (fun q4 H Z => ?_)
  have Z : LSt G ([(h0, .inr (4, [.int 0, .ref q1, .ref q2, .ref q3, .null, .null, .null, .null])), (q1, .inl (G.2.1 0, 40, .inl (fun _ => 0))), (q2, .inl (G.2.1 0, 40, .inl (fun _ => 0))), (q3, .inl (G.2.1 0, 40, .inl (fun _ => 0))), (q4, .inl (G.2.1 0, 40, .inl (fun _ => 0)))]) A s.heap H locs := Z
  refine n_putF (j := 4) (q0 := 0) (ty := tyX4 4) (v := .ref q4) X hin Z (iB4 _) tyX4_ok nmX4 rfl rfl (by decide) rfl (List.mem_cons_of_mem _ mB13) rfl rfl (by decide +kernel) rfl rfl (Nat.le_of_ble_eq_true rfl) dX4_init_33 (fun H locs Z => ?_)
  have Z : LSt G ([(h0, .inr (4, [.int 0, .ref q1, .ref q2, .ref q3, .ref q4, .null, .null, .null])), (q1, .inl (G.2.1 0, 40, .inl (fun _ => 0))), (q2, .inl (G.2.1 0, 40, .inl (fun _ => 0))), (q3, .inl (G.2.1 0, 40, .inl (fun _ => 0))), (q4, .inl (G.2.1 0, 40, .inl (fun _ => 0)))]) A s.heap H locs := Z
  refine lv_aload_n hx hb dX4_init_36 rfl (lv_at hl 0 rfl) ?_
  refine lv_bipush (v := 40) hx hb dX4_init_37 (by decide) ?_
  refine n_newa (atype := .int) (t := 0) (ty := .int) (N' := 40) (c1 := 5) (s1 := 200) X Z (List.mem_cons_of_mem _ mB4) rfl rfl (fun _ => rfl) (by decide) (by decide) (Nat.le_of_ble_eq_true rfl) rfl rfl ⟨Nat.le_of_ble_eq_true rfl, Nat.le_of_ble_eq_true rfl⟩ dX4_init_39 (fun q5 H Z => ?_)
  have Z : LSt G ([(h0, .inr (4, [.int 0, .ref q1, .ref q2, .ref q3, .ref q4, .null, .null, .null])), (q1, .inl (G.2.1 0, 40, .inl (fun _ => 0))), (q2, .inl (G.2.1 0, 40, .inl (fun _ => 0))), (q3, .inl (G.2.1 0, 40, .inl (fun _ => 0))), (q4, .inl (G.2.1 0, 40, .inl (fun _ => 0))), (q5, .inl (G.2.1 0, 40, .inl (fun _ => 0)))]) A s.heap H locs := Z
  refine n_putF (j := 5) (q0 := 0) (ty := tyX4 5) (v := .ref q5) X hin Z (iB4 _) tyX4_ok nmX4 rfl rfl (by decide) rfl (List.mem_cons_of_mem _ mB14) rfl rfl (by decide +kernel) rfl rfl (Nat.le_of_ble_eq_true rfl) dX4_init_41 (fun H locs Z => ?_)
  have Z : LSt G ([(h0, .inr (4, [.int 0, .ref q1, .ref q2, .ref q3, .ref q4, .ref q5, .null, .null])), (q1, .inl (G.2.1 0, 40, .inl (fun _ => 0))), (q2, .inl (G.2.1 0, 40, .inl (fun _ => 0))), (q3, .inl (G.2.1 0, 40, .inl (fun _ => 0))), (q4, .inl (G.2.1 0, 40, .inl (fun _ => 0))), (q5, .inl (G.2.1 0, 40, .inl (fun _ => 0)))]) A s.heap H locs := Z
  refine lv_aload_n hx hb dX4_init_44 rfl (lv_at hl 0 rfl) ?_
  refine lv_sipush (v := 320) hx hb dX4_init_45 (by decide) ?_
  refine n_newa (atype := .int) (t := 0) (ty := .int) (N' := 320) (c1 := 6) (s1 := 520) X Z (List.mem_cons_of_mem _ mB4) rfl rfl (fun _ => rfl) (by decide) (by decide) (Nat.le_of_ble_eq_true rfl) rfl rfl ⟨Nat.le_of_ble_eq_true rfl, Nat.le_of_ble_eq_true rfl⟩ dX4_init_48 (fun q6 H Z => ?_)
  have Z : LSt G ([(h0, .inr (4, [.int 0, .ref q1, .ref q2, .ref q3, .ref q4, .ref q5, .null, .null])), (q1, .inl (G.2.1 0, 40, .inl (fun _ => 0))), (q2, .inl (G.2.1 0, 40, .inl (fun _ => 0))), (q3, .inl (G.2.1 0, 40, .inl (fun _ => 0))), (q4, .inl (G.2.1 0, 40, .inl (fun _ => 0))), (q5, .inl (G.2.1 0, 40, .inl (fun _ => 0))), (q6, .inl (G.2.1 0, 320, .inl (fun _ => 0)))]) A s.heap H locs := Z
  refine n_putF (j := 6) (q0 := 0) (ty := tyX4 6) (v := .ref q6) X hin Z (iB4 _) tyX4_ok nmX4 rfl rfl (by decide) rfl (List.mem_cons_of_mem _ mB15) rfl rfl (by decide +kernel) rfl rfl (Nat.le_of_ble_eq_true rfl) dX4_init_50 (fun H locs Z => ?_)
  have Z : LSt G ([(h0, .inr (4, [.int 0, .ref q1, .ref q2, .ref q3, .ref q4, .ref q5, .ref q6, .null])), (q1, .inl (G.2.1 0, 40, .inl (fun _ => 0))), (q2, .inl (G.2.1 0, 40, .inl (fun _ => 0))), (q3, .inl (G.2.1 0, 40, .inl (fun _ => 0))), (q4, .inl (G.2.1 0, 40, .inl (fun _ => 0))), (q5, .inl (G.2.1 0, 40, .inl (fun _ => 0))), (q6, .inl (G.2.1 0, 320, .inl (fun _ => 0)))]) A s.heap H locs := Z
  refine lv_aload_n hx hb dX4_init_53 rfl (lv_at hl 0 rfl) ?_
  refine lv_sipush (v := 320) hx hb dX4_init_54 (by decide) ?_
  refine n_newa (atype := .int) (t := 0) (ty := .int) (N' := 320) (c1 := 7) (s1 := 840) X Z (List.mem_cons_of_mem _ mB4) rfl rfl (fun _ => rfl) (by decide) (by decide) (Nat.le_of_ble_eq_true rfl) rfl rfl ⟨Nat.le_of_ble_eq_true rfl, Nat.le_of_ble_eq_true rfl⟩ dX4_init_57 (fun q7 H Z => ?_)
  have Z : LSt G ([(h0, .inr (4, [.int 0, .ref q1, .ref q2, .ref q3, .ref q4, .ref q5, .ref q6, .null])), (q1, .inl (G.2.1 0, 40, .inl (fun _ => 0))), (q2, .inl (G.2.1 0, 40, .inl (fun _ => 0))), (q3, .inl (G.2.1 0, 40, .inl (fun _ => 0))), (q4, .inl (G.2.1 0, 40, .inl (fun _ => 0))), (q5, .inl (G.2.1 0, 40, .inl (fun _ => 0))), (q6, .inl (G.2.1 0, 320, .inl (fun _ => 0))), (q7, .inl (G.2.1 0, 320, .inl (fun _ => 0)))]) A s.heap H locs := Z
  refine n_putF (j := 7) (q0 := 0) (ty := tyX4 7) (v := .ref q7) X hin Z (iB4 _) tyX4_ok nmX4 rfl rfl (by decide) rfl (List.mem_cons_of_mem _ mB16) rfl rfl (by decide +kernel) rfl rfl (Nat.le_of_ble_eq_true rfl) dX4_init_59 (fun H locs Z => ?_)
  have Z : LSt G ([(h0, .inr (4, [.int 0, .ref q1, .ref q2, .ref q3, .ref q4, .ref q5, .ref q6, .ref q7])), (q1, .inl (G.2.1 0, 40, .inl (fun _ => 0))), (q2, .inl (G.2.1 0, 40, .inl (fun _ => 0))), (q3, .inl (G.2.1 0, 40, .inl (fun _ => 0))), (q4, .inl (G.2.1 0, 40, .inl (fun _ => 0))), (q5, .inl (G.2.1 0, 40, .inl (fun _ => 0))), (q6, .inl (G.2.1 0, 320, .inl (fun _ => 0))), (q7, .inl (G.2.1 0, 320, .inl (fun _ => 0)))]) A s.heap H locs := Z
  exact kI _ _ _ _ _ dX4_init_62 ⟨q1, q2, q3, q4, q5, q6, q7, rfl⟩ Z
abbrev wmX3_init : List Cond := Cond.code yX3_init cX3_init 1 none :: wA0
set_option maxHeartbeats 8000000 in
set_option maxRecDepth 100000 in
theorem cX3_init_c (l : Launch) (h0 : Nat) : cN l yX3_init wmX3_init 1 12 2 83 G [.ref h0] [(h0, .inr (3, [.int 0, .int 0, .null, .int 0, .null]))] (fun w => ∃ v0 v1 : Nat, w = [(h0, .inr (3, [.int 0, .int 0, .ref v0, .int 0, .ref v1])), (v0, .inl (G.2.1 0, 3, .inl (fun _ => 0))), (v1, .inl (G.2.1 2, 80, .inl (fun _ => 0)))]) := by
  refine mk_cN (by decide +kernel) rfl rfl (Nat.le_of_ble_eq_true rfl) (fun p e s m args below meth c A Q ls X hin kI hl Z => ?_)
  have hx := X.1
  have hb := X.2.1
  obtain ⟨H, hH⟩ : ∃ z, z = s.heap := ⟨_, rfl⟩
  obtain ⟨locs, hlocs⟩ : ∃ z : List Loc, z = [] := ⟨_, rfl⟩
  rw [← hlocs]
  have Z : LSt G [(h0, .inr (3, [.int 0, .int 0, .null, .int 0, .null]))] A s.heap s.heap locs := by rw [hlocs]; exact Z
  refine lv_aload_n hx hb dX3_init_0 rfl (lv_at hl 0 rfl) ?_
  refine n_obj X (List.mem_cons_of_mem _ mB239) (List.mem_cons_of_mem _ mB2) (List.mem_cons_of_mem _ mB3) hl.1 ⟨Nat.le_of_ble_eq_true rfl, Nat.le_of_ble_eq_true rfl⟩ dX3_init_1 ?_
  refine lv_aload_n hx hb dX3_init_4 rfl (lv_at hl 0 rfl) ?_
  refine lv_iconst (v := 3) hx hb dX3_init_5 (by decide) ?_
  refine n_newa (atype := .int) (t := 0) (ty := .int) (N' := 3) (c1 := 1) (s1 := 3) X Z (List.mem_cons_of_mem _ mB4) rfl rfl (fun _ => rfl) (by decide) (by decide) (Nat.le_of_ble_eq_true rfl) rfl rfl ⟨Nat.le_of_ble_eq_true rfl, Nat.le_of_ble_eq_true rfl⟩ dX3_init_6 (fun q1 H Z => ?_)
  have Z : LSt G ([(h0, .inr (3, [.int 0, .int 0, .null, .int 0, .null])), (q1, .inl (G.2.1 0, 3, .inl (fun _ => 0)))]) A s.heap H locs := Z
  refine n_putF (j := 2) (q0 := 0) (ty := tyX3 2) (v := .ref q1) X hin Z (iB3 _) tyX3_ok nmX3 rfl rfl (by decide) rfl (List.mem_cons_of_mem _ mB240) rfl rfl (by decide +kernel) rfl rfl (Nat.le_of_ble_eq_true rfl) dX3_init_8 (fun H locs Z => ?_)
  have Z : LSt G ([(h0, .inr (3, [.int 0, .int 0, .ref q1, .int 0, .null])), (q1, .inl (G.2.1 0, 3, .inl (fun _ => 0)))]) A s.heap H locs := Z
  refine lv_aload_n hx hb dX3_init_11 rfl (lv_at hl 0 rfl) ?_
  refine lv_bipush (v := 80) hx hb dX3_init_12 (by decide) ?_
  refine n_newa (atype := .char) (t := 2) (ty := .char) (N' := 80) (c1 := 2) (s1 := 83) X Z (List.mem_cons_of_mem _ mB241) rfl rfl (fun _ => rfl) (by decide) (by decide) (Nat.le_of_ble_eq_true rfl) rfl rfl ⟨Nat.le_of_ble_eq_true rfl, Nat.le_of_ble_eq_true rfl⟩ dX3_init_14 (fun q2 H Z => ?_)
  have Z : LSt G ([(h0, .inr (3, [.int 0, .int 0, .ref q1, .int 0, .null])), (q1, .inl (G.2.1 0, 3, .inl (fun _ => 0))), (q2, .inl (G.2.1 2, 80, .inl (fun _ => 0)))]) A s.heap H locs := Z
  refine n_putF (j := 4) (q0 := 0) (ty := tyX3 4) (v := .ref q2) X hin Z (iB3 _) tyX3_ok nmX3 rfl rfl (by decide) rfl (List.mem_cons_of_mem _ mB242) rfl rfl (by decide +kernel) rfl rfl (Nat.le_of_ble_eq_true rfl) dX3_init_16 (fun H locs Z => ?_)
  have Z : LSt G ([(h0, .inr (3, [.int 0, .int 0, .ref q1, .int 0, .ref q2])), (q1, .inl (G.2.1 0, 3, .inl (fun _ => 0))), (q2, .inl (G.2.1 2, 80, .inl (fun _ => 0)))]) A s.heap H locs := Z
  exact kI _ _ _ _ _ dX3_init_19 ⟨q1, q2, rfl⟩ Z
abbrev wmX2_init : List Cond := Cond.code yX2_init cX2_init 2 none :: wA0
set_option maxHeartbeats 8000000 in
set_option maxRecDepth 100000 in
theorem cX2_init_c (l : Launch) (h0 : Nat) : cN l yX2_init wmX2_init 2 33 16 1539 G [.ref h0] [(h0, .inr (2, [.int 0, .int 0, .int 0, .null, .null, .null]))] (fun w => ∃ ad : Nat → Nat, ad 0 = h0 ∧ w = stL G ad) := by
  refine mk_cN (by decide +kernel) rfl rfl (Nat.le_of_ble_eq_true rfl) (fun p e s m args below meth c A Q ls X hin kI hl Z => ?_)
  have hx := X.1
  have hb := X.2.1
  obtain ⟨H, hH⟩ : ∃ z, z = s.heap := ⟨_, rfl⟩
  obtain ⟨locs, hlocs⟩ : ∃ z : List Loc, z = [] := ⟨_, rfl⟩
  rw [← hlocs]
  have Z : LSt G [(h0, .inr (2, [.int 0, .int 0, .int 0, .null, .null, .null]))] A s.heap s.heap locs := by rw [hlocs]; exact Z
  refine lv_aload_n hx hb dX2_init_0 rfl (lv_at hl 0 rfl) ?_
  refine n_obj X (List.mem_cons_of_mem _ mB21) (List.mem_cons_of_mem _ mB2) (List.mem_cons_of_mem _ mB3) hl.1 ⟨Nat.le_of_ble_eq_true rfl, Nat.le_of_ble_eq_true rfl⟩ dX2_init_1 ?_
  refine lv_aload_n hx hb dX2_init_4 rfl (lv_at hl 0 rfl) ?_
  refine lv_iconst (v := 3) hx hb dX2_init_5 (by decide) ?_
  refine n_newq (C := RX1) (t := 3) (N' := 3) (c1 := 1) (s1 := 3) X Z (List.mem_cons_of_mem _ mB22) X.2.2.2.2.2.2.2.2.2.2.1 rfl (by decide) (by decide) (Nat.le_of_ble_eq_true rfl) rfl rfl ⟨Nat.le_of_ble_eq_true rfl, Nat.le_of_ble_eq_true rfl⟩ dX2_init_6 (fun q1 H Z => ?_)
  have Z : LSt G ([(h0, .inr (2, [.int 0, .int 0, .int 0, .null, .null, .null])), (q1, .inl (G.2.1 3, 3, .inr (.inr (.inr (.inr (fun _ => none))))))]) A s.heap H locs := Z
  refine n_putF (j := 3) (q0 := 0) (ty := tyX2 3) (v := .ref q1) X hin Z (iB2 _) tyX2_ok nmX2 rfl rfl (by decide) rfl (List.mem_cons_of_mem _ mB23) rfl rfl (by decide +kernel) rfl rfl (Nat.le_of_ble_eq_true rfl) dX2_init_9 (fun H locs Z => ?_)
  have Z : LSt G ([(h0, .inr (2, [.int 0, .int 0, .int 0, .ref q1, .null, .null])), (q1, .inl (G.2.1 3, 3, .inr (.inr (.inr (.inr (fun _ => none))))))]) A s.heap H locs := Z
  refine lv_aload_n hx hb dX2_init_12 rfl (lv_at hl 0 rfl) ?_
  refine n_new (ci := 5) (fs := [.null, .null, .null]) (c1 := 2) (s1 := 6) X Z (iB5 _) tyX5 tyX5_ok (List.mem_cons_of_mem _ mB24) (List.mem_cons_of_mem _ mB25) (List.mem_cons_of_mem _ mB26) rfl (fun j hj => by rcases (show j = 0 ∨ j = 1 ∨ j = 2 by omega) with rfl | rfl | rfl <;> rfl) rfl rfl ⟨Nat.le_of_ble_eq_true rfl, Nat.le_of_ble_eq_true rfl⟩ dX2_init_13 (fun q2 H Z => ?_)
  refine lv_dup hx hb dX2_init_16 rfl ?_
  refine n_ctorI (b := [(h0, .inr (2, [.int 0, .int 0, .int 0, .ref q1, .null, .null])), (q1, .inl (G.2.1 3, 3, .inr (.inr (.inr (.inr (fun _ => none))))))]) (wc := [(q2, .inr (5, [.null, .null, .null]))]) (rest := [.ref q2, .ref h0]) (c1 := 5) (s1 := 670) X Z (cX5_init_c l q2) (goo0 mB0) rfl (List.mem_cons_of_mem _ mB26) (List.mem_cons_of_mem _ mB34) (List.mem_cons_of_mem _ mB35) rfl (by decide +kernel) ⟨Nat.le_of_ble_eq_true rfl, Nat.le_of_ble_eq_true rfl⟩ rfl rfl ⟨Nat.le_of_ble_eq_true rfl, Nat.le_of_ble_eq_true rfl⟩ hl.1 (Nat.le_of_ble_eq_true rfl) dX2_init_17 (fun w3 hw4 H locs Z => ?_)
  obtain ⟨v5, v6, v7, rfl⟩ := hw4
  have Z : LSt G ([(h0, .inr (2, [.int 0, .int 0, .int 0, .ref q1, .null, .null])), (q1, .inl (G.2.1 3, 3, .inr (.inr (.inr (.inr (fun _ => none)))))), (q2, .inr (5, [.ref v5, .ref v6, .ref v7])), (v5, .inl (G.2.1 0, 8, .inl (upd (upd (upd (upd (upd (upd (upd (upd (fun _ => 0) (0 : Int32).toNatClampNeg 1) (1 : Int32).toNatClampNeg 1) (2 : Int32).toNatClampNeg 1) (3 : Int32).toNatClampNeg 1) (4 : Int32).toNatClampNeg 1) (5 : Int32).toNatClampNeg 1) (6 : Int32).toNatClampNeg 1) (7 : Int32).toNatClampNeg 1))), (v6, .inl (G.2.1 0, 328, .inl (fun _ => 0))), (v7, .inl (G.2.1 0, 328, .inl (fun _ => 0)))]) A s.heap H locs := Z
  refine n_putF (j := 4) (q0 := 0) (ty := tyX2 4) (v := .ref q2) X hin Z (iB2 _) tyX2_ok nmX2 rfl rfl (by decide) rfl (List.mem_cons_of_mem _ mB27) rfl rfl (by decide +kernel) rfl rfl (Nat.le_of_ble_eq_true rfl) dX2_init_20 (fun H locs Z => ?_)
  have Z : LSt G ([(h0, .inr (2, [.int 0, .int 0, .int 0, .ref q1, .ref q2, .null])), (q1, .inl (G.2.1 3, 3, .inr (.inr (.inr (.inr (fun _ => none)))))), (q2, .inr (5, [.ref v5, .ref v6, .ref v7])), (v5, .inl (G.2.1 0, 8, .inl (upd (upd (upd (upd (upd (upd (upd (upd (fun _ => 0) (0 : Int32).toNatClampNeg 1) (1 : Int32).toNatClampNeg 1) (2 : Int32).toNatClampNeg 1) (3 : Int32).toNatClampNeg 1) (4 : Int32).toNatClampNeg 1) (5 : Int32).toNatClampNeg 1) (6 : Int32).toNatClampNeg 1) (7 : Int32).toNatClampNeg 1))), (v6, .inl (G.2.1 0, 328, .inl (fun _ => 0))), (v7, .inl (G.2.1 0, 328, .inl (fun _ => 0)))]) A s.heap H locs := Z
  refine lv_aload_n hx hb dX2_init_23 rfl (lv_at hl 0 rfl) ?_
  refine n_new (ci := 4) (fs := [.int 0, .null, .null, .null, .null, .null, .null, .null]) (c1 := 6) (s1 := 678) X Z (iB4 _) tyX4 tyX4_ok (List.mem_cons_of_mem _ mB28) (List.mem_cons_of_mem _ mB29) (List.mem_cons_of_mem _ mB30) rfl (fun j hj => by rcases (show j = 0 ∨ j = 1 ∨ j = 2 ∨ j = 3 ∨ j = 4 ∨ j = 5 ∨ j = 6 ∨ j = 7 by omega) with rfl | rfl | rfl | rfl | rfl | rfl | rfl | rfl <;> rfl) rfl rfl ⟨Nat.le_of_ble_eq_true rfl, Nat.le_of_ble_eq_true rfl⟩ dX2_init_24 (fun q8 H Z => ?_)
  refine lv_dup hx hb dX2_init_27 rfl ?_
  refine n_ctorN (b := [(h0, .inr (2, [.int 0, .int 0, .int 0, .ref q1, .ref q2, .null])), (q1, .inl (G.2.1 3, 3, .inr (.inr (.inr (.inr (fun _ => none)))))), (q2, .inr (5, [.ref v5, .ref v6, .ref v7])), (v5, .inl (G.2.1 0, 8, .inl (upd (upd (upd (upd (upd (upd (upd (upd (fun _ => 0) (0 : Int32).toNatClampNeg 1) (1 : Int32).toNatClampNeg 1) (2 : Int32).toNatClampNeg 1) (3 : Int32).toNatClampNeg 1) (4 : Int32).toNatClampNeg 1) (5 : Int32).toNatClampNeg 1) (6 : Int32).toNatClampNeg 1) (7 : Int32).toNatClampNeg 1))), (v6, .inl (G.2.1 0, 328, .inl (fun _ => 0))), (v7, .inl (G.2.1 0, 328, .inl (fun _ => 0)))]) (wc := [(q8, .inr (4, [.int 0, .null, .null, .null, .null, .null, .null, .null]))]) (rest := [.ref q8, .ref h0]) (c1 := 13) (s1 := 1518) X Z (cX4_init_c l q8) (goo0 mB8) rfl (List.mem_cons_of_mem _ mB30) X.2.2.2.2.2.2.2.1 (List.mem_cons_of_mem _ mB36) rfl (by decide +kernel) ⟨Nat.le_of_ble_eq_true rfl, Nat.le_of_ble_eq_true rfl⟩ rfl rfl ⟨Nat.le_of_ble_eq_true rfl, Nat.le_of_ble_eq_true rfl⟩ hl.1 (Nat.le_of_ble_eq_true rfl) dX2_init_28 (fun w9 hw10 H locs Z => ?_)
  obtain ⟨v11, v12, v13, v14, v15, v16, v17, rfl⟩ := hw10
  have Z : LSt G ([(h0, .inr (2, [.int 0, .int 0, .int 0, .ref q1, .ref q2, .null])), (q1, .inl (G.2.1 3, 3, .inr (.inr (.inr (.inr (fun _ => none)))))), (q2, .inr (5, [.ref v5, .ref v6, .ref v7])), (v5, .inl (G.2.1 0, 8, .inl (upd (upd (upd (upd (upd (upd (upd (upd (fun _ => 0) (0 : Int32).toNatClampNeg 1) (1 : Int32).toNatClampNeg 1) (2 : Int32).toNatClampNeg 1) (3 : Int32).toNatClampNeg 1) (4 : Int32).toNatClampNeg 1) (5 : Int32).toNatClampNeg 1) (6 : Int32).toNatClampNeg 1) (7 : Int32).toNatClampNeg 1))), (v6, .inl (G.2.1 0, 328, .inl (fun _ => 0))), (v7, .inl (G.2.1 0, 328, .inl (fun _ => 0))), (q8, .inr (4, [.int 0, .ref v11, .ref v12, .ref v13, .ref v14, .ref v15, .ref v16, .ref v17])), (v11, .inl (G.2.1 0, 40, .inl (fun _ => 0))), (v12, .inl (G.2.1 0, 40, .inl (fun _ => 0))), (v13, .inl (G.2.1 0, 40, .inl (fun _ => 0))), (v14, .inl (G.2.1 0, 40, .inl (fun _ => 0))), (v15, .inl (G.2.1 0, 40, .inl (fun _ => 0))), (v16, .inl (G.2.1 0, 320, .inl (fun _ => 0))), (v17, .inl (G.2.1 0, 320, .inl (fun _ => 0)))]) A s.heap H locs := Z
  refine n_putF (j := 5) (q0 := 0) (ty := tyX2 5) (v := .ref q8) X hin Z (iB2 _) tyX2_ok nmX2 rfl rfl (by decide) rfl (List.mem_cons_of_mem _ mB31) rfl rfl (by decide +kernel) rfl rfl (Nat.le_of_ble_eq_true rfl) dX2_init_31 (fun H locs Z => ?_)
  have Z : LSt G ([(h0, .inr (2, [.int 0, .int 0, .int 0, .ref q1, .ref q2, .ref q8])), (q1, .inl (G.2.1 3, 3, .inr (.inr (.inr (.inr (fun _ => none)))))), (q2, .inr (5, [.ref v5, .ref v6, .ref v7])), (v5, .inl (G.2.1 0, 8, .inl (upd (upd (upd (upd (upd (upd (upd (upd (fun _ => 0) (0 : Int32).toNatClampNeg 1) (1 : Int32).toNatClampNeg 1) (2 : Int32).toNatClampNeg 1) (3 : Int32).toNatClampNeg 1) (4 : Int32).toNatClampNeg 1) (5 : Int32).toNatClampNeg 1) (6 : Int32).toNatClampNeg 1) (7 : Int32).toNatClampNeg 1))), (v6, .inl (G.2.1 0, 328, .inl (fun _ => 0))), (v7, .inl (G.2.1 0, 328, .inl (fun _ => 0))), (q8, .inr (4, [.int 0, .ref v11, .ref v12, .ref v13, .ref v14, .ref v15, .ref v16, .ref v17])), (v11, .inl (G.2.1 0, 40, .inl (fun _ => 0))), (v12, .inl (G.2.1 0, 40, .inl (fun _ => 0))), (v13, .inl (G.2.1 0, 40, .inl (fun _ => 0))), (v14, .inl (G.2.1 0, 40, .inl (fun _ => 0))), (v15, .inl (G.2.1 0, 40, .inl (fun _ => 0))), (v16, .inl (G.2.1 0, 320, .inl (fun _ => 0))), (v17, .inl (G.2.1 0, 320, .inl (fun _ => 0)))]) A s.heap H locs := Z
  refine lv_iconst (v := 0) hx hb dX2_init_34 (by decide) ?_
  refine lv_istore_n (lv' := [(1, .int 0), (0, .ref h0)]) hx hb dX2_init_35 rfl hl (by decide) rfl (fun ls hl => ?_)
  refine lv_iload_n hx hb dX2_init_36 rfl (lv_at hl 0 rfl) ?_
  refine lv_iconst (v := 3) hx hb dX2_init_37 (by decide) ?_
  refine lv_icmp_ge (tgt := 60) hx hb dX2_init_38 (by decide) (fun c18 => ?_) (fun c18 => ?_)
  · first | exact absurd c18 (by decide) | exact absurd (by decide) c18
  refine lv_aload_n hx hb dX2_init_41 rfl (lv_at hl 1 rfl) ?_
  refine n_get (j := 3) (q0 := 0) (v := .ref q1) X Z (iB2 _) rfl rfl (by decide) rfl (List.mem_cons_of_mem _ mB23) rfl dX2_init_42 ?_
  refine lv_iload_n hx hb dX2_init_45 rfl (lv_at hl 0 rfl) ?_
  refine n_new (ci := 1) (fs := [.int 0, .int 0, .int 0, .int 0, .int 0, .int 0, .int 0]) (c1 := 14) (s1 := 1525) X Z (iB1 _) tyX1 tyX1_ok (List.mem_cons_of_mem _ mB22) (List.mem_cons_of_mem _ mB32) (List.mem_cons_of_mem _ mB33) rfl (fun j hj => by rcases (show j = 0 ∨ j = 1 ∨ j = 2 ∨ j = 3 ∨ j = 4 ∨ j = 5 ∨ j = 6 by omega) with rfl | rfl | rfl | rfl | rfl | rfl | rfl <;> rfl) rfl rfl ⟨Nat.le_of_ble_eq_true rfl, Nat.le_of_ble_eq_true rfl⟩ dX2_init_46 (fun q19 H Z => ?_)
  refine lv_dup hx hb dX2_init_49 rfl ?_
  refine n_ctorN (b := [(h0, .inr (2, [.int 0, .int 0, .int 0, .ref q1, .ref q2, .ref q8])), (q1, .inl (G.2.1 3, 3, .inr (.inr (.inr (.inr (fun _ => none)))))), (q2, .inr (5, [.ref v5, .ref v6, .ref v7])), (v5, .inl (G.2.1 0, 8, .inl (upd (upd (upd (upd (upd (upd (upd (upd (fun _ => 0) (0 : Int32).toNatClampNeg 1) (1 : Int32).toNatClampNeg 1) (2 : Int32).toNatClampNeg 1) (3 : Int32).toNatClampNeg 1) (4 : Int32).toNatClampNeg 1) (5 : Int32).toNatClampNeg 1) (6 : Int32).toNatClampNeg 1) (7 : Int32).toNatClampNeg 1))), (v6, .inl (G.2.1 0, 328, .inl (fun _ => 0))), (v7, .inl (G.2.1 0, 328, .inl (fun _ => 0))), (q8, .inr (4, [.int 0, .ref v11, .ref v12, .ref v13, .ref v14, .ref v15, .ref v16, .ref v17])), (v11, .inl (G.2.1 0, 40, .inl (fun _ => 0))), (v12, .inl (G.2.1 0, 40, .inl (fun _ => 0))), (v13, .inl (G.2.1 0, 40, .inl (fun _ => 0))), (v14, .inl (G.2.1 0, 40, .inl (fun _ => 0))), (v15, .inl (G.2.1 0, 40, .inl (fun _ => 0))), (v16, .inl (G.2.1 0, 320, .inl (fun _ => 0))), (v17, .inl (G.2.1 0, 320, .inl (fun _ => 0)))]) (wc := [(q19, .inr (1, [.int 0, .int 0, .int 0, .int 0, .int 0, .int 0, .int 0]))]) (rest := [.ref q19, .int 0, .ref q1]) (c1 := 14) (s1 := 1525) X Z (cX1_init_c l q19) (goo0 mB17) rfl (List.mem_cons_of_mem _ mB33) X.2.2.2.2.2.2.2.2.1 (List.mem_cons_of_mem _ mB37) rfl (by decide +kernel) ⟨Nat.le_of_ble_eq_true rfl, Nat.le_of_ble_eq_true rfl⟩ rfl rfl ⟨Nat.le_of_ble_eq_true rfl, Nat.le_of_ble_eq_true rfl⟩ hl.1 (Nat.le_of_ble_eq_true rfl) dX2_init_50 (fun w20 hw21 H locs Z => ?_)
  subst hw21
  have Z : LSt G ([(h0, .inr (2, [.int 0, .int 0, .int 0, .ref q1, .ref q2, .ref q8])), (q1, .inl (G.2.1 3, 3, .inr (.inr (.inr (.inr (fun _ => none)))))), (q2, .inr (5, [.ref v5, .ref v6, .ref v7])), (v5, .inl (G.2.1 0, 8, .inl (upd (upd (upd (upd (upd (upd (upd (upd (fun _ => 0) (0 : Int32).toNatClampNeg 1) (1 : Int32).toNatClampNeg 1) (2 : Int32).toNatClampNeg 1) (3 : Int32).toNatClampNeg 1) (4 : Int32).toNatClampNeg 1) (5 : Int32).toNatClampNeg 1) (6 : Int32).toNatClampNeg 1) (7 : Int32).toNatClampNeg 1))), (v6, .inl (G.2.1 0, 328, .inl (fun _ => 0))), (v7, .inl (G.2.1 0, 328, .inl (fun _ => 0))), (q8, .inr (4, [.int 0, .ref v11, .ref v12, .ref v13, .ref v14, .ref v15, .ref v16, .ref v17])), (v11, .inl (G.2.1 0, 40, .inl (fun _ => 0))), (v12, .inl (G.2.1 0, 40, .inl (fun _ => 0))), (v13, .inl (G.2.1 0, 40, .inl (fun _ => 0))), (v14, .inl (G.2.1 0, 40, .inl (fun _ => 0))), (v15, .inl (G.2.1 0, 40, .inl (fun _ => 0))), (v16, .inl (G.2.1 0, 320, .inl (fun _ => 0))), (v17, .inl (G.2.1 0, 320, .inl (fun _ => 0))), (q19, .inr (1, [.int 0, .int 0, .int 0, .int 5, .int 2, .int 0, .int 0]))]) A s.heap H locs := Z
  refine n_astq (q0 := 1) (qk := 14) (ci := 1) (v := q19) X Z rfl rfl rfl rfl (by unfold vp_in; decide) dX2_init_53 (fun H locs Z => ?_)
  have Z : LSt G ([(h0, .inr (2, [.int 0, .int 0, .int 0, .ref q1, .ref q2, .ref q8])), (q1, .inl (G.2.1 3, 3, .inr (.inr (.inr (.inr (va_up (fun _ => none) (0 : Int32).toNatClampNeg (some q19))))))), (q2, .inr (5, [.ref v5, .ref v6, .ref v7])), (v5, .inl (G.2.1 0, 8, .inl (upd (upd (upd (upd (upd (upd (upd (upd (fun _ => 0) (0 : Int32).toNatClampNeg 1) (1 : Int32).toNatClampNeg 1) (2 : Int32).toNatClampNeg 1) (3 : Int32).toNatClampNeg 1) (4 : Int32).toNatClampNeg 1) (5 : Int32).toNatClampNeg 1) (6 : Int32).toNatClampNeg 1) (7 : Int32).toNatClampNeg 1))), (v6, .inl (G.2.1 0, 328, .inl (fun _ => 0))), (v7, .inl (G.2.1 0, 328, .inl (fun _ => 0))), (q8, .inr (4, [.int 0, .ref v11, .ref v12, .ref v13, .ref v14, .ref v15, .ref v16, .ref v17])), (v11, .inl (G.2.1 0, 40, .inl (fun _ => 0))), (v12, .inl (G.2.1 0, 40, .inl (fun _ => 0))), (v13, .inl (G.2.1 0, 40, .inl (fun _ => 0))), (v14, .inl (G.2.1 0, 40, .inl (fun _ => 0))), (v15, .inl (G.2.1 0, 40, .inl (fun _ => 0))), (v16, .inl (G.2.1 0, 320, .inl (fun _ => 0))), (v17, .inl (G.2.1 0, 320, .inl (fun _ => 0))), (q19, .inr (1, [.int 0, .int 0, .int 0, .int 5, .int 2, .int 0, .int 0]))]) A s.heap H locs := Z
  refine lv_iinc (v := 1) (lv' := [(1, .int 1), (0, .ref h0)]) hx hb dX2_init_54 hl (k := 0) rfl (by decide) (by decide) rfl (fun ls hl => ?_)
  refine lv_goto (tgt := 36) hx hb dX2_init_57 (by decide) ?_
  refine lv_iload_n hx hb dX2_init_36 rfl (lv_at hl 0 rfl) ?_
  refine lv_iconst (v := 3) hx hb dX2_init_37 (by decide) ?_
  refine lv_icmp_ge (tgt := 60) hx hb dX2_init_38 (by decide) (fun c22 => ?_) (fun c22 => ?_)
  · first | exact absurd c22 (by decide) | exact absurd (by decide) c22
  refine lv_aload_n hx hb dX2_init_41 rfl (lv_at hl 1 rfl) ?_
  refine n_get (j := 3) (q0 := 0) (v := .ref q1) X Z (iB2 _) rfl rfl (by decide) rfl (List.mem_cons_of_mem _ mB23) rfl dX2_init_42 ?_
  refine lv_iload_n hx hb dX2_init_45 rfl (lv_at hl 0 rfl) ?_
  refine n_new (ci := 1) (fs := [.int 0, .int 0, .int 0, .int 0, .int 0, .int 0, .int 0]) (c1 := 15) (s1 := 1532) X Z (iB1 _) tyX1 tyX1_ok (List.mem_cons_of_mem _ mB22) (List.mem_cons_of_mem _ mB32) (List.mem_cons_of_mem _ mB33) rfl (fun j hj => by rcases (show j = 0 ∨ j = 1 ∨ j = 2 ∨ j = 3 ∨ j = 4 ∨ j = 5 ∨ j = 6 by omega) with rfl | rfl | rfl | rfl | rfl | rfl | rfl <;> rfl) rfl rfl ⟨Nat.le_of_ble_eq_true rfl, Nat.le_of_ble_eq_true rfl⟩ dX2_init_46 (fun q23 H Z => ?_)
  refine lv_dup hx hb dX2_init_49 rfl ?_
  refine n_ctorN (b := [(h0, .inr (2, [.int 0, .int 0, .int 0, .ref q1, .ref q2, .ref q8])), (q1, .inl (G.2.1 3, 3, .inr (.inr (.inr (.inr (va_up (fun _ => none) (0 : Int32).toNatClampNeg (some q19))))))), (q2, .inr (5, [.ref v5, .ref v6, .ref v7])), (v5, .inl (G.2.1 0, 8, .inl (upd (upd (upd (upd (upd (upd (upd (upd (fun _ => 0) (0 : Int32).toNatClampNeg 1) (1 : Int32).toNatClampNeg 1) (2 : Int32).toNatClampNeg 1) (3 : Int32).toNatClampNeg 1) (4 : Int32).toNatClampNeg 1) (5 : Int32).toNatClampNeg 1) (6 : Int32).toNatClampNeg 1) (7 : Int32).toNatClampNeg 1))), (v6, .inl (G.2.1 0, 328, .inl (fun _ => 0))), (v7, .inl (G.2.1 0, 328, .inl (fun _ => 0))), (q8, .inr (4, [.int 0, .ref v11, .ref v12, .ref v13, .ref v14, .ref v15, .ref v16, .ref v17])), (v11, .inl (G.2.1 0, 40, .inl (fun _ => 0))), (v12, .inl (G.2.1 0, 40, .inl (fun _ => 0))), (v13, .inl (G.2.1 0, 40, .inl (fun _ => 0))), (v14, .inl (G.2.1 0, 40, .inl (fun _ => 0))), (v15, .inl (G.2.1 0, 40, .inl (fun _ => 0))), (v16, .inl (G.2.1 0, 320, .inl (fun _ => 0))), (v17, .inl (G.2.1 0, 320, .inl (fun _ => 0))), (q19, .inr (1, [.int 0, .int 0, .int 0, .int 5, .int 2, .int 0, .int 0]))]) (wc := [(q23, .inr (1, [.int 0, .int 0, .int 0, .int 0, .int 0, .int 0, .int 0]))]) (rest := [.ref q23, .int 1, .ref q1]) (c1 := 15) (s1 := 1532) X Z (cX1_init_c l q23) (goo0 mB17) rfl (List.mem_cons_of_mem _ mB33) X.2.2.2.2.2.2.2.2.1 (List.mem_cons_of_mem _ mB37) rfl (by decide +kernel) ⟨Nat.le_of_ble_eq_true rfl, Nat.le_of_ble_eq_true rfl⟩ rfl rfl ⟨Nat.le_of_ble_eq_true rfl, Nat.le_of_ble_eq_true rfl⟩ hl.1 (Nat.le_of_ble_eq_true rfl) dX2_init_50 (fun w24 hw25 H locs Z => ?_)
  subst hw25
  have Z : LSt G ([(h0, .inr (2, [.int 0, .int 0, .int 0, .ref q1, .ref q2, .ref q8])), (q1, .inl (G.2.1 3, 3, .inr (.inr (.inr (.inr (va_up (fun _ => none) (0 : Int32).toNatClampNeg (some q19))))))), (q2, .inr (5, [.ref v5, .ref v6, .ref v7])), (v5, .inl (G.2.1 0, 8, .inl (upd (upd (upd (upd (upd (upd (upd (upd (fun _ => 0) (0 : Int32).toNatClampNeg 1) (1 : Int32).toNatClampNeg 1) (2 : Int32).toNatClampNeg 1) (3 : Int32).toNatClampNeg 1) (4 : Int32).toNatClampNeg 1) (5 : Int32).toNatClampNeg 1) (6 : Int32).toNatClampNeg 1) (7 : Int32).toNatClampNeg 1))), (v6, .inl (G.2.1 0, 328, .inl (fun _ => 0))), (v7, .inl (G.2.1 0, 328, .inl (fun _ => 0))), (q8, .inr (4, [.int 0, .ref v11, .ref v12, .ref v13, .ref v14, .ref v15, .ref v16, .ref v17])), (v11, .inl (G.2.1 0, 40, .inl (fun _ => 0))), (v12, .inl (G.2.1 0, 40, .inl (fun _ => 0))), (v13, .inl (G.2.1 0, 40, .inl (fun _ => 0))), (v14, .inl (G.2.1 0, 40, .inl (fun _ => 0))), (v15, .inl (G.2.1 0, 40, .inl (fun _ => 0))), (v16, .inl (G.2.1 0, 320, .inl (fun _ => 0))), (v17, .inl (G.2.1 0, 320, .inl (fun _ => 0))), (q19, .inr (1, [.int 0, .int 0, .int 0, .int 5, .int 2, .int 0, .int 0])), (q23, .inr (1, [.int 0, .int 0, .int 0, .int 5, .int 2, .int 0, .int 0]))]) A s.heap H locs := Z
  refine n_astq (q0 := 1) (qk := 15) (ci := 1) (v := q23) X Z rfl rfl rfl rfl (by unfold vp_in; decide) dX2_init_53 (fun H locs Z => ?_)
  have Z : LSt G ([(h0, .inr (2, [.int 0, .int 0, .int 0, .ref q1, .ref q2, .ref q8])), (q1, .inl (G.2.1 3, 3, .inr (.inr (.inr (.inr (va_up (va_up (fun _ => none) (0 : Int32).toNatClampNeg (some q19)) (1 : Int32).toNatClampNeg (some q23))))))), (q2, .inr (5, [.ref v5, .ref v6, .ref v7])), (v5, .inl (G.2.1 0, 8, .inl (upd (upd (upd (upd (upd (upd (upd (upd (fun _ => 0) (0 : Int32).toNatClampNeg 1) (1 : Int32).toNatClampNeg 1) (2 : Int32).toNatClampNeg 1) (3 : Int32).toNatClampNeg 1) (4 : Int32).toNatClampNeg 1) (5 : Int32).toNatClampNeg 1) (6 : Int32).toNatClampNeg 1) (7 : Int32).toNatClampNeg 1))), (v6, .inl (G.2.1 0, 328, .inl (fun _ => 0))), (v7, .inl (G.2.1 0, 328, .inl (fun _ => 0))), (q8, .inr (4, [.int 0, .ref v11, .ref v12, .ref v13, .ref v14, .ref v15, .ref v16, .ref v17])), (v11, .inl (G.2.1 0, 40, .inl (fun _ => 0))), (v12, .inl (G.2.1 0, 40, .inl (fun _ => 0))), (v13, .inl (G.2.1 0, 40, .inl (fun _ => 0))), (v14, .inl (G.2.1 0, 40, .inl (fun _ => 0))), (v15, .inl (G.2.1 0, 40, .inl (fun _ => 0))), (v16, .inl (G.2.1 0, 320, .inl (fun _ => 0))), (v17, .inl (G.2.1 0, 320, .inl (fun _ => 0))), (q19, .inr (1, [.int 0, .int 0, .int 0, .int 5, .int 2, .int 0, .int 0])), (q23, .inr (1, [.int 0, .int 0, .int 0, .int 5, .int 2, .int 0, .int 0]))]) A s.heap H locs := Z
  refine lv_iinc (v := 2) (lv' := [(1, .int 2), (0, .ref h0)]) hx hb dX2_init_54 hl (k := 0) rfl (by decide) (by decide) rfl (fun ls hl => ?_)
  refine lv_goto (tgt := 36) hx hb dX2_init_57 (by decide) ?_
  refine lv_iload_n hx hb dX2_init_36 rfl (lv_at hl 0 rfl) ?_
  refine lv_iconst (v := 3) hx hb dX2_init_37 (by decide) ?_
  refine lv_icmp_ge (tgt := 60) hx hb dX2_init_38 (by decide) (fun c26 => ?_) (fun c26 => ?_)
  · first | exact absurd c26 (by decide) | exact absurd (by decide) c26
  refine lv_aload_n hx hb dX2_init_41 rfl (lv_at hl 1 rfl) ?_
  refine n_get (j := 3) (q0 := 0) (v := .ref q1) X Z (iB2 _) rfl rfl (by decide) rfl (List.mem_cons_of_mem _ mB23) rfl dX2_init_42 ?_
  refine lv_iload_n hx hb dX2_init_45 rfl (lv_at hl 0 rfl) ?_
  refine n_new (ci := 1) (fs := [.int 0, .int 0, .int 0, .int 0, .int 0, .int 0, .int 0]) (c1 := 16) (s1 := 1539) X Z (iB1 _) tyX1 tyX1_ok (List.mem_cons_of_mem _ mB22) (List.mem_cons_of_mem _ mB32) (List.mem_cons_of_mem _ mB33) rfl (fun j hj => by rcases (show j = 0 ∨ j = 1 ∨ j = 2 ∨ j = 3 ∨ j = 4 ∨ j = 5 ∨ j = 6 by omega) with rfl | rfl | rfl | rfl | rfl | rfl | rfl <;> rfl) rfl rfl ⟨Nat.le_of_ble_eq_true rfl, Nat.le_of_ble_eq_true rfl⟩ dX2_init_46 (fun q27 H Z => ?_)
  refine lv_dup hx hb dX2_init_49 rfl ?_
  refine n_ctorN (b := [(h0, .inr (2, [.int 0, .int 0, .int 0, .ref q1, .ref q2, .ref q8])), (q1, .inl (G.2.1 3, 3, .inr (.inr (.inr (.inr (va_up (va_up (fun _ => none) (0 : Int32).toNatClampNeg (some q19)) (1 : Int32).toNatClampNeg (some q23))))))), (q2, .inr (5, [.ref v5, .ref v6, .ref v7])), (v5, .inl (G.2.1 0, 8, .inl (upd (upd (upd (upd (upd (upd (upd (upd (fun _ => 0) (0 : Int32).toNatClampNeg 1) (1 : Int32).toNatClampNeg 1) (2 : Int32).toNatClampNeg 1) (3 : Int32).toNatClampNeg 1) (4 : Int32).toNatClampNeg 1) (5 : Int32).toNatClampNeg 1) (6 : Int32).toNatClampNeg 1) (7 : Int32).toNatClampNeg 1))), (v6, .inl (G.2.1 0, 328, .inl (fun _ => 0))), (v7, .inl (G.2.1 0, 328, .inl (fun _ => 0))), (q8, .inr (4, [.int 0, .ref v11, .ref v12, .ref v13, .ref v14, .ref v15, .ref v16, .ref v17])), (v11, .inl (G.2.1 0, 40, .inl (fun _ => 0))), (v12, .inl (G.2.1 0, 40, .inl (fun _ => 0))), (v13, .inl (G.2.1 0, 40, .inl (fun _ => 0))), (v14, .inl (G.2.1 0, 40, .inl (fun _ => 0))), (v15, .inl (G.2.1 0, 40, .inl (fun _ => 0))), (v16, .inl (G.2.1 0, 320, .inl (fun _ => 0))), (v17, .inl (G.2.1 0, 320, .inl (fun _ => 0))), (q19, .inr (1, [.int 0, .int 0, .int 0, .int 5, .int 2, .int 0, .int 0])), (q23, .inr (1, [.int 0, .int 0, .int 0, .int 5, .int 2, .int 0, .int 0]))]) (wc := [(q27, .inr (1, [.int 0, .int 0, .int 0, .int 0, .int 0, .int 0, .int 0]))]) (rest := [.ref q27, .int 2, .ref q1]) (c1 := 16) (s1 := 1539) X Z (cX1_init_c l q27) (goo0 mB17) rfl (List.mem_cons_of_mem _ mB33) X.2.2.2.2.2.2.2.2.1 (List.mem_cons_of_mem _ mB37) rfl (by decide +kernel) ⟨Nat.le_of_ble_eq_true rfl, Nat.le_of_ble_eq_true rfl⟩ rfl rfl ⟨Nat.le_of_ble_eq_true rfl, Nat.le_of_ble_eq_true rfl⟩ hl.1 (Nat.le_of_ble_eq_true rfl) dX2_init_50 (fun w28 hw29 H locs Z => ?_)
  subst hw29
  have Z : LSt G ([(h0, .inr (2, [.int 0, .int 0, .int 0, .ref q1, .ref q2, .ref q8])), (q1, .inl (G.2.1 3, 3, .inr (.inr (.inr (.inr (va_up (va_up (fun _ => none) (0 : Int32).toNatClampNeg (some q19)) (1 : Int32).toNatClampNeg (some q23))))))), (q2, .inr (5, [.ref v5, .ref v6, .ref v7])), (v5, .inl (G.2.1 0, 8, .inl (upd (upd (upd (upd (upd (upd (upd (upd (fun _ => 0) (0 : Int32).toNatClampNeg 1) (1 : Int32).toNatClampNeg 1) (2 : Int32).toNatClampNeg 1) (3 : Int32).toNatClampNeg 1) (4 : Int32).toNatClampNeg 1) (5 : Int32).toNatClampNeg 1) (6 : Int32).toNatClampNeg 1) (7 : Int32).toNatClampNeg 1))), (v6, .inl (G.2.1 0, 328, .inl (fun _ => 0))), (v7, .inl (G.2.1 0, 328, .inl (fun _ => 0))), (q8, .inr (4, [.int 0, .ref v11, .ref v12, .ref v13, .ref v14, .ref v15, .ref v16, .ref v17])), (v11, .inl (G.2.1 0, 40, .inl (fun _ => 0))), (v12, .inl (G.2.1 0, 40, .inl (fun _ => 0))), (v13, .inl (G.2.1 0, 40, .inl (fun _ => 0))), (v14, .inl (G.2.1 0, 40, .inl (fun _ => 0))), (v15, .inl (G.2.1 0, 40, .inl (fun _ => 0))), (v16, .inl (G.2.1 0, 320, .inl (fun _ => 0))), (v17, .inl (G.2.1 0, 320, .inl (fun _ => 0))), (q19, .inr (1, [.int 0, .int 0, .int 0, .int 5, .int 2, .int 0, .int 0])), (q23, .inr (1, [.int 0, .int 0, .int 0, .int 5, .int 2, .int 0, .int 0])), (q27, .inr (1, [.int 0, .int 0, .int 0, .int 5, .int 2, .int 0, .int 0]))]) A s.heap H locs := Z
  refine n_astq (q0 := 1) (qk := 16) (ci := 1) (v := q27) X Z rfl rfl rfl rfl (by unfold vp_in; decide) dX2_init_53 (fun H locs Z => ?_)
  have Z : LSt G ([(h0, .inr (2, [.int 0, .int 0, .int 0, .ref q1, .ref q2, .ref q8])), (q1, .inl (G.2.1 3, 3, .inr (.inr (.inr (.inr (va_up (va_up (va_up (fun _ => none) (0 : Int32).toNatClampNeg (some q19)) (1 : Int32).toNatClampNeg (some q23)) (2 : Int32).toNatClampNeg (some q27))))))), (q2, .inr (5, [.ref v5, .ref v6, .ref v7])), (v5, .inl (G.2.1 0, 8, .inl (upd (upd (upd (upd (upd (upd (upd (upd (fun _ => 0) (0 : Int32).toNatClampNeg 1) (1 : Int32).toNatClampNeg 1) (2 : Int32).toNatClampNeg 1) (3 : Int32).toNatClampNeg 1) (4 : Int32).toNatClampNeg 1) (5 : Int32).toNatClampNeg 1) (6 : Int32).toNatClampNeg 1) (7 : Int32).toNatClampNeg 1))), (v6, .inl (G.2.1 0, 328, .inl (fun _ => 0))), (v7, .inl (G.2.1 0, 328, .inl (fun _ => 0))), (q8, .inr (4, [.int 0, .ref v11, .ref v12, .ref v13, .ref v14, .ref v15, .ref v16, .ref v17])), (v11, .inl (G.2.1 0, 40, .inl (fun _ => 0))), (v12, .inl (G.2.1 0, 40, .inl (fun _ => 0))), (v13, .inl (G.2.1 0, 40, .inl (fun _ => 0))), (v14, .inl (G.2.1 0, 40, .inl (fun _ => 0))), (v15, .inl (G.2.1 0, 40, .inl (fun _ => 0))), (v16, .inl (G.2.1 0, 320, .inl (fun _ => 0))), (v17, .inl (G.2.1 0, 320, .inl (fun _ => 0))), (q19, .inr (1, [.int 0, .int 0, .int 0, .int 5, .int 2, .int 0, .int 0])), (q23, .inr (1, [.int 0, .int 0, .int 0, .int 5, .int 2, .int 0, .int 0])), (q27, .inr (1, [.int 0, .int 0, .int 0, .int 5, .int 2, .int 0, .int 0]))]) A s.heap H locs := Z
  refine lv_iinc (v := 3) (lv' := [(1, .int 3), (0, .ref h0)]) hx hb dX2_init_54 hl (k := 0) rfl (by decide) (by decide) rfl (fun ls hl => ?_)
  refine lv_goto (tgt := 36) hx hb dX2_init_57 (by decide) ?_
  refine lv_iload_n hx hb dX2_init_36 rfl (lv_at hl 0 rfl) ?_
  refine lv_iconst (v := 3) hx hb dX2_init_37 (by decide) ?_
  refine lv_icmp_ge (tgt := 60) hx hb dX2_init_38 (by decide) (fun c30 => ?_) (fun c30 => ?_)
  rotate_left
  · first | exact absurd c30 (by decide) | exact absurd (by decide) c30
  exact kI _ _ _ _ _ dX2_init_60 ⟨fun k => [h0, q1, q19, q23, q27, q2, v5, v6, v7, q8, v11, v12, v13, v14, v15, v16, v17].getD k 0, rfl, rfl⟩ Z
abbrev wmX0_init : List Cond := Cond.code yX0_init cX0_init 2 none :: wA0
set_option maxHeartbeats 8000000 in
set_option maxRecDepth 100000 in
theorem cX0_init_c (l : Launch) (h0 : Nat) : cN l yX0_init wmX0_init 3 54 103 9276 G [.ref h0] [(h0, .inr (0, [.int 0, .int 0, .null]))] (fun w => ∃ (r : Nat) (as : Nat → Nat → Nat), w = svL G h0 r as) := by
  refine mk_cN (by decide +kernel) rfl rfl (Nat.le_of_ble_eq_true rfl) (fun p e s m args below meth c A Q ls X hin kI hl Z => ?_)
  have hx := X.1
  have hb := X.2.1
  obtain ⟨H, hH⟩ : ∃ z, z = s.heap := ⟨_, rfl⟩
  obtain ⟨locs, hlocs⟩ : ∃ z : List Loc, z = [] := ⟨_, rfl⟩
  rw [← hlocs]
  have Z : LSt G [(h0, .inr (0, [.int 0, .int 0, .null]))] A s.heap s.heap locs := by rw [hlocs]; exact Z
  refine lv_aload_n hx hb dX0_init_0 rfl (lv_at hl 0 rfl) ?_
  refine n_obj X (List.mem_cons_of_mem _ mB39) (List.mem_cons_of_mem _ mB2) (List.mem_cons_of_mem _ mB3) hl.1 ⟨Nat.le_of_ble_eq_true rfl, Nat.le_of_ble_eq_true rfl⟩ dX0_init_1 ?_
  refine lv_aload_n hx hb dX0_init_4 rfl (lv_at hl 0 rfl) ?_
  refine lv_bipush (v := 6) hx hb dX0_init_5 (by decide) ?_
  refine n_newq (C := RX2) (t := 4) (N' := 6) (c1 := 1) (s1 := 6) X Z (List.mem_cons_of_mem _ mB40) X.2.2.2.2.2.2.2.2.2.2.2 rfl (by decide) (by decide) (Nat.le_of_ble_eq_true rfl) rfl rfl ⟨Nat.le_of_ble_eq_true rfl, Nat.le_of_ble_eq_true rfl⟩ dX0_init_7 (fun q1 H Z => ?_)
  have Z : LSt G ([(h0, .inr (0, [.int 0, .int 0, .null])), (q1, .inl (G.2.1 4, 6, .inr (.inr (.inr (.inr (fun _ => none))))))]) A s.heap H locs := Z
  refine n_putF (j := 2) (q0 := 0) (ty := tyX0 2) (v := .ref q1) X hin Z (iB0 _) tyX0_ok nmX0 rfl rfl (by decide) rfl (List.mem_cons_of_mem _ mB41) rfl rfl (by decide +kernel) rfl rfl (Nat.le_of_ble_eq_true rfl) dX0_init_10 (fun H locs Z => ?_)
  have Z : LSt G ([(h0, .inr (0, [.int 0, .int 0, .ref q1])), (q1, .inl (G.2.1 4, 6, .inr (.inr (.inr (.inr (fun _ => none))))))]) A s.heap H locs := Z
  refine lv_iconst (v := 0) hx hb dX0_init_13 (by decide) ?_
  refine lv_istore_n (lv' := [(1, .int 0), (0, .ref h0)]) hx hb dX0_init_14 rfl hl (by decide) rfl (fun ls hl => ?_)
  refine lv_iload_n hx hb dX0_init_15 rfl (lv_at hl 0 rfl) ?_
  refine lv_bipush (v := 6) hx hb dX0_init_16 (by decide) ?_
  refine lv_icmp_ge (tgt := 40) hx hb dX0_init_18 (by decide) (fun c2 => ?_) (fun c2 => ?_)
  · first | exact absurd c2 (by decide) | exact absurd (by decide) c2
  refine lv_aload_n hx hb dX0_init_21 rfl (lv_at hl 1 rfl) ?_
  refine n_get (j := 2) (q0 := 0) (v := .ref q1) X Z (iB0 _) rfl rfl (by decide) rfl (List.mem_cons_of_mem _ mB41) rfl dX0_init_22 ?_
  refine lv_iload_n hx hb dX0_init_25 rfl (lv_at hl 0 rfl) ?_
  refine n_new (ci := 2) (fs := [.int 0, .int 0, .int 0, .null, .null, .null]) (c1 := 2) (s1 := 12) X Z (iB2 _) tyX2 tyX2_ok (List.mem_cons_of_mem _ mB40) (List.mem_cons_of_mem _ mB42) (List.mem_cons_of_mem _ mB43) rfl (fun j hj => by rcases (show j = 0 ∨ j = 1 ∨ j = 2 ∨ j = 3 ∨ j = 4 ∨ j = 5 by omega) with rfl | rfl | rfl | rfl | rfl | rfl <;> rfl) rfl rfl ⟨Nat.le_of_ble_eq_true rfl, Nat.le_of_ble_eq_true rfl⟩ dX0_init_26 (fun q3 H Z => ?_)
  refine lv_dup hx hb dX0_init_29 rfl ?_
  refine n_ctorI (b := [(h0, .inr (0, [.int 0, .int 0, .ref q1])), (q1, .inl (G.2.1 4, 6, .inr (.inr (.inr (.inr (fun _ => none))))))]) (wc := [(q3, .inr (2, [.int 0, .int 0, .int 0, .null, .null, .null]))]) (rest := [.ref q3, .int 0, .ref q1]) (c1 := 18) (s1 := 1551) X Z (cX2_init_c l q3) (goo0 mB38) rfl (List.mem_cons_of_mem _ mB43) (List.mem_cons_of_mem _ mB44) (List.mem_cons_of_mem _ mB45) rfl (by decide +kernel) ⟨Nat.le_of_ble_eq_true rfl, Nat.le_of_ble_eq_true rfl⟩ rfl rfl ⟨Nat.le_of_ble_eq_true rfl, Nat.le_of_ble_eq_true rfl⟩ hl.1 (Nat.le_of_ble_eq_true rfl) dX0_init_30 (fun w4 hw5 H locs Z => ?_)
  obtain ⟨a6, ha7, rfl⟩ := hw5
  have Z : LSt G ([(h0, .inr (0, [.int 0, .int 0, .ref q1])), (q1, .inl (G.2.1 4, 6, .inr (.inr (.inr (.inr (fun _ => none))))))] ++ (stL G a6)) A s.heap H locs := Z
  refine n_astq (q0 := 1) (ci := 2) (v := q3) X Z rfl rfl (by rw [← ha7]; exact ap_r (a := [(h0, .inr (0, [.int 0, .int 0, .ref q1])), (q1, .inl (G.2.1 4, 6, .inr (.inr (.inr (.inr (fun _ => none))))))]) (st_0 G a6)) rfl (by unfold vp_in; decide) dX0_init_33 (fun H locs Z => ?_)
  have Z : LSt G ([(h0, .inr (0, [.int 0, .int 0, .ref q1])), (q1, .inl (G.2.1 4, 6, .inr (.inr (.inr (.inr (va_up (fun _ => none) (0 : Int32).toNatClampNeg (some q3)))))))] ++ (stL G a6)) A s.heap H locs := Z
  refine lv_iinc (v := 1) (lv' := [(1, .int 1), (0, .ref h0)]) hx hb dX0_init_34 hl (k := 0) rfl (by decide) (by decide) rfl (fun ls hl => ?_)
  refine lv_goto (tgt := 15) hx hb dX0_init_37 (by decide) ?_
  refine lv_iload_n hx hb dX0_init_15 rfl (lv_at hl 0 rfl) ?_
  refine lv_bipush (v := 6) hx hb dX0_init_16 (by decide) ?_
  refine lv_icmp_ge (tgt := 40) hx hb dX0_init_18 (by decide) (fun c8 => ?_) (fun c8 => ?_)
  · first | exact absurd c8 (by decide) | exact absurd (by decide) c8
  refine lv_aload_n hx hb dX0_init_21 rfl (lv_at hl 1 rfl) ?_
  refine n_get (j := 2) (q0 := 0) (v := .ref q1) X Z (iB0 _) rfl rfl (by decide) rfl (List.mem_cons_of_mem _ mB41) rfl dX0_init_22 ?_
  refine lv_iload_n hx hb dX0_init_25 rfl (lv_at hl 0 rfl) ?_
  refine n_new (ci := 2) (fs := [.int 0, .int 0, .int 0, .null, .null, .null]) (c1 := 19) (s1 := 1557) X Z (iB2 _) tyX2 tyX2_ok (List.mem_cons_of_mem _ mB40) (List.mem_cons_of_mem _ mB42) (List.mem_cons_of_mem _ mB43) rfl (fun j hj => by rcases (show j = 0 ∨ j = 1 ∨ j = 2 ∨ j = 3 ∨ j = 4 ∨ j = 5 by omega) with rfl | rfl | rfl | rfl | rfl | rfl <;> rfl) rfl rfl ⟨Nat.le_of_ble_eq_true rfl, Nat.le_of_ble_eq_true rfl⟩ dX0_init_26 (fun q9 H Z => ?_)
  refine lv_dup hx hb dX0_init_29 rfl ?_
  refine n_ctorI (b := [(h0, .inr (0, [.int 0, .int 0, .ref q1])), (q1, .inl (G.2.1 4, 6, .inr (.inr (.inr (.inr (va_up (fun _ => none) (0 : Int32).toNatClampNeg (some q3)))))))] ++ (stL G a6)) (wc := [(q9, .inr (2, [.int 0, .int 0, .int 0, .null, .null, .null]))]) (rest := [.ref q9, .int 1, .ref q1]) (c1 := 35) (s1 := 3096) X Z (cX2_init_c l q9) (goo0 mB38) rfl (List.mem_cons_of_mem _ mB43) (List.mem_cons_of_mem _ mB44) (List.mem_cons_of_mem _ mB45) rfl (by decide +kernel) ⟨Nat.le_of_ble_eq_true rfl, Nat.le_of_ble_eq_true rfl⟩ rfl rfl ⟨Nat.le_of_ble_eq_true rfl, Nat.le_of_ble_eq_true rfl⟩ hl.1 (Nat.le_of_ble_eq_true rfl) dX0_init_30 (fun w10 hw11 H locs Z => ?_)
  obtain ⟨a12, ha13, rfl⟩ := hw11
  replace Z := ls_as Z
  have Z : LSt G ([(h0, .inr (0, [.int 0, .int 0, .ref q1])), (q1, .inl (G.2.1 4, 6, .inr (.inr (.inr (.inr (va_up (fun _ => none) (0 : Int32).toNatClampNeg (some q3)))))))] ++ (stL G a6 ++ stL G a12)) A s.heap H locs := Z
  refine n_astq (q0 := 1) (ci := 2) (v := q9) X Z rfl rfl (by rw [← ha13]; exact ap_r (a := [(h0, .inr (0, [.int 0, .int 0, .ref q1])), (q1, .inl (G.2.1 4, 6, .inr (.inr (.inr (.inr (va_up (fun _ => none) (0 : Int32).toNatClampNeg (some q3)))))))]) (ap_r (a := stL G a6) (st_0 G a12))) rfl (by unfold vp_in; decide) dX0_init_33 (fun H locs Z => ?_)
  have Z : LSt G ([(h0, .inr (0, [.int 0, .int 0, .ref q1])), (q1, .inl (G.2.1 4, 6, .inr (.inr (.inr (.inr (va_up (va_up (fun _ => none) (0 : Int32).toNatClampNeg (some q3)) (1 : Int32).toNatClampNeg (some q9)))))))] ++ (stL G a6 ++ stL G a12)) A s.heap H locs := Z
  refine lv_iinc (v := 2) (lv' := [(1, .int 2), (0, .ref h0)]) hx hb dX0_init_34 hl (k := 0) rfl (by decide) (by decide) rfl (fun ls hl => ?_)
  refine lv_goto (tgt := 15) hx hb dX0_init_37 (by decide) ?_
  refine lv_iload_n hx hb dX0_init_15 rfl (lv_at hl 0 rfl) ?_
  refine lv_bipush (v := 6) hx hb dX0_init_16 (by decide) ?_
  refine lv_icmp_ge (tgt := 40) hx hb dX0_init_18 (by decide) (fun c14 => ?_) (fun c14 => ?_)
  · first | exact absurd c14 (by decide) | exact absurd (by decide) c14
  refine lv_aload_n hx hb dX0_init_21 rfl (lv_at hl 1 rfl) ?_
  refine n_get (j := 2) (q0 := 0) (v := .ref q1) X Z (iB0 _) rfl rfl (by decide) rfl (List.mem_cons_of_mem _ mB41) rfl dX0_init_22 ?_
  refine lv_iload_n hx hb dX0_init_25 rfl (lv_at hl 0 rfl) ?_
  refine n_new (ci := 2) (fs := [.int 0, .int 0, .int 0, .null, .null, .null]) (c1 := 36) (s1 := 3102) X Z (iB2 _) tyX2 tyX2_ok (List.mem_cons_of_mem _ mB40) (List.mem_cons_of_mem _ mB42) (List.mem_cons_of_mem _ mB43) rfl (fun j hj => by rcases (show j = 0 ∨ j = 1 ∨ j = 2 ∨ j = 3 ∨ j = 4 ∨ j = 5 by omega) with rfl | rfl | rfl | rfl | rfl | rfl <;> rfl) rfl rfl ⟨Nat.le_of_ble_eq_true rfl, Nat.le_of_ble_eq_true rfl⟩ dX0_init_26 (fun q15 H Z => ?_)
  refine lv_dup hx hb dX0_init_29 rfl ?_
  refine n_ctorI (b := [(h0, .inr (0, [.int 0, .int 0, .ref q1])), (q1, .inl (G.2.1 4, 6, .inr (.inr (.inr (.inr (va_up (va_up (fun _ => none) (0 : Int32).toNatClampNeg (some q3)) (1 : Int32).toNatClampNeg (some q9)))))))] ++ (stL G a6 ++ stL G a12)) (wc := [(q15, .inr (2, [.int 0, .int 0, .int 0, .null, .null, .null]))]) (rest := [.ref q15, .int 2, .ref q1]) (c1 := 52) (s1 := 4641) X Z (cX2_init_c l q15) (goo0 mB38) rfl (List.mem_cons_of_mem _ mB43) (List.mem_cons_of_mem _ mB44) (List.mem_cons_of_mem _ mB45) rfl (by decide +kernel) ⟨Nat.le_of_ble_eq_true rfl, Nat.le_of_ble_eq_true rfl⟩ rfl rfl ⟨Nat.le_of_ble_eq_true rfl, Nat.le_of_ble_eq_true rfl⟩ hl.1 (Nat.le_of_ble_eq_true rfl) dX0_init_30 (fun w16 hw17 H locs Z => ?_)
  obtain ⟨a18, ha19, rfl⟩ := hw17
  replace Z := ls_as Z
  have Z : LSt G ([(h0, .inr (0, [.int 0, .int 0, .ref q1])), (q1, .inl (G.2.1 4, 6, .inr (.inr (.inr (.inr (va_up (va_up (fun _ => none) (0 : Int32).toNatClampNeg (some q3)) (1 : Int32).toNatClampNeg (some q9)))))))] ++ (stL G a6 ++ stL G a12 ++ stL G a18)) A s.heap H locs := Z
  refine n_astq (q0 := 1) (ci := 2) (v := q15) X Z rfl rfl (by rw [← ha19]; exact ap_r (a := [(h0, .inr (0, [.int 0, .int 0, .ref q1])), (q1, .inl (G.2.1 4, 6, .inr (.inr (.inr (.inr (va_up (va_up (fun _ => none) (0 : Int32).toNatClampNeg (some q3)) (1 : Int32).toNatClampNeg (some q9)))))))]) (ap_r (a := stL G a6 ++ stL G a12) (st_0 G a18))) rfl (by unfold vp_in; decide) dX0_init_33 (fun H locs Z => ?_)
  have Z : LSt G ([(h0, .inr (0, [.int 0, .int 0, .ref q1])), (q1, .inl (G.2.1 4, 6, .inr (.inr (.inr (.inr (va_up (va_up (va_up (fun _ => none) (0 : Int32).toNatClampNeg (some q3)) (1 : Int32).toNatClampNeg (some q9)) (2 : Int32).toNatClampNeg (some q15)))))))] ++ (stL G a6 ++ stL G a12 ++ stL G a18)) A s.heap H locs := Z
  refine lv_iinc (v := 3) (lv' := [(1, .int 3), (0, .ref h0)]) hx hb dX0_init_34 hl (k := 0) rfl (by decide) (by decide) rfl (fun ls hl => ?_)
  refine lv_goto (tgt := 15) hx hb dX0_init_37 (by decide) ?_
  refine lv_iload_n hx hb dX0_init_15 rfl (lv_at hl 0 rfl) ?_
  refine lv_bipush (v := 6) hx hb dX0_init_16 (by decide) ?_
  refine lv_icmp_ge (tgt := 40) hx hb dX0_init_18 (by decide) (fun c20 => ?_) (fun c20 => ?_)
  · first | exact absurd c20 (by decide) | exact absurd (by decide) c20
  refine lv_aload_n hx hb dX0_init_21 rfl (lv_at hl 1 rfl) ?_
  refine n_get (j := 2) (q0 := 0) (v := .ref q1) X Z (iB0 _) rfl rfl (by decide) rfl (List.mem_cons_of_mem _ mB41) rfl dX0_init_22 ?_
  refine lv_iload_n hx hb dX0_init_25 rfl (lv_at hl 0 rfl) ?_
  refine n_new (ci := 2) (fs := [.int 0, .int 0, .int 0, .null, .null, .null]) (c1 := 53) (s1 := 4647) X Z (iB2 _) tyX2 tyX2_ok (List.mem_cons_of_mem _ mB40) (List.mem_cons_of_mem _ mB42) (List.mem_cons_of_mem _ mB43) rfl (fun j hj => by rcases (show j = 0 ∨ j = 1 ∨ j = 2 ∨ j = 3 ∨ j = 4 ∨ j = 5 by omega) with rfl | rfl | rfl | rfl | rfl | rfl <;> rfl) rfl rfl ⟨Nat.le_of_ble_eq_true rfl, Nat.le_of_ble_eq_true rfl⟩ dX0_init_26 (fun q21 H Z => ?_)
  refine lv_dup hx hb dX0_init_29 rfl ?_
  refine n_ctorI (b := [(h0, .inr (0, [.int 0, .int 0, .ref q1])), (q1, .inl (G.2.1 4, 6, .inr (.inr (.inr (.inr (va_up (va_up (va_up (fun _ => none) (0 : Int32).toNatClampNeg (some q3)) (1 : Int32).toNatClampNeg (some q9)) (2 : Int32).toNatClampNeg (some q15)))))))] ++ (stL G a6 ++ stL G a12 ++ stL G a18)) (wc := [(q21, .inr (2, [.int 0, .int 0, .int 0, .null, .null, .null]))]) (rest := [.ref q21, .int 3, .ref q1]) (c1 := 69) (s1 := 6186) X Z (cX2_init_c l q21) (goo0 mB38) rfl (List.mem_cons_of_mem _ mB43) (List.mem_cons_of_mem _ mB44) (List.mem_cons_of_mem _ mB45) rfl (by decide +kernel) ⟨Nat.le_of_ble_eq_true rfl, Nat.le_of_ble_eq_true rfl⟩ rfl rfl ⟨Nat.le_of_ble_eq_true rfl, Nat.le_of_ble_eq_true rfl⟩ hl.1 (Nat.le_of_ble_eq_true rfl) dX0_init_30 (fun w22 hw23 H locs Z => ?_)
  obtain ⟨a24, ha25, rfl⟩ := hw23
  replace Z := ls_as Z
  have Z : LSt G ([(h0, .inr (0, [.int 0, .int 0, .ref q1])), (q1, .inl (G.2.1 4, 6, .inr (.inr (.inr (.inr (va_up (va_up (va_up (fun _ => none) (0 : Int32).toNatClampNeg (some q3)) (1 : Int32).toNatClampNeg (some q9)) (2 : Int32).toNatClampNeg (some q15)))))))] ++ (stL G a6 ++ stL G a12 ++ stL G a18 ++ stL G a24)) A s.heap H locs := Z
  refine n_astq (q0 := 1) (ci := 2) (v := q21) X Z rfl rfl (by rw [← ha25]; exact ap_r (a := [(h0, .inr (0, [.int 0, .int 0, .ref q1])), (q1, .inl (G.2.1 4, 6, .inr (.inr (.inr (.inr (va_up (va_up (va_up (fun _ => none) (0 : Int32).toNatClampNeg (some q3)) (1 : Int32).toNatClampNeg (some q9)) (2 : Int32).toNatClampNeg (some q15)))))))]) (ap_r (a := stL G a6 ++ stL G a12 ++ stL G a18) (st_0 G a24))) rfl (by unfold vp_in; decide) dX0_init_33 (fun H locs Z => ?_)
  have Z : LSt G ([(h0, .inr (0, [.int 0, .int 0, .ref q1])), (q1, .inl (G.2.1 4, 6, .inr (.inr (.inr (.inr (va_up (va_up (va_up (va_up (fun _ => none) (0 : Int32).toNatClampNeg (some q3)) (1 : Int32).toNatClampNeg (some q9)) (2 : Int32).toNatClampNeg (some q15)) (3 : Int32).toNatClampNeg (some q21)))))))] ++ (stL G a6 ++ stL G a12 ++ stL G a18 ++ stL G a24)) A s.heap H locs := Z
  refine lv_iinc (v := 4) (lv' := [(1, .int 4), (0, .ref h0)]) hx hb dX0_init_34 hl (k := 0) rfl (by decide) (by decide) rfl (fun ls hl => ?_)
  refine lv_goto (tgt := 15) hx hb dX0_init_37 (by decide) ?_
  refine lv_iload_n hx hb dX0_init_15 rfl (lv_at hl 0 rfl) ?_
  refine lv_bipush (v := 6) hx hb dX0_init_16 (by decide) ?_
  refine lv_icmp_ge (tgt := 40) hx hb dX0_init_18 (by decide) (fun c26 => ?_) (fun c26 => ?_)
  · first | exact absurd c26 (by decide) | exact absurd (by decide) c26
  refine lv_aload_n hx hb dX0_init_21 rfl (lv_at hl 1 rfl) ?_
  refine n_get (j := 2) (q0 := 0) (v := .ref q1) X Z (iB0 _) rfl rfl (by decide) rfl (List.mem_cons_of_mem _ mB41) rfl dX0_init_22 ?_
  refine lv_iload_n hx hb dX0_init_25 rfl (lv_at hl 0 rfl) ?_
  refine n_new (ci := 2) (fs := [.int 0, .int 0, .int 0, .null, .null, .null]) (c1 := 70) (s1 := 6192) X Z (iB2 _) tyX2 tyX2_ok (List.mem_cons_of_mem _ mB40) (List.mem_cons_of_mem _ mB42) (List.mem_cons_of_mem _ mB43) rfl (fun j hj => by rcases (show j = 0 ∨ j = 1 ∨ j = 2 ∨ j = 3 ∨ j = 4 ∨ j = 5 by omega) with rfl | rfl | rfl | rfl | rfl | rfl <;> rfl) rfl rfl ⟨Nat.le_of_ble_eq_true rfl, Nat.le_of_ble_eq_true rfl⟩ dX0_init_26 (fun q27 H Z => ?_)
  refine lv_dup hx hb dX0_init_29 rfl ?_
  refine n_ctorI (b := [(h0, .inr (0, [.int 0, .int 0, .ref q1])), (q1, .inl (G.2.1 4, 6, .inr (.inr (.inr (.inr (va_up (va_up (va_up (va_up (fun _ => none) (0 : Int32).toNatClampNeg (some q3)) (1 : Int32).toNatClampNeg (some q9)) (2 : Int32).toNatClampNeg (some q15)) (3 : Int32).toNatClampNeg (some q21)))))))] ++ (stL G a6 ++ stL G a12 ++ stL G a18 ++ stL G a24)) (wc := [(q27, .inr (2, [.int 0, .int 0, .int 0, .null, .null, .null]))]) (rest := [.ref q27, .int 4, .ref q1]) (c1 := 86) (s1 := 7731) X Z (cX2_init_c l q27) (goo0 mB38) rfl (List.mem_cons_of_mem _ mB43) (List.mem_cons_of_mem _ mB44) (List.mem_cons_of_mem _ mB45) rfl (by decide +kernel) ⟨Nat.le_of_ble_eq_true rfl, Nat.le_of_ble_eq_true rfl⟩ rfl rfl ⟨Nat.le_of_ble_eq_true rfl, Nat.le_of_ble_eq_true rfl⟩ hl.1 (Nat.le_of_ble_eq_true rfl) dX0_init_30 (fun w28 hw29 H locs Z => ?_)
  obtain ⟨a30, ha31, rfl⟩ := hw29
  replace Z := ls_as Z
  have Z : LSt G ([(h0, .inr (0, [.int 0, .int 0, .ref q1])), (q1, .inl (G.2.1 4, 6, .inr (.inr (.inr (.inr (va_up (va_up (va_up (va_up (fun _ => none) (0 : Int32).toNatClampNeg (some q3)) (1 : Int32).toNatClampNeg (some q9)) (2 : Int32).toNatClampNeg (some q15)) (3 : Int32).toNatClampNeg (some q21)))))))] ++ (stL G a6 ++ stL G a12 ++ stL G a18 ++ stL G a24 ++ stL G a30)) A s.heap H locs := Z
  refine n_astq (q0 := 1) (ci := 2) (v := q27) X Z rfl rfl (by rw [← ha31]; exact ap_r (a := [(h0, .inr (0, [.int 0, .int 0, .ref q1])), (q1, .inl (G.2.1 4, 6, .inr (.inr (.inr (.inr (va_up (va_up (va_up (va_up (fun _ => none) (0 : Int32).toNatClampNeg (some q3)) (1 : Int32).toNatClampNeg (some q9)) (2 : Int32).toNatClampNeg (some q15)) (3 : Int32).toNatClampNeg (some q21)))))))]) (ap_r (a := stL G a6 ++ stL G a12 ++ stL G a18 ++ stL G a24) (st_0 G a30))) rfl (by unfold vp_in; decide) dX0_init_33 (fun H locs Z => ?_)
  have Z : LSt G ([(h0, .inr (0, [.int 0, .int 0, .ref q1])), (q1, .inl (G.2.1 4, 6, .inr (.inr (.inr (.inr (va_up (va_up (va_up (va_up (va_up (fun _ => none) (0 : Int32).toNatClampNeg (some q3)) (1 : Int32).toNatClampNeg (some q9)) (2 : Int32).toNatClampNeg (some q15)) (3 : Int32).toNatClampNeg (some q21)) (4 : Int32).toNatClampNeg (some q27)))))))] ++ (stL G a6 ++ stL G a12 ++ stL G a18 ++ stL G a24 ++ stL G a30)) A s.heap H locs := Z
  refine lv_iinc (v := 5) (lv' := [(1, .int 5), (0, .ref h0)]) hx hb dX0_init_34 hl (k := 0) rfl (by decide) (by decide) rfl (fun ls hl => ?_)
  refine lv_goto (tgt := 15) hx hb dX0_init_37 (by decide) ?_
  refine lv_iload_n hx hb dX0_init_15 rfl (lv_at hl 0 rfl) ?_
  refine lv_bipush (v := 6) hx hb dX0_init_16 (by decide) ?_
  refine lv_icmp_ge (tgt := 40) hx hb dX0_init_18 (by decide) (fun c32 => ?_) (fun c32 => ?_)
  · first | exact absurd c32 (by decide) | exact absurd (by decide) c32
  refine lv_aload_n hx hb dX0_init_21 rfl (lv_at hl 1 rfl) ?_
  refine n_get (j := 2) (q0 := 0) (v := .ref q1) X Z (iB0 _) rfl rfl (by decide) rfl (List.mem_cons_of_mem _ mB41) rfl dX0_init_22 ?_
  refine lv_iload_n hx hb dX0_init_25 rfl (lv_at hl 0 rfl) ?_
  refine n_new (ci := 2) (fs := [.int 0, .int 0, .int 0, .null, .null, .null]) (c1 := 87) (s1 := 7737) X Z (iB2 _) tyX2 tyX2_ok (List.mem_cons_of_mem _ mB40) (List.mem_cons_of_mem _ mB42) (List.mem_cons_of_mem _ mB43) rfl (fun j hj => by rcases (show j = 0 ∨ j = 1 ∨ j = 2 ∨ j = 3 ∨ j = 4 ∨ j = 5 by omega) with rfl | rfl | rfl | rfl | rfl | rfl <;> rfl) rfl rfl ⟨Nat.le_of_ble_eq_true rfl, Nat.le_of_ble_eq_true rfl⟩ dX0_init_26 (fun q33 H Z => ?_)
  refine lv_dup hx hb dX0_init_29 rfl ?_
  refine n_ctorI (b := [(h0, .inr (0, [.int 0, .int 0, .ref q1])), (q1, .inl (G.2.1 4, 6, .inr (.inr (.inr (.inr (va_up (va_up (va_up (va_up (va_up (fun _ => none) (0 : Int32).toNatClampNeg (some q3)) (1 : Int32).toNatClampNeg (some q9)) (2 : Int32).toNatClampNeg (some q15)) (3 : Int32).toNatClampNeg (some q21)) (4 : Int32).toNatClampNeg (some q27)))))))] ++ (stL G a6 ++ stL G a12 ++ stL G a18 ++ stL G a24 ++ stL G a30)) (wc := [(q33, .inr (2, [.int 0, .int 0, .int 0, .null, .null, .null]))]) (rest := [.ref q33, .int 5, .ref q1]) (c1 := 103) (s1 := 9276) X Z (cX2_init_c l q33) (goo0 mB38) rfl (List.mem_cons_of_mem _ mB43) (List.mem_cons_of_mem _ mB44) (List.mem_cons_of_mem _ mB45) rfl (by decide +kernel) ⟨Nat.le_of_ble_eq_true rfl, Nat.le_of_ble_eq_true rfl⟩ rfl rfl ⟨Nat.le_of_ble_eq_true rfl, Nat.le_of_ble_eq_true rfl⟩ hl.1 (Nat.le_of_ble_eq_true rfl) dX0_init_30 (fun w34 hw35 H locs Z => ?_)
  obtain ⟨a36, ha37, rfl⟩ := hw35
  replace Z := ls_as Z
  have Z : LSt G ([(h0, .inr (0, [.int 0, .int 0, .ref q1])), (q1, .inl (G.2.1 4, 6, .inr (.inr (.inr (.inr (va_up (va_up (va_up (va_up (va_up (fun _ => none) (0 : Int32).toNatClampNeg (some q3)) (1 : Int32).toNatClampNeg (some q9)) (2 : Int32).toNatClampNeg (some q15)) (3 : Int32).toNatClampNeg (some q21)) (4 : Int32).toNatClampNeg (some q27)))))))] ++ (stL G a6 ++ stL G a12 ++ stL G a18 ++ stL G a24 ++ stL G a30 ++ stL G a36)) A s.heap H locs := Z
  refine n_astq (q0 := 1) (ci := 2) (v := q33) X Z rfl rfl (by rw [← ha37]; exact ap_r (a := [(h0, .inr (0, [.int 0, .int 0, .ref q1])), (q1, .inl (G.2.1 4, 6, .inr (.inr (.inr (.inr (va_up (va_up (va_up (va_up (va_up (fun _ => none) (0 : Int32).toNatClampNeg (some q3)) (1 : Int32).toNatClampNeg (some q9)) (2 : Int32).toNatClampNeg (some q15)) (3 : Int32).toNatClampNeg (some q21)) (4 : Int32).toNatClampNeg (some q27)))))))]) (ap_r (a := stL G a6 ++ stL G a12 ++ stL G a18 ++ stL G a24 ++ stL G a30) (st_0 G a36))) rfl (by unfold vp_in; decide) dX0_init_33 (fun H locs Z => ?_)
  have Z : LSt G ([(h0, .inr (0, [.int 0, .int 0, .ref q1])), (q1, .inl (G.2.1 4, 6, .inr (.inr (.inr (.inr (va_up (va_up (va_up (va_up (va_up (va_up (fun _ => none) (0 : Int32).toNatClampNeg (some q3)) (1 : Int32).toNatClampNeg (some q9)) (2 : Int32).toNatClampNeg (some q15)) (3 : Int32).toNatClampNeg (some q21)) (4 : Int32).toNatClampNeg (some q27)) (5 : Int32).toNatClampNeg (some q33)))))))] ++ (stL G a6 ++ stL G a12 ++ stL G a18 ++ stL G a24 ++ stL G a30 ++ stL G a36)) A s.heap H locs := Z
  refine lv_iinc (v := 6) (lv' := [(1, .int 6), (0, .ref h0)]) hx hb dX0_init_34 hl (k := 0) rfl (by decide) (by decide) rfl (fun ls hl => ?_)
  refine lv_goto (tgt := 15) hx hb dX0_init_37 (by decide) ?_
  refine lv_iload_n hx hb dX0_init_15 rfl (lv_at hl 0 rfl) ?_
  refine lv_bipush (v := 6) hx hb dX0_init_16 (by decide) ?_
  refine lv_icmp_ge (tgt := 40) hx hb dX0_init_18 (by decide) (fun c38 => ?_) (fun c38 => ?_)
  rotate_left
  · first | exact absurd c38 (by decide) | exact absurd (by decide) c38
  exact kI _ _ _ _ _ dX0_init_40 ⟨q1, fun k => [a6, a12, a18, a24, a30, a36].getD k (fun _ => 0), by unfold svL; simp only [List.getD_cons_zero, List.getD_cons_succ, ha7, ha13, ha19, ha25, ha31, ha37]⟩ Z
abbrev wmX6_init : List Cond := Cond.code yX6_init cX6_init 2 none :: wA0
set_option maxHeartbeats 8000000 in
set_option maxRecDepth 100000 in
theorem cX6_init_c (l : Launch) (h0 : Nat) : cN l yX6_init wmX6_init 4 75 160 14006 G [.ref h0] [(h0, .inr (6, [.null, .null, .null, .null, .null]))] (fun w => ∃ (u1 u2 u3 u4 u5 sv r : Nat) (s0 s7 s8 : Nat → Nat) (as : Nat → Nat → Nat), w = x6L G h0 u1 u2 u3 u4 u5 sv r s0 s7 s8 as) := by
  refine mk_cN (by decide +kernel) rfl rfl (Nat.le_of_ble_eq_true rfl) (fun p e s m args below meth c A Q ls X hin kI hl Z => ?_)
  have hx := X.1
  have hb := X.2.1
  obtain ⟨H, hH⟩ : ∃ z, z = s.heap := ⟨_, rfl⟩
  obtain ⟨locs, hlocs⟩ : ∃ z : List Loc, z = [] := ⟨_, rfl⟩
  rw [← hlocs]
  have Z : LSt G [(h0, .inr (6, [.null, .null, .null, .null, .null]))] A s.heap s.heap locs := by rw [hlocs]; exact Z
  refine lv_aload_n hx hb dX6_init_0 rfl (lv_at hl 0 rfl) ?_
  refine n_obj X (List.mem_cons_of_mem _ mB258) (List.mem_cons_of_mem _ mB2) (List.mem_cons_of_mem _ mB3) hl.1 ⟨Nat.le_of_ble_eq_true rfl, Nat.le_of_ble_eq_true rfl⟩ dX6_init_1 ?_
  refine lv_aload_n hx hb dX6_init_4 rfl (lv_at hl 0 rfl) ?_
  refine n_new (ci := 2) (fs := [.int 0, .int 0, .int 0, .null, .null, .null]) (c1 := 1) (s1 := 6) X Z (iB2 _) tyX2 tyX2_ok (List.mem_cons_of_mem _ mB259) (List.mem_cons_of_mem _ mB42) (List.mem_cons_of_mem _ mB43) rfl (fun j hj => by rcases (show j = 0 ∨ j = 1 ∨ j = 2 ∨ j = 3 ∨ j = 4 ∨ j = 5 by omega) with rfl | rfl | rfl | rfl | rfl | rfl <;> rfl) rfl rfl ⟨Nat.le_of_ble_eq_true rfl, Nat.le_of_ble_eq_true rfl⟩ dX6_init_5 (fun q1 H Z => ?_)
  refine lv_dup hx hb dX6_init_8 rfl ?_
  refine n_ctorI (b := [(h0, .inr (6, [.null, .null, .null, .null, .null]))]) (wc := [(q1, .inr (2, [.int 0, .int 0, .int 0, .null, .null, .null]))]) (rest := [.ref q1, .ref h0]) (c1 := 17) (s1 := 1545) X Z (cX2_init_c l q1) (goo0 mB38) rfl (List.mem_cons_of_mem _ mB43) (List.mem_cons_of_mem _ mB272) (List.mem_cons_of_mem _ mB45) rfl (by decide +kernel) ⟨Nat.le_of_ble_eq_true rfl, Nat.le_of_ble_eq_true rfl⟩ rfl rfl ⟨Nat.le_of_ble_eq_true rfl, Nat.le_of_ble_eq_true rfl⟩ hl.1 (Nat.le_of_ble_eq_true rfl) dX6_init_9 (fun w2 hw3 H locs Z => ?_)
  obtain ⟨a4, ha5, rfl⟩ := hw3
  have Z : LSt G ([(h0, .inr (6, [.null, .null, .null, .null, .null]))] ++ (stL G a4)) A s.heap H locs := Z
  refine n_putF (j := 0) (q0 := 0) (ty := tyX6 0) (v := .ref q1) X hin Z (iB6 _) tyX6_ok nmX6 rfl rfl (by decide) rfl (List.mem_cons_of_mem _ mB260) rfl rfl (by decide +kernel) rfl rfl (Nat.le_of_ble_eq_true rfl) dX6_init_12 (fun H locs Z => ?_)
  have Z : LSt G ([(h0, .inr (6, [.ref q1, .null, .null, .null, .null]))] ++ (stL G a4)) A s.heap H locs := Z
  refine lv_aload_n hx hb dX6_init_15 rfl (lv_at hl 0 rfl) ?_
  refine n_new (ci := 0) (fs := [.int 0, .int 0, .null]) (c1 := 18) (s1 := 1548) X Z (iB0 _) tyX0 tyX0_ok (List.mem_cons_of_mem _ mB261) (List.mem_cons_of_mem _ mB262) (List.mem_cons_of_mem _ mB263) rfl (fun j hj => by rcases (show j = 0 ∨ j = 1 ∨ j = 2 by omega) with rfl | rfl | rfl <;> rfl) rfl rfl ⟨Nat.le_of_ble_eq_true rfl, Nat.le_of_ble_eq_true rfl⟩ dX6_init_16 (fun q6 H Z => ?_)
  refine lv_dup hx hb dX6_init_19 rfl ?_
  refine n_ctorI (b := [(h0, .inr (6, [.ref q1, .null, .null, .null, .null]))] ++ (stL G a4)) (wc := [(q6, .inr (0, [.int 0, .int 0, .null]))]) (rest := [.ref q6, .ref h0]) (c1 := 121) (s1 := 10824) X Z (cX0_init_c l q6) (goo0 mB46) rfl (List.mem_cons_of_mem _ mB263) (List.mem_cons_of_mem _ mB273) (List.mem_cons_of_mem _ mB274) rfl (by decide +kernel) ⟨Nat.le_of_ble_eq_true rfl, Nat.le_of_ble_eq_true rfl⟩ rfl rfl ⟨Nat.le_of_ble_eq_true rfl, Nat.le_of_ble_eq_true rfl⟩ hl.1 (Nat.le_of_ble_eq_true rfl) dX6_init_20 (fun w7 hw8 H locs Z => ?_)
  obtain ⟨r9, a10, rfl⟩ := hw8
  replace Z := ls_as Z
  have Z : LSt G ([(h0, .inr (6, [.ref q1, .null, .null, .null, .null]))] ++ (stL G a4 ++ svL G q6 r9 a10)) A s.heap H locs := Z
  refine n_putF (j := 1) (q0 := 0) (ty := tyX6 1) (v := .ref q6) X hin Z (iB6 _) tyX6_ok nmX6 rfl rfl (by decide) rfl (List.mem_cons_of_mem _ mB264) rfl rfl (by decide +kernel) rfl rfl (Nat.le_of_ble_eq_true rfl) dX6_init_23 (fun H locs Z => ?_)
  have Z : LSt G ([(h0, .inr (6, [.ref q1, .ref q6, .null, .null, .null]))] ++ (stL G a4 ++ svL G q6 r9 a10)) A s.heap H locs := Z
  refine lv_aload_n hx hb dX6_init_26 rfl (lv_at hl 0 rfl) ?_
  refine lv_iconst (v := 2) hx hb dX6_init_27 (by decide) ?_
  refine n_newq (C := RX2) (t := 4) (N' := 2) (c1 := 122) (s1 := 10826) X Z (List.mem_cons_of_mem _ mB259) X.2.2.2.2.2.2.2.2.2.2.2 rfl (by decide) (by decide) (Nat.le_of_ble_eq_true rfl) rfl rfl ⟨Nat.le_of_ble_eq_true rfl, Nat.le_of_ble_eq_true rfl⟩ dX6_init_28 (fun q11 H Z => ?_)
  replace Z := ls_mv Z
  have Z : LSt G ([(h0, .inr (6, [.ref q1, .ref q6, .null, .null, .null])), (q11, .inl (G.2.1 4, 2, .inr (.inr (.inr (.inr (fun _ => none))))))] ++ (stL G a4 ++ svL G q6 r9 a10)) A s.heap H locs := Z
  refine n_putF (j := 2) (q0 := 0) (ty := tyX6 2) (v := .ref q11) X hin Z (iB6 _) tyX6_ok nmX6 rfl rfl (by decide) rfl (List.mem_cons_of_mem _ mB265) rfl rfl (by decide +kernel) rfl rfl (Nat.le_of_ble_eq_true rfl) dX6_init_31 (fun H locs Z => ?_)
  have Z : LSt G ([(h0, .inr (6, [.ref q1, .ref q6, .ref q11, .null, .null])), (q11, .inl (G.2.1 4, 2, .inr (.inr (.inr (.inr (fun _ => none))))))] ++ (stL G a4 ++ svL G q6 r9 a10)) A s.heap H locs := Z
  refine lv_aload_n hx hb dX6_init_34 rfl (lv_at hl 0 rfl) ?_
  refine lv_iconst (v := 2) hx hb dX6_init_35 (by decide) ?_
  refine n_newa (atype := .boolean) (t := 1) (ty := .boolean) (N' := 2) (c1 := 123) (s1 := 10828) X Z (List.mem_cons_of_mem _ mB266) rfl rfl (fun _ => rfl) (by decide) (by decide) (Nat.le_of_ble_eq_true rfl) rfl rfl ⟨Nat.le_of_ble_eq_true rfl, Nat.le_of_ble_eq_true rfl⟩ dX6_init_36 (fun q12 H Z => ?_)
  replace Z := ls_mv Z
  have Z : LSt G ([(h0, .inr (6, [.ref q1, .ref q6, .ref q11, .null, .null])), (q11, .inl (G.2.1 4, 2, .inr (.inr (.inr (.inr (fun _ => none)))))), (q12, .inl (G.2.1 1, 2, .inl (fun _ => 0)))] ++ (stL G a4 ++ svL G q6 r9 a10)) A s.heap H locs := Z
  refine n_putF (j := 3) (q0 := 0) (ty := tyX6 3) (v := .ref q12) X hin Z (iB6 _) tyX6_ok nmX6 rfl rfl (by decide) rfl (List.mem_cons_of_mem _ mB267) rfl rfl (by decide +kernel) rfl rfl (Nat.le_of_ble_eq_true rfl) dX6_init_38 (fun H locs Z => ?_)
  have Z : LSt G ([(h0, .inr (6, [.ref q1, .ref q6, .ref q11, .ref q12, .null])), (q11, .inl (G.2.1 4, 2, .inr (.inr (.inr (.inr (fun _ => none)))))), (q12, .inl (G.2.1 1, 2, .inl (fun _ => 0)))] ++ (stL G a4 ++ svL G q6 r9 a10)) A s.heap H locs := Z
  refine lv_aload_n hx hb dX6_init_41 rfl (lv_at hl 0 rfl) ?_
  refine n_new (ci := 3) (fs := [.int 0, .int 0, .null, .int 0, .null]) (c1 := 124) (s1 := 10833) X Z (iB3 _) tyX3 tyX3_ok (List.mem_cons_of_mem _ mB268) (List.mem_cons_of_mem _ mB269) (List.mem_cons_of_mem _ mB270) rfl (fun j hj => by rcases (show j = 0 ∨ j = 1 ∨ j = 2 ∨ j = 3 ∨ j = 4 by omega) with rfl | rfl | rfl | rfl | rfl <;> rfl) rfl rfl ⟨Nat.le_of_ble_eq_true rfl, Nat.le_of_ble_eq_true rfl⟩ dX6_init_42 (fun q13 H Z => ?_)
  refine lv_dup hx hb dX6_init_45 rfl ?_
  refine n_ctorN (b := [(h0, .inr (6, [.ref q1, .ref q6, .ref q11, .ref q12, .null])), (q11, .inl (G.2.1 4, 2, .inr (.inr (.inr (.inr (fun _ => none)))))), (q12, .inl (G.2.1 1, 2, .inl (fun _ => 0)))] ++ (stL G a4 ++ svL G q6 r9 a10)) (wc := [(q13, .inr (3, [.int 0, .int 0, .null, .int 0, .null]))]) (rest := [.ref q13, .ref h0]) (c1 := 126) (s1 := 10916) X Z (cX3_init_c l q13) (goo0 mB238) rfl (List.mem_cons_of_mem _ mB270) X.2.2.2.2.2.2.2.2.2.1 (List.mem_cons_of_mem _ mB275) rfl (by decide +kernel) ⟨Nat.le_of_ble_eq_true rfl, Nat.le_of_ble_eq_true rfl⟩ rfl rfl ⟨Nat.le_of_ble_eq_true rfl, Nat.le_of_ble_eq_true rfl⟩ hl.1 (Nat.le_of_ble_eq_true rfl) dX6_init_46 (fun w14 hw15 H locs Z => ?_)
  obtain ⟨v16, v17, rfl⟩ := hw15
  replace Z := ls_mv Z
  have Z : LSt G ([(h0, .inr (6, [.ref q1, .ref q6, .ref q11, .ref q12, .null])), (q11, .inl (G.2.1 4, 2, .inr (.inr (.inr (.inr (fun _ => none)))))), (q12, .inl (G.2.1 1, 2, .inl (fun _ => 0))), (q13, .inr (3, [.int 0, .int 0, .ref v16, .int 0, .ref v17])), (v16, .inl (G.2.1 0, 3, .inl (fun _ => 0))), (v17, .inl (G.2.1 2, 80, .inl (fun _ => 0)))] ++ (stL G a4 ++ svL G q6 r9 a10)) A s.heap H locs := Z
  refine n_putF (j := 4) (q0 := 0) (ty := tyX6 4) (v := .ref q13) X hin Z (iB6 _) tyX6_ok nmX6 rfl rfl (by decide) rfl (List.mem_cons_of_mem _ mB271) rfl rfl (by decide +kernel) rfl rfl (Nat.le_of_ble_eq_true rfl) dX6_init_49 (fun H locs Z => ?_)
  have Z : LSt G ([(h0, .inr (6, [.ref q1, .ref q6, .ref q11, .ref q12, .ref q13])), (q11, .inl (G.2.1 4, 2, .inr (.inr (.inr (.inr (fun _ => none)))))), (q12, .inl (G.2.1 1, 2, .inl (fun _ => 0))), (q13, .inr (3, [.int 0, .int 0, .ref v16, .int 0, .ref v17])), (v16, .inl (G.2.1 0, 3, .inl (fun _ => 0))), (v17, .inl (G.2.1 2, 80, .inl (fun _ => 0)))] ++ (stL G a4 ++ svL G q6 r9 a10)) A s.heap H locs := Z
  refine lv_iconst (v := 0) hx hb dX6_init_52 (by decide) ?_
  refine lv_istore_n (lv' := [(1, .int 0), (0, .ref h0)]) hx hb dX6_init_53 rfl hl (by decide) rfl (fun ls hl => ?_)
  refine lv_iload_n hx hb dX6_init_54 rfl (lv_at hl 0 rfl) ?_
  refine lv_iconst (v := 2) hx hb dX6_init_55 (by decide) ?_
  refine lv_icmp_ge (tgt := 78) hx hb dX6_init_56 (by decide) (fun c18 => ?_) (fun c18 => ?_)
  · first | exact absurd c18 (by decide) | exact absurd (by decide) c18
  refine lv_aload_n hx hb dX6_init_59 rfl (lv_at hl 1 rfl) ?_
  refine n_get (j := 2) (q0 := 0) (v := .ref q11) X Z (iB6 _) rfl rfl (by decide) rfl (List.mem_cons_of_mem _ mB265) rfl dX6_init_60 ?_
  refine lv_iload_n hx hb dX6_init_63 rfl (lv_at hl 0 rfl) ?_
  refine n_new (ci := 2) (fs := [.int 0, .int 0, .int 0, .null, .null, .null]) (c1 := 127) (s1 := 10922) X Z (iB2 _) tyX2 tyX2_ok (List.mem_cons_of_mem _ mB259) (List.mem_cons_of_mem _ mB42) (List.mem_cons_of_mem _ mB43) rfl (fun j hj => by rcases (show j = 0 ∨ j = 1 ∨ j = 2 ∨ j = 3 ∨ j = 4 ∨ j = 5 by omega) with rfl | rfl | rfl | rfl | rfl | rfl <;> rfl) rfl rfl ⟨Nat.le_of_ble_eq_true rfl, Nat.le_of_ble_eq_true rfl⟩ dX6_init_64 (fun q19 H Z => ?_)
  refine lv_dup hx hb dX6_init_67 rfl ?_
  refine n_ctorI (b := [(h0, .inr (6, [.ref q1, .ref q6, .ref q11, .ref q12, .ref q13])), (q11, .inl (G.2.1 4, 2, .inr (.inr (.inr (.inr (fun _ => none)))))), (q12, .inl (G.2.1 1, 2, .inl (fun _ => 0))), (q13, .inr (3, [.int 0, .int 0, .ref v16, .int 0, .ref v17])), (v16, .inl (G.2.1 0, 3, .inl (fun _ => 0))), (v17, .inl (G.2.1 2, 80, .inl (fun _ => 0)))] ++ (stL G a4 ++ svL G q6 r9 a10)) (wc := [(q19, .inr (2, [.int 0, .int 0, .int 0, .null, .null, .null]))]) (rest := [.ref q19, .int 0, .ref q11]) (c1 := 143) (s1 := 12461) X Z (cX2_init_c l q19) (goo0 mB38) rfl (List.mem_cons_of_mem _ mB43) (List.mem_cons_of_mem _ mB272) (List.mem_cons_of_mem _ mB45) rfl (by decide +kernel) ⟨Nat.le_of_ble_eq_true rfl, Nat.le_of_ble_eq_true rfl⟩ rfl rfl ⟨Nat.le_of_ble_eq_true rfl, Nat.le_of_ble_eq_true rfl⟩ hl.1 (Nat.le_of_ble_eq_true rfl) dX6_init_68 (fun w20 hw21 H locs Z => ?_)
  obtain ⟨a22, ha23, rfl⟩ := hw21
  replace Z := ls_as Z
  have Z : LSt G ([(h0, .inr (6, [.ref q1, .ref q6, .ref q11, .ref q12, .ref q13])), (q11, .inl (G.2.1 4, 2, .inr (.inr (.inr (.inr (fun _ => none)))))), (q12, .inl (G.2.1 1, 2, .inl (fun _ => 0))), (q13, .inr (3, [.int 0, .int 0, .ref v16, .int 0, .ref v17])), (v16, .inl (G.2.1 0, 3, .inl (fun _ => 0))), (v17, .inl (G.2.1 2, 80, .inl (fun _ => 0)))] ++ (stL G a4 ++ svL G q6 r9 a10 ++ stL G a22)) A s.heap H locs := Z
  refine n_astq (q0 := 1) (ci := 2) (v := q19) X Z rfl rfl (by rw [← ha23]; exact ap_r (a := [(h0, .inr (6, [.ref q1, .ref q6, .ref q11, .ref q12, .ref q13])), (q11, .inl (G.2.1 4, 2, .inr (.inr (.inr (.inr (fun _ => none)))))), (q12, .inl (G.2.1 1, 2, .inl (fun _ => 0))), (q13, .inr (3, [.int 0, .int 0, .ref v16, .int 0, .ref v17])), (v16, .inl (G.2.1 0, 3, .inl (fun _ => 0))), (v17, .inl (G.2.1 2, 80, .inl (fun _ => 0)))]) (ap_r (a := stL G a4 ++ svL G q6 r9 a10) (st_0 G a22))) rfl (by unfold vp_in; decide) dX6_init_71 (fun H locs Z => ?_)
  have Z : LSt G ([(h0, .inr (6, [.ref q1, .ref q6, .ref q11, .ref q12, .ref q13])), (q11, .inl (G.2.1 4, 2, .inr (.inr (.inr (.inr (va_up (fun _ => none) (0 : Int32).toNatClampNeg (some q19))))))), (q12, .inl (G.2.1 1, 2, .inl (fun _ => 0))), (q13, .inr (3, [.int 0, .int 0, .ref v16, .int 0, .ref v17])), (v16, .inl (G.2.1 0, 3, .inl (fun _ => 0))), (v17, .inl (G.2.1 2, 80, .inl (fun _ => 0)))] ++ (stL G a4 ++ svL G q6 r9 a10 ++ stL G a22)) A s.heap H locs := Z
  refine lv_iinc (v := 1) (lv' := [(1, .int 1), (0, .ref h0)]) hx hb dX6_init_72 hl (k := 0) rfl (by decide) (by decide) rfl (fun ls hl => ?_)
  refine lv_goto (tgt := 54) hx hb dX6_init_75 (by decide) ?_
  refine lv_iload_n hx hb dX6_init_54 rfl (lv_at hl 0 rfl) ?_
  refine lv_iconst (v := 2) hx hb dX6_init_55 (by decide) ?_
  refine lv_icmp_ge (tgt := 78) hx hb dX6_init_56 (by decide) (fun c24 => ?_) (fun c24 => ?_)
  · first | exact absurd c24 (by decide) | exact absurd (by decide) c24
  refine lv_aload_n hx hb dX6_init_59 rfl (lv_at hl 1 rfl) ?_
  refine n_get (j := 2) (q0 := 0) (v := .ref q11) X Z (iB6 _) rfl rfl (by decide) rfl (List.mem_cons_of_mem _ mB265) rfl dX6_init_60 ?_
  refine lv_iload_n hx hb dX6_init_63 rfl (lv_at hl 0 rfl) ?_
  refine n_new (ci := 2) (fs := [.int 0, .int 0, .int 0, .null, .null, .null]) (c1 := 144) (s1 := 12467) X Z (iB2 _) tyX2 tyX2_ok (List.mem_cons_of_mem _ mB259) (List.mem_cons_of_mem _ mB42) (List.mem_cons_of_mem _ mB43) rfl (fun j hj => by rcases (show j = 0 ∨ j = 1 ∨ j = 2 ∨ j = 3 ∨ j = 4 ∨ j = 5 by omega) with rfl | rfl | rfl | rfl | rfl | rfl <;> rfl) rfl rfl ⟨Nat.le_of_ble_eq_true rfl, Nat.le_of_ble_eq_true rfl⟩ dX6_init_64 (fun q25 H Z => ?_)
  refine lv_dup hx hb dX6_init_67 rfl ?_
  refine n_ctorI (b := [(h0, .inr (6, [.ref q1, .ref q6, .ref q11, .ref q12, .ref q13])), (q11, .inl (G.2.1 4, 2, .inr (.inr (.inr (.inr (va_up (fun _ => none) (0 : Int32).toNatClampNeg (some q19))))))), (q12, .inl (G.2.1 1, 2, .inl (fun _ => 0))), (q13, .inr (3, [.int 0, .int 0, .ref v16, .int 0, .ref v17])), (v16, .inl (G.2.1 0, 3, .inl (fun _ => 0))), (v17, .inl (G.2.1 2, 80, .inl (fun _ => 0)))] ++ (stL G a4 ++ svL G q6 r9 a10 ++ stL G a22)) (wc := [(q25, .inr (2, [.int 0, .int 0, .int 0, .null, .null, .null]))]) (rest := [.ref q25, .int 1, .ref q11]) (c1 := 160) (s1 := 14006) X Z (cX2_init_c l q25) (goo0 mB38) rfl (List.mem_cons_of_mem _ mB43) (List.mem_cons_of_mem _ mB272) (List.mem_cons_of_mem _ mB45) rfl (by decide +kernel) ⟨Nat.le_of_ble_eq_true rfl, Nat.le_of_ble_eq_true rfl⟩ rfl rfl ⟨Nat.le_of_ble_eq_true rfl, Nat.le_of_ble_eq_true rfl⟩ hl.1 (Nat.le_of_ble_eq_true rfl) dX6_init_68 (fun w26 hw27 H locs Z => ?_)
  obtain ⟨a28, ha29, rfl⟩ := hw27
  replace Z := ls_as Z
  have Z : LSt G ([(h0, .inr (6, [.ref q1, .ref q6, .ref q11, .ref q12, .ref q13])), (q11, .inl (G.2.1 4, 2, .inr (.inr (.inr (.inr (va_up (fun _ => none) (0 : Int32).toNatClampNeg (some q19))))))), (q12, .inl (G.2.1 1, 2, .inl (fun _ => 0))), (q13, .inr (3, [.int 0, .int 0, .ref v16, .int 0, .ref v17])), (v16, .inl (G.2.1 0, 3, .inl (fun _ => 0))), (v17, .inl (G.2.1 2, 80, .inl (fun _ => 0)))] ++ (stL G a4 ++ svL G q6 r9 a10 ++ stL G a22 ++ stL G a28)) A s.heap H locs := Z
  refine n_astq (q0 := 1) (ci := 2) (v := q25) X Z rfl rfl (by rw [← ha29]; exact ap_r (a := [(h0, .inr (6, [.ref q1, .ref q6, .ref q11, .ref q12, .ref q13])), (q11, .inl (G.2.1 4, 2, .inr (.inr (.inr (.inr (va_up (fun _ => none) (0 : Int32).toNatClampNeg (some q19))))))), (q12, .inl (G.2.1 1, 2, .inl (fun _ => 0))), (q13, .inr (3, [.int 0, .int 0, .ref v16, .int 0, .ref v17])), (v16, .inl (G.2.1 0, 3, .inl (fun _ => 0))), (v17, .inl (G.2.1 2, 80, .inl (fun _ => 0)))]) (ap_r (a := stL G a4 ++ svL G q6 r9 a10 ++ stL G a22) (st_0 G a28))) rfl (by unfold vp_in; decide) dX6_init_71 (fun H locs Z => ?_)
  have Z : LSt G ([(h0, .inr (6, [.ref q1, .ref q6, .ref q11, .ref q12, .ref q13])), (q11, .inl (G.2.1 4, 2, .inr (.inr (.inr (.inr (va_up (va_up (fun _ => none) (0 : Int32).toNatClampNeg (some q19)) (1 : Int32).toNatClampNeg (some q25))))))), (q12, .inl (G.2.1 1, 2, .inl (fun _ => 0))), (q13, .inr (3, [.int 0, .int 0, .ref v16, .int 0, .ref v17])), (v16, .inl (G.2.1 0, 3, .inl (fun _ => 0))), (v17, .inl (G.2.1 2, 80, .inl (fun _ => 0)))] ++ (stL G a4 ++ svL G q6 r9 a10 ++ stL G a22 ++ stL G a28)) A s.heap H locs := Z
  refine lv_iinc (v := 2) (lv' := [(1, .int 2), (0, .ref h0)]) hx hb dX6_init_72 hl (k := 0) rfl (by decide) (by decide) rfl (fun ls hl => ?_)
  refine lv_goto (tgt := 54) hx hb dX6_init_75 (by decide) ?_
  refine lv_iload_n hx hb dX6_init_54 rfl (lv_at hl 0 rfl) ?_
  refine lv_iconst (v := 2) hx hb dX6_init_55 (by decide) ?_
  refine lv_icmp_ge (tgt := 78) hx hb dX6_init_56 (by decide) (fun c30 => ?_) (fun c30 => ?_)
  rotate_left
  · first | exact absurd c30 (by decide) | exact absurd (by decide) c30
  exact kI _ _ _ _ _ dX6_init_78 ⟨q11, q12, q13, v16, v17, q6, r9, a4, a22, a28, a10, by unfold x6L; simp only [ha5, ha23, ha29]⟩ Z
end GN
