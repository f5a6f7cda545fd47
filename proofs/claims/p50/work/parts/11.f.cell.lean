/-! a cell of the script -/
abbrev wmL_cell : List Cond := Cond.code yL_cell cL_cell 2 (some .int) :: wA0
/-- what the law reads at the place e: the script's cell, or a number made of the place -/
def cellv (xs : Nat → Int32) (L : Nat) (k : Int32) : Int32 := if Int32.ofNat L ≤ k then ((7919 : Int32) * (k + 3)) * (k + 11) else xs k.toNatClampNeg
def cCell (l : Launch) (b L : Nat) (xs : Nat → Int32) (k r0 : Int32) : Prop := ∀ sz : Nat, Met l yL_cell wmL_cell { frames := 0, cells := 0, slots := 0, locals := 0 } (va_Pc [.ref b, .int k] (fun U => U.heap.size = sz ∧ b < sz ∧ va_X b L xs U U.heap)) (va_Qi (fun (r : Int32) (_ : Unit) => r = r0) (fun _ _ => True) (fun q => sz ≤ q)) 0 0 (fun q => sz ≤ q)
set_option maxHeartbeats 4000000 in
theorem cL_cell_c (l : Launch) {b L e : Nat} (xs : Nat → Int32) (hL : L ≤ 260) (he : e < 90) : cCell l b L xs (nI e) (cellv xs L (nI e)) := by
  intro sz
  refine va_MetF (cc := cL_cell) (maxL := 2) (ret := some .int) (by decide +kernel) rfl ?_
  intro p e9 s m args below meth c s₁ B hml hv
  obtain ⟨rfl, hsz, hbs, hX⟩ := hv
  subst hsz
  have hl := lv_entry [.ref b, .int (nI e)] (n := 2) (Nat.le_of_ble_eq_true rfl)
  rw [lg_entry_eq]
  revert hl
  generalize (lg_sl [Value.ref b, Value.int (nI e)] ++ List.replicate (2 - (lg_sl [Value.ref b, Value.int (nI e)]).length) Slot.unset).toArray = ls
  intro hl
  have hx := B.exec
  have hb := B.bytes
  have hlocks := B.notSynchronized
  have hS : va_S (fun q => s.heap.size ≤ q) s.heap s.heap [] := va_S.rf
  have hbA : ¬ (fun q => s.heap.size ≤ q) b := Nat.not_le.mpr hbs
  refine lv_iload_n hx hb dL_cell_0 rfl (lv_at hl 1 rfl) ?_
  refine lv_aload_n hx hb dL_cell_1 rfl (lv_at hl 0 rfl) ?_
  refine va_slen hx hb hX hbs hbA hS dL_cell_2 ?_
  have fin : ∀ v : Int32, v = cellv xs L (nI e) → W p l e9 { frames := 0, cells := 0, slots := 0, locals := 0 } s m #[.ref b, .int (nI e)] below meth c s.heap [] 0 0 (MQ below (va_Qi (fun (r : Int32) (_ : Unit) => r = cellv xs L (nI e)) (fun _ _ => True) (fun q => s.heap.size ≤ q)) #[.ref b, .int (nI e)] s 0 0 (fun q => s.heap.size ≤ q)) (F0 m 24 ls [.int v]) := fun v hv => by
    rw [hv]
    exact W.zret B.exec B.bytes B.returns (vp_nar_int _) (fun t ht hW => ⟨⟨_, (), rfl, rfl, trivial⟩, hS.F ht⟩) hS.2.2 dL_cell_24
  refine lv_icmp_ge (tgt := 12) hx hb dL_cell_3 (by decide) (fun c1 => ?_) (fun c1 => ?_)
  · refine lv_sipush (v := (7919 : Int32)) hx hb dL_cell_12 (by decide) ?_
    refine lv_iload_n hx hb dL_cell_15 rfl (lv_at hl 1 rfl) ?_
    refine lv_iconst (v := (3 : Int32)) hx hb dL_cell_16 (by decide) ?_
    refine lv_iadd hx hb dL_cell_17 ?_
    refine lv_imul hx hb dL_cell_18 ?_
    refine lv_iload_n hx hb dL_cell_19 rfl (lv_at hl 1 rfl) ?_
    refine lv_bipush (v := (11 : Int32)) hx hb dL_cell_20 (by decide) ?_
    refine lv_iadd hx hb dL_cell_22 ?_
    refine lv_imul hx hb dL_cell_23 ?_
    exact fin _ (by unfold cellv; rw [if_pos c1])
  · have hlt : e < L := Nat.not_le.mp fun q => c1 (nI_le (a := L) (b := e) q (by omega))
    refine lv_aload_n hx hb dL_cell_6 rfl (lv_at hl 0 rfl) ?_
    refine lv_iload_n hx hb dL_cell_7 rfl (lv_at hl 1 rfl) ?_
    refine va_sld hx hb hX hbs hbA hS (vp_in_nI (by omega) (by omega)) dL_cell_8 ?_
    refine lv_goto (tgt := 24) hx hb dL_cell_9 (by decide) ?_
    exact fin _ (by unfold cellv; rw [if_neg c1])
section GL
variable {p : Program} {l : Launch} {e : Env} {R : Room} {s : State} {m : MethodId} {args : Array Value} {below : List Frame} {meth : Method} {c : Code} {H : Heap} {locs : List Loc} {cells slots : Nat} {Q : State → Prop} {cc : ByteArray} {nL : Nat} {Ts : List Cond} {own : String} {ret : Option FieldType} {G : LY} {A : Nat → Prop} {g : Mem} {ls : Array Slot} {rest : List Value} {pc : Nat}
theorem l_callC {index b L : Nat} {xs : Nat → Int32} {k r0 : Int32} (X : gC p s m args meth c cc nL Ts own ret G A) (Z : WS wD G g A s.heap H locs) (hX : va_X b L xs s s.heap) (hbl : b < s.heap.size) (hbA : ¬ A b) (hM : cCell l b L xs k r0) (hT : GoodIn Ts (va_wsS own index yL_cell wmL_cell)) (hR : 0 + 1 ≤ R.frames ∧ 8 + (2 + 11) + 0 ≤ R.locals) (hcs : cells ≤ R.cells ∧ slots ≤ R.slots) (hsz : ls.size = nL) (hr8 : (rest.map fun v => v.category).sum ≤ 8) (hdg : decode cc pc = .ok (.invokestatic index, 3))
    (kk : ∀ (H1 : Heap) (locs1 : List Loc), WS wD G g A s.heap H1 locs1 → W p l e R s m args below meth c H1 locs1 cells slots Q (F0 m (pc + 3) ls (.int r0 :: rest))) : W p l e R s m args below meth c H locs cells slots Q (F0 m pc ls (.int k :: .ref b :: rest)) := by
  have hA : ∀ q, H.size ≤ q → A q := fun q h => X.2.2.2.2.2.2.1 q (Nat.le_trans Z.2.2.1 h)
  have hbl2 : FrameBlind (va_Pc [.ref b, .int k] (fun U => U.heap.size = H.size ∧ b < H.size ∧ va_X b L xs U U.heap)) := fun a U g9 mk q => ⟨q.1, q.2.1, q.2.2.1, va_X.moved (u := U) (U := U.calling g9 mk a) (Vm.Alike.refl U.vm) q.2.2.2⟩
  refine va_calli (va_runS (As := [.ref b, .int k]) (rest := rest) ⟨X.1, X.2.1, X.2.2.1, X.2.2.2.1, X.2.2.2.2.1⟩ (hM H.size) (va_cwS 2 X.2.2.2.2.1 hT rfl rfl rfl (by decide +kernel) hR) ⟨hbl2, fun U hU hW => ⟨rfl, by rw [hU], Nat.lt_of_lt_of_le hbl Z.2.2.1, va_X.moved hW.alike (by rw [hU]; exact hX.kept (Z.2.2.2.1 b hbl hbA))⟩⟩ rfl rfl hsz rfl (lv_room hr8) hdg hcs) Z.2.2 (fun q _ h => hA q h) hA (fun r u t H1 locs1 ht hvm hw2 hB hz1 hk1 hS => ?_)
  subst hw2
  refine kk H1 locs1 ⟨Z.1.kept fun k q hk => ?_, Z.2.1, hS⟩
  have h9 := (Z.1 k q hk).lt
  exact hk1 _ h9 (Nat.not_le.mpr h9)
end GL
