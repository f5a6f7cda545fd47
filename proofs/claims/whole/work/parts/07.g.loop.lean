/-! THE CLAIM OUT OF ONE WALK OF THE LAW'S BODY. Your part is whole_start (and what it stands on); all else here is the same for every law, but numbers. -/
def R_law : String := "CommitWaitStoreLaw"
def lw_P (b : Addr) (xs : List Int32) (args : Array Value) (s : State) : Prop := args = #[.ref b] ∧ s.IntsAt b xs ∧ xs.length ≤ 2048 ∧ (Jvm.Cond.and given_1 narrow_1).before args s = true
def lw_Q (_ : Array Value) (s : State) (o : Outcome) (t : State) : Prop := o = .returned (some (.int 1)) ∧ Framed s o t [] 601024 7293034
def lw_Z (below : List Frame) (a : Array Value) (s : State) : State → Prop := fun t => ∃ o, t.status = .running ∧ Ended t below o ∧ lw_Q a s o t
/-- the law's own end, with 1 on the stack, nothing written that was there before, its room as the claim has it -/
theorem lw_ret {p : Program} {l : Launch} {e : Env} {s : State} {m : MethodId} {below : List Frame} {meth : Method} {c : Code} {b : Nat} (hx : p.tables.exec = Jvm.exec) (hb : c.code = code) (hr : meth.sig.returnType = ret) (hlocks : meth.locks = false) {pc : Nat} {H : Heap} {ls : Array Slot} (hdg : decode code pc = .ok (.ireturn, 1)) : W p l e room_1 s m #[Value.ref b] below meth c H [] 601024 7293034 (lw_Z below #[Value.ref b] s) (F0 m pc ls [.int 1]) := by
  intro T hT X
  obtain ⟨fs, hret, hrun, hended, hW, hframe⟩ := X.leave (v := some (.int 1)) (hlocks := hlocks) (fun h => by rw [hr] at h; cases h)
  have hmeth' : T.vm.method? m = some meth := X.method'
  refine ⟨T.setFrames fs, ?_, .returned (some (.int 1)), hrun, hended, rfl, ⟨_, rfl⟩, hW, hframe⟩
  jvm_step X.here [X.here.top, hx, hb, hdg, hmeth', hr, ret, narrow_b1]
  (try refine ⟨rfl, ?_⟩); (try refine ⟨rfl, ?_⟩)
  first | (intro acts; rw [hret _ acts rfl rfl rfl]) | rw [hret _ _ rfl rfl rfl]
  exact Steps.refl _
/-- what holds at the law's entry: the machine, the code, the tables' words (any of lw_tbl by 'hts w (by decide +kernel)'), the script of L ints xs at the cell b, what the Statement gives of the start (any of its parts by flat_of_before) -/
def lw_At (p : Program) (s : State) (m : MethodId) (meth : Method) (c : Code) (b L : Nat) (xs : Nat → Int32) : Prop :=
  p.tables.exec = Jvm.exec ∧ c.code = code ∧ meth.sig.returnType = ret ∧ c.maxLocals = 7 ∧ s.vm.findClass R_law = some m.cls ∧ (∀ w ∈ lw_tbl, w.before #[Value.ref b] s = true) ∧ va_X b L xs s s.heap ∧ b < s.heap.size ∧ meth.locks = false ∧ (Jvm.Cond.and given_1 narrow_1).before #[Value.ref b] s = true
theorem ov_ok : True := trivial
theorem law_le {L j : Nat} (hL : L ≤ 2048) (hj : 4 * j ≤ 2052) (h : ¬ nI L - 4 < nI (4 * j)) : 4 * j + 4 ≤ L := by
  have e1 : (nI L - nI 4).toInt = (L : Int) - 4 := pk_sub_toInt (by omega) (by decide)
  have e2 : (nI (4 * j)).toInt = ((4 * j : Nat) : Int) := nI_toInt (by omega)
  have e3 : ¬ (nI L - nI 4) < nI (4 * j) := h
  rw [Int32.lt_iff_toInt_lt, e1, e2] at e3
  omega
theorem law_in {L j k : Nat} (hL : L ≤ 2048) (h : 4 * j + 4 ≤ L) (hk : k < 4) : vp_in (nI (4 * j) + nI k) L := by
  rw [nI_add]
  exact vp_in_nI (by omega) (by omega)
section GW
variable {p : Program} {l : Launch} {e : Env} {s : State} {m : MethodId} {below : List Frame} {meth : Method} {c : Code} {G : LY} {A : Nat → Prop} {b L : Nat} {xs : Nat → Int32} {Rel : Nat → Mem → Mem → Prop} {n : Nat}
set_option maxHeartbeats 8000000 in
set_option maxRecDepth 100000 in
/-- THE LAW'S LOOP -/
theorem law_loop (hS : ∀ j, j ≤ 512 → Sims (Rel j) (Rel (j + 1)) n) (hmono : ∀ j gc gm, Rel j gc gm → Rel (j + 1) gc gm) (hst : l.stackTraces = false) (hL : L ≤ 2048) (X : gC p s m #[Value.ref b] meth c cL_law 7 (Cond.initialized RX6 :: wA0) RL ret G A) (hX : va_X b L xs s s.heap) (hbl : b < s.heap.size) (hbA : ¬ A b) (hAe : ∀ q, A q → s.heap.size ≤ q) : ∀ (d j : Nat), d + j = 520 → 4 * j ≤ 2052 → ∀ (gc gm : Mem) (ov : Nat → Int64) (H : Heap) (locs : List Loc) (ls : Array Slot), Rel j gc gm → LSt G (wLw G gc gm ov) A s.heap H locs → lv_has ls 7 [(0, .ref b), (1, .ref (G.1 160)), (2, .ref ((shG G).1 0)), (3, .ref (G.1 170)), (4, .int (nI (4 * j)))] → W p l e room_1 s m #[Value.ref b] below meth c H locs (1000 + 5 * j) (30000 + 30 * j) (lw_Z below #[Value.ref b] s) (F0 m 23 ls []) := by
  have hx := X.1
  have hb := X.2.1
  intro d
  induction d with
  | zero =>
    intro j h1 h2
    omega
  | succ d ih =>
    intro j h1 h2 gc gm ov H locs ls hR Z hl
    have hEnd : 4 * j + 4 ≤ L → ∀ (gc gm : Mem) (ov : Nat → Int64) (H : Heap) (locs : List Loc) (ls : Array Slot), Rel (j + 1) gc gm → LSt G (wLw G gc gm ov) A s.heap H locs → lv_has ls 7 [(0, .ref b), (1, .ref (G.1 160)), (2, .ref ((shG G).1 0)), (3, .ref (G.1 170)), (4, .int (nI (4 * j)))] → W p l e room_1 s m #[Value.ref b] below meth c H locs (1000 + 5 * j + 5) (30000 + 30 * j + 30) (lw_Z below #[Value.ref b] s) (F0 m 2538 ls []) := by
      intro hle gc gm ov H locs ls hR Z hl
      refine lv_iinc (v := nI (4 * (j + 1))) (lv' := [(4, .int (nI (4 * (j + 1)))), (0, .ref b), (1, .ref (G.1 160)), (2, .ref ((shG G).1 0)), (3, .ref (G.1 170))]) hx hb dL_law_2538 hl (k := 4) rfl (nI_add (4 * j) 4) (by decide) rfl (fun ls hl => ?_)
      refine lv_goto (tgt := 23) hx hb dL_law_2541 (by decide) ?_
      exact ih (j + 1) (by omega) (by omega) gc gm ov H locs ls hR Z (lv_sub hl [1, 2, 3, 4, 0] rfl)
    have hcs : 4 * j + 4 ≤ L → (1000 + 5 * j) + 5 ≤ room_1.cells ∧ (30000 + 30 * j) + 30 ≤ room_1.slots := by
      intro hle
      show (1000 + 5 * j) + 5 ≤ 601024 ∧ (30000 + 30 * j) + 30 ≤ 7293034
      omega
    refine lv_iload hx hb dL_law_23 (lv_at hl 4 rfl) ?_
    refine lv_aload_n hx hb dL_law_25 rfl (lv_at hl 0 rfl) ?_
    refine va_slen hx hb hX hbl hbA Z.2.2 dL_law_26 ?_
    refine lv_iconst (v := 4) hx hb dL_law_27 (by decide) ?_
    refine lv_isub hx hb dL_law_28 ?_
    refine lv_icmp_gt (tgt := 2544) hx hb dL_law_29 (by decide) (fun c1 => ?_) (fun c1 => ?_)
    · refine lv_iconst (v := 1) hx hb dL_law_2544 (by decide) ?_
      refine va_forget (fun q hq => hAe _ (Z.2.2.2.2 q hq)) ?_
      refine W.widen (k := 601024) (n := 7293034) (by omega) (by omega) ?_
      exact lw_ret hx hb X.2.2.2.2.2.2.2.2.1 X.2.2.2.2.2.2.2.1 dL_law_2545
    have hle : 4 * j + 4 ≤ L := law_le hL h2 c1
    have hb1 : vp_in (nI (4 * j) + 1) L := law_in (k := 1) hL hle (by decide)
    have hb2 : vp_in (nI (4 * j) + 2) L := law_in (k := 2) hL hle (by decide)
    have hb3 : vp_in (nI (4 * j) + 3) L := law_in (k := 3) hL hle (by decide)
    have hkk := hEnd hle
    have hSj := hS j (by omega)
    refine lv_aload_n hx hb dL_law_32 rfl (lv_at hl 0 rfl) ?_
    refine lv_iload hx hb dL_law_33 (lv_at hl 4 rfl) ?_
    refine l_sld (v := xs (nI (4 * j)).toNatClampNeg) hx hb hX hbl hbA Z.2.2 (vp_in_nI (by omega) (by omega)) rfl dL_law_35 ?_
    refine lv_bipush (v := 63) hx hb dL_law_36 (by decide) ?_
    refine lv_iand hx hb dL_law_38 ?_
    generalize xs (nI (4 * j)).toNatClampNeg &&& 63 = w
    by_cases z0 : w = 0
    · refine lv_tableIn (tgt := 240) hx hb dL_law_39 (by rw [z0]; decide) (by rw [z0]; decide) (by rw [z0]; rfl) (by decide) ?_
      exact stp_begin hSj.1 hst X hX hbl hbA hb1 hb2 hb3 hR (hcs hle) hkk H locs ls Z (lv_sub hl [0, 1, 2, 3, 4] rfl)
    by_cases z1 : w = 1
    · refine lv_tableIn (tgt := 296) hx hb dL_law_39 (by rw [z1]; decide) (by rw [z1]; decide) (by rw [z1]; rfl) (by decide) ?_
      exact stp_read hSj.2.1 hst X hX hbl hbA hb1 hb2 hb3 hR (hcs hle) hkk H locs ls Z (lv_sub hl [0, 1, 2, 3, 4] rfl)
    by_cases z2 : w = 2
    · refine lv_tableIn (tgt := 364) hx hb dL_law_39 (by rw [z2]; decide) (by rw [z2]; decide) (by rw [z2]; rfl) (by decide) ?_
      exact stp_write hSj.2.2.1 hst X hX hbl hbA hb1 hb2 hb3 hR (hcs hle) hkk H locs ls Z (lv_sub hl [0, 1, 2, 3, 4] rfl)
    by_cases z3 : w = 3
    · refine lv_tableIn (tgt := 444) hx hb dL_law_39 (by rw [z3]; decide) (by rw [z3]; decide) (by rw [z3]; rfl) (by decide) ?_
      exact stp_commit hSj.2.2.2.1 hst X hX hbl hbA hb1 hb2 hb3 hR (hcs hle) hkk H locs ls Z (lv_sub hl [0, 1, 2, 3, 4] rfl)
    by_cases z4 : w = 4
    · refine lv_tableIn (tgt := 500) hx hb dL_law_39 (by rw [z4]; decide) (by rw [z4]; decide) (by rw [z4]; rfl) (by decide) ?_
      exact stp_abort hSj.2.2.2.2.1 hst X hX hbl hbA hb1 hb2 hb3 hR (hcs hle) hkk H locs ls Z (lv_sub hl [0, 1, 2, 3, 4] rfl)
    by_cases z5 : w = 5
    · refine lv_tableIn (tgt := 556) hx hb dL_law_39 (by rw [z5]; decide) (by rw [z5]; decide) (by rw [z5]; rfl) (by decide) ?_
      exact stp_advance hSj.2.2.2.2.2.1 hst X hX hbl hbA hb1 hb2 hb3 hR (hcs hle) hkk H locs ls Z (lv_sub hl [0, 1, 2, 3, 4] rfl)
    by_cases z6 : w = 6
    · refine lv_tableIn (tgt := 612) hx hb dL_law_39 (by rw [z6]; decide) (by rw [z6]; decide) (by rw [z6]; rfl) (by decide) ?_
      exact stp_synchronize hSj.2.2.2.2.2.2.1 hst X hX hbl hbA hb1 hb2 hb3 hR (hcs hle) hkk H locs ls Z (lv_sub hl [0, 1, 2, 3, 4] rfl)
    by_cases z7 : w = 7
    · refine lv_tableIn (tgt := 680) hx hb dL_law_39 (by rw [z7]; decide) (by rw [z7]; decide) (by rw [z7]; rfl) (by decide) ?_
      exact stp_setDrift hSj.2.2.2.2.2.2.2.1 hst X hX hbl hbA hb1 hb2 hb3 hR (hcs hle) hkk H locs ls Z (lv_sub hl [0, 1, 2, 3, 4] rfl)
    by_cases z8 : w = 8
    · refine lv_tableIn (tgt := 748) hx hb dL_law_39 (by rw [z8]; decide) (by rw [z8]; decide) (by rw [z8]; rfl) (by decide) ?_
      exact stp_setUncertainty hSj.2.2.2.2.2.2.2.2.1 hst X hX hbl hbA hb1 hb2 hb3 hR (hcs hle) hkk H locs ls Z (lv_sub hl [0, 1, 2, 3, 4] rfl)
    by_cases z9 : w = 9
    · refine lv_tableIn (tgt := 828) hx hb dL_law_39 (by rw [z9]; decide) (by rw [z9]; decide) (by rw [z9]; rfl) (by decide) ?_
      exact stp_snapshotRead hSj.2.2.2.2.2.2.2.2.2.1 hst X hX hbl hbA hb1 hb2 hb3 hR (hcs hle) hkk H locs ls Z (lv_sub hl [0, 1, 2, 3, 4] rfl)
    by_cases z10 : w = 10
    · refine lv_tableIn (tgt := 896) hx hb dL_law_39 (by rw [z10]; decide) (by rw [z10]; decide) (by rw [z10]; rfl) (by decide) ?_
      exact stp_appendText hSj.2.2.2.2.2.2.2.2.2.2.1 hst X hX hbl hbA hb1 hb2 hb3 hR (hcs hle) hkk H locs ls Z (lv_sub hl [0, 1, 2, 3, 4] rfl)
    by_cases z11 : w = 11
    · refine lv_tableIn (tgt := 952) hx hb dL_law_39 (by rw [z11]; decide) (by rw [z11]; decide) (by rw [z11]; rfl) (by decide) ?_
      exact stp_clearText hSj.2.2.2.2.2.2.2.2.2.2.2.1 hst X hX hbl hbA hb1 hb2 hb3 hR (hcs hle) hkk H locs ls Z (lv_sub hl [0, 1, 2, 3, 4] rfl)
    by_cases z12 : w = 12
    · refine lv_tableIn (tgt := 965) hx hb dL_law_39 (by rw [z12]; decide) (by rw [z12]; decide) (by rw [z12]; rfl) (by decide) ?_
      exact stp_errorPosition hSj.2.2.2.2.2.2.2.2.2.2.2.2.1 hst X hX hbl hbA hb1 hb2 hb3 hR (hcs hle) hkk H locs ls Z (lv_sub hl [0, 1, 2, 3, 4] rfl)
    by_cases z13 : w = 13
    · refine lv_tableIn (tgt := 978) hx hb dL_law_39 (by rw [z13]; decide) (by rw [z13]; decide) (by rw [z13]; rfl) (by decide) ?_
      exact stp_runText hSj.2.2.2.2.2.2.2.2.2.2.2.2.2.1 hst X hX hbl hbA hb1 hb2 hb3 hR (hcs hle) hkk H locs ls Z (lv_sub hl [0, 1, 2, 3, 4] rfl)
    by_cases z14 : w = 14
    · refine lv_tableIn (tgt := 1022) hx hb dL_law_39 (by rw [z14]; decide) (by rw [z14]; decide) (by rw [z14]; rfl) (by decide) ?_
      exact stp_undo hSj.2.2.2.2.2.2.2.2.2.2.2.2.2.2.1 hst X hX hbl hbA hb1 hb2 hb3 hR (hcs hle) hkk H locs ls Z (lv_sub hl [0, 1, 2, 3, 4] rfl)
    by_cases z15 : w = 15
    · refine lv_tableIn (tgt := 1066) hx hb dL_law_39 (by rw [z15]; decide) (by rw [z15]; decide) (by rw [z15]; rfl) (by decide) ?_
      exact stp_save hSj.2.2.2.2.2.2.2.2.2.2.2.2.2.2.2.1 hst X hX hbl hbA hb1 hb2 hb3 hR (hcs hle) hkk H locs ls Z (lv_sub hl [0, 1, 2, 3, 4] rfl)
    by_cases z16 : w = 16
    · refine lv_tableIn (tgt := 1122) hx hb dL_law_39 (by rw [z16]; decide) (by rw [z16]; decide) (by rw [z16]; rfl) (by decide) ?_
      exact stp_restore hSj.2.2.2.2.2.2.2.2.2.2.2.2.2.2.2.2.1 hst X hX hbl hbA hb1 hb2 hb3 hR (hcs hle) hkk H locs ls Z (lv_sub hl [0, 1, 2, 3, 4] rfl)
    by_cases z17 : w = 17
    · refine lv_tableIn (tgt := 1178) hx hb dL_law_39 (by rw [z17]; decide) (by rw [z17]; decide) (by rw [z17]; rfl) (by decide) ?_
      exact stp_trueTime hSj.2.2.2.2.2.2.2.2.2.2.2.2.2.2.2.2.2.1 hst X hX hbl hbA hb1 hb2 hb3 hR (hcs hle) hkk H locs ls Z (lv_sub hl [0, 1, 2, 3, 4] rfl)
    by_cases z18 : w = 18
    · refine lv_tableIn (tgt := 1191) hx hb dL_law_39 (by rw [z18]; decide) (by rw [z18]; decide) (by rw [z18]; rfl) (by decide) ?_
      exact stp_reading hSj.2.2.2.2.2.2.2.2.2.2.2.2.2.2.2.2.2.2.1 hst X hX hbl hbA hb1 hb2 hb3 hR (hcs hle) hkk H locs ls Z (lv_sub hl [0, 1, 2, 3, 4] rfl)
    by_cases z19 : w = 19
    · refine lv_tableIn (tgt := 1247) hx hb dL_law_39 (by rw [z19]; decide) (by rw [z19]; decide) (by rw [z19]; rfl) (by decide) ?_
      exact stp_earliest hSj.2.2.2.2.2.2.2.2.2.2.2.2.2.2.2.2.2.2.2.1 hst X hX hbl hbA hb1 hb2 hb3 hR (hcs hle) hkk H locs ls Z (lv_sub hl [0, 1, 2, 3, 4] rfl)
    by_cases z20 : w = 20
    · refine lv_tableIn (tgt := 1303) hx hb dL_law_39 (by rw [z20]; decide) (by rw [z20]; decide) (by rw [z20]; rfl) (by decide) ?_
      exact stp_latest hSj.2.2.2.2.2.2.2.2.2.2.2.2.2.2.2.2.2.2.2.2.1 hst X hX hbl hbA hb1 hb2 hb3 hR (hcs hle) hkk H locs ls Z (lv_sub hl [0, 1, 2, 3, 4] rfl)
    by_cases z21 : w = 21
    · refine lv_tableIn (tgt := 1359) hx hb dL_law_39 (by rw [z21]; decide) (by rw [z21]; decide) (by rw [z21]; rfl) (by decide) ?_
      exact stp_isSound hSj.2.2.2.2.2.2.2.2.2.2.2.2.2.2.2.2.2.2.2.2.2.1 hst X hX hbl hbA hb1 hb2 hb3 hR (hcs hle) hkk H locs ls Z (lv_sub hl [0, 1, 2, 3, 4] rfl)
    by_cases z22 : w = 22
    · refine lv_tableIn (tgt := 1422) hx hb dL_law_39 (by rw [z22]; decide) (by rw [z22]; decide) (by rw [z22]; rfl) (by decide) ?_
      exact stp_nextTimestamp hSj.2.2.2.2.2.2.2.2.2.2.2.2.2.2.2.2.2.2.2.2.2.2.1 hst X hX hbl hbA hb1 hb2 hb3 hR (hcs hle) hkk H locs ls Z (lv_sub hl [0, 1, 2, 3, 4] rfl)
    by_cases z23 : w = 23
    · refine lv_tableIn (tgt := 1478) hx hb dL_law_39 (by rw [z23]; decide) (by rw [z23]; decide) (by rw [z23]; rfl) (by decide) ?_
      exact stp_transactions hSj.2.2.2.2.2.2.2.2.2.2.2.2.2.2.2.2.2.2.2.2.2.2.2.1 hst X hX hbl hbA hb1 hb2 hb3 hR (hcs hle) hkk H locs ls Z (lv_sub hl [0, 1, 2, 3, 4] rfl)
    by_cases z24 : w = 24
    · refine lv_tableIn (tgt := 1491) hx hb dL_law_39 (by rw [z24]; decide) (by rw [z24]; decide) (by rw [z24]; rfl) (by decide) ?_
      exact stp_state hSj.2.2.2.2.2.2.2.2.2.2.2.2.2.2.2.2.2.2.2.2.2.2.2.2.1 hst X hX hbl hbA hb1 hb2 hb3 hR (hcs hle) hkk H locs ls Z (lv_sub hl [0, 1, 2, 3, 4] rfl)
    by_cases z25 : w = 25
    · refine lv_tableIn (tgt := 1547) hx hb dL_law_39 (by rw [z25]; decide) (by rw [z25]; decide) (by rw [z25]; rfl) (by decide) ?_
      exact stp_timestamp hSj.2.2.2.2.2.2.2.2.2.2.2.2.2.2.2.2.2.2.2.2.2.2.2.2.2.1 hst X hX hbl hbA hb1 hb2 hb3 hR (hcs hle) hkk H locs ls Z (lv_sub hl [0, 1, 2, 3, 4] rfl)
    by_cases z26 : w = 26
    · refine lv_tableIn (tgt := 1603) hx hb dL_law_39 (by rw [z26]; decide) (by rw [z26]; decide) (by rw [z26]; rfl) (by decide) ?_
      exact stp_requestTime hSj.2.2.2.2.2.2.2.2.2.2.2.2.2.2.2.2.2.2.2.2.2.2.2.2.2.2.1 hst X hX hbl hbA hb1 hb2 hb3 hR (hcs hle) hkk H locs ls Z (lv_sub hl [0, 1, 2, 3, 4] rfl)
    by_cases z27 : w = 27
    · refine lv_tableIn (tgt := 1659) hx hb dL_law_39 (by rw [z27]; decide) (by rw [z27]; decide) (by rw [z27]; rfl) (by decide) ?_
      exact stp_commitTime hSj.2.2.2.2.2.2.2.2.2.2.2.2.2.2.2.2.2.2.2.2.2.2.2.2.2.2.2.1 hst X hX hbl hbA hb1 hb2 hb3 hR (hcs hle) hkk H locs ls Z (lv_sub hl [0, 1, 2, 3, 4] rfl)
    by_cases z28 : w = 28
    · refine lv_tableIn (tgt := 1715) hx hb dL_law_39 (by rw [z28]; decide) (by rw [z28]; decide) (by rw [z28]; rfl) (by decide) ?_
      exact stp_bufferedValue hSj.2.2.2.2.2.2.2.2.2.2.2.2.2.2.2.2.2.2.2.2.2.2.2.2.2.2.2.2.1 hst X hX hbl hbA hb1 hb2 hb3 hR (hcs hle) hkk H locs ls Z (lv_sub hl [0, 1, 2, 3, 4] rfl)
    by_cases z29 : w = 29
    · refine lv_tableIn (tgt := 1783) hx hb dL_law_39 (by rw [z29]; decide) (by rw [z29]; decide) (by rw [z29]; rfl) (by decide) ?_
      exact stp_recordedTimestamp hSj.2.2.2.2.2.2.2.2.2.2.2.2.2.2.2.2.2.2.2.2.2.2.2.2.2.2.2.2.2.1 hst X hX hbl hbA hb1 hb2 hb3 hR (hcs hle) hkk H locs ls Z (lv_sub hl [0, 1, 2, 3, 4] rfl)
    by_cases z30 : w = 30
    · refine lv_tableIn (tgt := 1851) hx hb dL_law_39 (by rw [z30]; decide) (by rw [z30]; decide) (by rw [z30]; rfl) (by decide) ?_
      exact stp_ifCommitted hSj.2.2.2.2.2.2.2.2.2.2.2.2.2.2.2.2.2.2.2.2.2.2.2.2.2.2.2.2.2.2.1 hst X hX hbl hbA hb1 hb2 hb3 hR (hcs hle) hkk H locs ls Z (lv_sub hl [0, 1, 2, 3, 4] rfl)
    by_cases z31 : w = 31
    · refine lv_tableIn (tgt := 1907) hx hb dL_law_39 (by rw [z31]; decide) (by rw [z31]; decide) (by rw [z31]; rfl) (by decide) ?_
      exact stp_ticksToCommit hSj.2.2.2.2.2.2.2.2.2.2.2.2.2.2.2.2.2.2.2.2.2.2.2.2.2.2.2.2.2.2.2.1 hst X hX hbl hbA hb1 hb2 hb3 hR (hcs hle) hkk H locs ls Z (lv_sub hl [0, 1, 2, 3, 4] rfl)
    by_cases z32 : w = 32
    · refine lv_tableIn (tgt := 1963) hx hb dL_law_39 (by rw [z32]; decide) (by rw [z32]; decide) (by rw [z32]; rfl) (by decide) ?_
      exact stp_versions hSj.2.2.2.2.2.2.2.2.2.2.2.2.2.2.2.2.2.2.2.2.2.2.2.2.2.2.2.2.2.2.2.2.1 hst X hX hbl hbA hb1 hb2 hb3 hR (hcs hle) hkk H locs ls Z (lv_sub hl [0, 1, 2, 3, 4] rfl)
    by_cases z33 : w = 33
    · refine lv_tableIn (tgt := 2019) hx hb dL_law_39 (by rw [z33]; decide) (by rw [z33]; decide) (by rw [z33]; rfl) (by decide) ?_
      exact stp_versionTimestamp hSj.2.2.2.2.2.2.2.2.2.2.2.2.2.2.2.2.2.2.2.2.2.2.2.2.2.2.2.2.2.2.2.2.2.1 hst X hX hbl hbA hb1 hb2 hb3 hR (hcs hle) hkk H locs ls Z (lv_sub hl [0, 1, 2, 3, 4] rfl)
    by_cases z34 : w = 34
    · refine lv_tableIn (tgt := 2087) hx hb dL_law_39 (by rw [z34]; decide) (by rw [z34]; decide) (by rw [z34]; rfl) (by decide) ?_
      exact stp_valueAt hSj.2.2.2.2.2.2.2.2.2.2.2.2.2.2.2.2.2.2.2.2.2.2.2.2.2.2.2.2.2.2.2.2.2.2.1 hst X hX hbl hbA hb1 hb2 hb3 hR (hcs hle) hkk H locs ls Z (lv_sub hl [0, 1, 2, 3, 4] rfl)
    by_cases z35 : w = 35
    · refine lv_tableIn (tgt := 2155) hx hb dL_law_39 (by rw [z35]; decide) (by rw [z35]; decide) (by rw [z35]; rfl) (by decide) ?_
      exact stp_replayedValueAt hSj.2.2.2.2.2.2.2.2.2.2.2.2.2.2.2.2.2.2.2.2.2.2.2.2.2.2.2.2.2.2.2.2.2.2.2.1 hst X hX hbl hbA hb1 hb2 hb3 hR (hcs hle) hkk H locs ls Z (lv_sub hl [0, 1, 2, 3, 4] rfl)
    by_cases z36 : w = 36
    · refine lv_tableIn (tgt := 2223) hx hb dL_law_39 (by rw [z36]; decide) (by rw [z36]; decide) (by rw [z36]; rfl) (by decide) ?_
      exact stp_waitingWriter hSj.2.2.2.2.2.2.2.2.2.2.2.2.2.2.2.2.2.2.2.2.2.2.2.2.2.2.2.2.2.2.2.2.2.2.2.2.1 hst X hX hbl hbA hb1 hb2 hb3 hR (hcs hle) hkk H locs ls Z (lv_sub hl [0, 1, 2, 3, 4] rfl)
    by_cases z37 : w = 37
    · refine lv_tableIn (tgt := 2279) hx hb dL_law_39 (by rw [z37]; decide) (by rw [z37]; decide) (by rw [z37]; rfl) (by decide) ?_
      exact stp_readerMark hSj.2.2.2.2.2.2.2.2.2.2.2.2.2.2.2.2.2.2.2.2.2.2.2.2.2.2.2.2.2.2.2.2.2.2.2.2.2.1 hst X hX hbl hbA hb1 hb2 hb3 hR (hcs hle) hkk H locs ls Z (lv_sub hl [0, 1, 2, 3, 4] rfl)
    by_cases z38 : w = 38
    · refine lv_tableIn (tgt := 2335) hx hb dL_law_39 (by rw [z38]; decide) (by rw [z38]; decide) (by rw [z38]; rfl) (by decide) ?_
      exact stp_safeTime hSj.2.2.2.2.2.2.2.2.2.2.2.2.2.2.2.2.2.2.2.2.2.2.2.2.2.2.2.2.2.2.2.2.2.2.2.2.2.2.1 hst X hX hbl hbA hb1 hb2 hb3 hR (hcs hle) hkk H locs ls Z (lv_sub hl [0, 1, 2, 3, 4] rfl)
    by_cases z39 : w = 39
    · refine lv_tableIn (tgt := 2348) hx hb dL_law_39 (by rw [z39]; decide) (by rw [z39]; decide) (by rw [z39]; rfl) (by decide) ?_
      exact stp_readFloor hSj.2.2.2.2.2.2.2.2.2.2.2.2.2.2.2.2.2.2.2.2.2.2.2.2.2.2.2.2.2.2.2.2.2.2.2.2.2.2.2.1 hst X hX hbl hbA hb1 hb2 hb3 hR (hcs hle) hkk H locs ls Z (lv_sub hl [0, 1, 2, 3, 4] rfl)
    by_cases z40 : w = 40
    · refine lv_tableIn (tgt := 2361) hx hb dL_law_39 (by rw [z40]; decide) (by rw [z40]; decide) (by rw [z40]; rfl) (by decide) ?_
      exact stp_ticksUntilSafe hSj.2.2.2.2.2.2.2.2.2.2.2.2.2.2.2.2.2.2.2.2.2.2.2.2.2.2.2.2.2.2.2.2.2.2.2.2.2.2.2.2.1 hst X hX hbl hbA hb1 hb2 hb3 hR (hcs hle) hkk H locs ls Z (lv_sub hl [0, 1, 2, 3, 4] rfl)
    by_cases z41 : w = 41
    · refine lv_tableIn (tgt := 2417) hx hb dL_law_39 (by rw [z41]; decide) (by rw [z41]; decide) (by rw [z41]; rfl) (by decide) ?_
      exact stp_countInState hSj.2.2.2.2.2.2.2.2.2.2.2.2.2.2.2.2.2.2.2.2.2.2.2.2.2.2.2.2.2.2.2.2.2.2.2.2.2.2.2.2.2.1 hst X hX hbl hbA hb1 hb2 hb3 hR (hcs hle) hkk H locs ls Z (lv_sub hl [0, 1, 2, 3, 4] rfl)
    by_cases z42 : w = 42
    · refine lv_tableIn (tgt := 2473) hx hb dL_law_39 (by rw [z42]; decide) (by rw [z42]; decide) (by rw [z42]; rfl) (by decide) ?_
      exact stp_totalWait hSj.2.2.2.2.2.2.2.2.2.2.2.2.2.2.2.2.2.2.2.2.2.2.2.2.2.2.2.2.2.2.2.2.2.2.2.2.2.2.2.2.2.2.1 hst X hX hbl hbA hb1 hb2 hb3 hR (hcs hle) hkk H locs ls Z (lv_sub hl [0, 1, 2, 3, 4] rfl)
    by_cases z43 : w = 43
    · refine lv_tableIn (tgt := 2486) hx hb dL_law_39 (by rw [z43]; decide) (by rw [z43]; decide) (by rw [z43]; rfl) (by decide) ?_
      exact stp_unsoundUses hSj.2.2.2.2.2.2.2.2.2.2.2.2.2.2.2.2.2.2.2.2.2.2.2.2.2.2.2.2.2.2.2.2.2.2.2.2.2.2.2.2.2.2.2.1 hst X hX hbl hbA hb1 hb2 hb3 hR (hcs hle) hkk H locs ls Z (lv_sub hl [0, 1, 2, 3, 4] rfl)
    by_cases z44 : w = 44
    · refine lv_tableIn (tgt := 2499) hx hb dL_law_39 (by rw [z44]; decide) (by rw [z44]; decide) (by rw [z44]; rfl) (by decide) ?_
      exact stp_inversions hSj.2.2.2.2.2.2.2.2.2.2.2.2.2.2.2.2.2.2.2.2.2.2.2.2.2.2.2.2.2.2.2.2.2.2.2.2.2.2.2.2.2.2.2.2.1 hst X hX hbl hbA hb1 hb2 hb3 hR (hcs hle) hkk H locs ls Z (lv_sub hl [0, 1, 2, 3, 4] rfl)
    by_cases z45 : w = 45
    · refine lv_tableIn (tgt := 2512) hx hb dL_law_39 (by rw [z45]; decide) (by rw [z45]; decide) (by rw [z45]; rfl) (by decide) ?_
      exact stp_savedStates hSj.2.2.2.2.2.2.2.2.2.2.2.2.2.2.2.2.2.2.2.2.2.2.2.2.2.2.2.2.2.2.2.2.2.2.2.2.2.2.2.2.2.2.2.2.2.1 hst X hX hbl hbA hb1 hb2 hb3 hR (hcs hle) hkk H locs ls Z (lv_sub hl [0, 1, 2, 3, 4] rfl)
    by_cases z46 : w = 46
    · refine lv_tableIn (tgt := 2525) hx hb dL_law_39 (by rw [z46]; decide) (by rw [z46]; decide) (by rw [z46]; rfl) (by decide) ?_
      exact stp_textLength hSj.2.2.2.2.2.2.2.2.2.2.2.2.2.2.2.2.2.2.2.2.2.2.2.2.2.2.2.2.2.2.2.2.2.2.2.2.2.2.2.2.2.2.2.2.2.2 hst X hX hbl hbA hb1 hb2 hb3 hR (hcs hle) hkk H locs ls Z (lv_sub hl [0, 1, 2, 3, 4] rfl)
    refine g_tbl (tgt := 2538) [0, 1, 2, 3, 4, 5, 6, 7, 8, 9, 10, 11, 12, 13, 14, 15, 16, 17, 18, 19, 20, 21, 22, 23, 24, 25, 26, 27, 28, 29, 30, 31, 32, 33, 34, 35, 36, 37, 38, 39, 40, 41, 42, 43, 44, 45, 46] hx hb dL_law_39 (by decide) (by decide +kernel) (List.forall_mem_cons.mpr ⟨z0, (List.forall_mem_cons.mpr ⟨z1, (List.forall_mem_cons.mpr ⟨z2, (List.forall_mem_cons.mpr ⟨z3, (List.forall_mem_cons.mpr ⟨z4, (List.forall_mem_cons.mpr ⟨z5, (List.forall_mem_cons.mpr ⟨z6, (List.forall_mem_cons.mpr ⟨z7, (List.forall_mem_cons.mpr ⟨z8, (List.forall_mem_cons.mpr ⟨z9, (List.forall_mem_cons.mpr ⟨z10, (List.forall_mem_cons.mpr ⟨z11, (List.forall_mem_cons.mpr ⟨z12, (List.forall_mem_cons.mpr ⟨z13, (List.forall_mem_cons.mpr ⟨z14, (List.forall_mem_cons.mpr ⟨z15, (List.forall_mem_cons.mpr ⟨z16, (List.forall_mem_cons.mpr ⟨z17, (List.forall_mem_cons.mpr ⟨z18, (List.forall_mem_cons.mpr ⟨z19, (List.forall_mem_cons.mpr ⟨z20, (List.forall_mem_cons.mpr ⟨z21, (List.forall_mem_cons.mpr ⟨z22, (List.forall_mem_cons.mpr ⟨z23, (List.forall_mem_cons.mpr ⟨z24, (List.forall_mem_cons.mpr ⟨z25, (List.forall_mem_cons.mpr ⟨z26, (List.forall_mem_cons.mpr ⟨z27, (List.forall_mem_cons.mpr ⟨z28, (List.forall_mem_cons.mpr ⟨z29, (List.forall_mem_cons.mpr ⟨z30, (List.forall_mem_cons.mpr ⟨z31, (List.forall_mem_cons.mpr ⟨z32, (List.forall_mem_cons.mpr ⟨z33, (List.forall_mem_cons.mpr ⟨z34, (List.forall_mem_cons.mpr ⟨z35, (List.forall_mem_cons.mpr ⟨z36, (List.forall_mem_cons.mpr ⟨z37, (List.forall_mem_cons.mpr ⟨z38, (List.forall_mem_cons.mpr ⟨z39, (List.forall_mem_cons.mpr ⟨z40, (List.forall_mem_cons.mpr ⟨z41, (List.forall_mem_cons.mpr ⟨z42, (List.forall_mem_cons.mpr ⟨z43, (List.forall_mem_cons.mpr ⟨z44, (List.forall_mem_cons.mpr ⟨z45, (List.forall_mem_cons.mpr ⟨z46, (fun _ h => absurd h List.not_mem_nil)⟩)⟩)⟩)⟩)⟩)⟩)⟩)⟩)⟩)⟩)⟩)⟩)⟩)⟩)⟩)⟩)⟩)⟩)⟩)⟩)⟩)⟩)⟩)⟩)⟩)⟩)⟩)⟩)⟩)⟩)⟩)⟩)⟩)⟩)⟩)⟩)⟩)⟩)⟩)⟩)⟩)⟩)⟩)⟩)⟩)⟩)⟩) ?_
    refine W.widen (k := 1000 + 5 * j + 5) (n := 30000 + 30 * j + 30) (Nat.le_add_right _ _) (Nat.le_add_right _ _) ?_
    exact hkk gc gm ov H locs ls (hmono j gc gm hR) Z hl
end GW
