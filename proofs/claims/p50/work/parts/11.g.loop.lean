/-! THE CLAIM OUT OF ONE WALK OF THE LAW'S BODY. Your part is whole_start (and what it stands on); all else here is the same for every law, but numbers. -/
def R_law : String := "CommitWaitStoreLaw"
def lw_P (b : Addr) (xs : List Int32) (args : Array Value) (s : State) : Prop := args = #[.ref b] ∧ s.IntsAt b xs ∧ xs.length ≤ 260 ∧ (Jvm.Cond.and given_1 narrow_1).before args s = true
def lw_Q (_ : Array Value) (s : State) (o : Outcome) (t : State) : Prop := o = .returned (some (.int 1)) ∧ Framed s o t [] 600130 7301080
def lw_Z (below : List Frame) (a : Array Value) (s : State) : State → Prop := fun t => ∃ o, t.status = .running ∧ Ended t below o ∧ lw_Q a s o t
/-- the law's own end, with 1 on the stack, nothing written that was there before, its room as the claim has it -/
theorem lw_ret {p : Program} {l : Launch} {e : Env} {s : State} {m : MethodId} {below : List Frame} {meth : Method} {c : Code} {b : Nat} (hx : p.tables.exec = Jvm.exec) (hb : c.code = code) (hr : meth.sig.returnType = ret) (hlocks : meth.locks = false) {pc : Nat} {H : Heap} {ls : Array Slot} (hdg : decode code pc = .ok (.ireturn, 1)) : W p l e room_1 s m #[Value.ref b] below meth c H [] 600130 7301080 (lw_Z below #[Value.ref b] s) (F0 m pc ls [.int 1]) := by
  intro T hT X
  obtain ⟨fs, hret, hrun, hended, hW, hframe⟩ := X.leave (v := some (.int 1)) (hlocks := hlocks) (fun h => by rw [hr] at h; cases h)
  have hmeth' : T.vm.method? m = some meth := X.method'
  refine ⟨T.setFrames fs, ?_, .returned (some (.int 1)), hrun, hended, rfl, ⟨_, rfl⟩, hW, hframe⟩
  jvm_step X.here [X.here.top, hx, hb, hdg, hmeth', hr, ret, narrow_b1]
  (try refine ⟨rfl, ?_⟩); (try refine ⟨rfl, ?_⟩)
  first | (intro acts; rw [hret _ acts rfl rfl rfl]) | rw [hret _ _ rfl rfl rfl]
  exact Steps.refl _
/-- what holds at the law's entry: the machine, the code, the tables' words (any of lw_tbl by 'hts w (by decide +kernel)'), the script of L ints xs at the cell b, what the Statement gives of the start (any of its parts by flat_of_before) -/
def lw_At (p : Program) (s : State) (m : MethodId) (meth : Method) (c : Code) (b L : Nat) (xs : Nat → Int32) : Prop :=
  p.tables.exec = Jvm.exec ∧ c.code = code ∧ meth.sig.returnType = ret ∧ c.maxLocals = 6 ∧ s.vm.findClass R_law = some m.cls ∧ (∀ w ∈ lw_tbl, w.before #[Value.ref b] s = true) ∧ va_X b L xs s s.heap ∧ b < s.heap.size ∧ meth.locks = false ∧ (Jvm.Cond.and given_1 narrow_1).before #[Value.ref b] s = true
section GW
variable {p : Program} {l : Launch} {e : Env} {s : State} {m : MethodId} {below : List Frame} {meth : Method} {c : Code} {G : LY} {A : Nat → Prop} {b L i n : Nat} {xs : Nat → Int32}
theorem one_ne : ¬ ((1 : Int32) = 0) := by decide
set_option maxHeartbeats 8000000 in
set_option maxRecDepth 100000 in
/-- THE LAW'S LOOP -/
theorem law_loop (hn : 10010 ≤ n) (hst : l.stackTraces = false) (hL : L ≤ 260) (X : gC p s m #[Value.ref b] meth c cL_law 6 (Cond.initialized RX6 :: wA0) RL ret G A) (hX : va_X b L xs s s.heap) (hbl : b < s.heap.size) (hbA : ¬ A b) (hAe : ∀ q, A q → s.heap.size ≤ q) : ∀ (d i : Nat), d + i = 90 → ∀ (g : Mem) (H : Heap) (locs : List Loc) (ls : Array Slot), Ok5 i g → WS wD G g A s.heap H locs → lv_has ls 6 [(0, .ref b), (1, .ref (G.1 160)), (2, .ref (G.1 161)), (3, .int (nI i))] → W p l e room_1 s m #[Value.ref b] below meth c H locs (1000 + 10 * i) (30000 + 60 * i) (lw_Z below #[Value.ref b] s) (F0 m 65 ls []) := by
  have hx := X.1
  have hb := X.2.1
  intro d
  induction d with
  | zero =>
    intro i h1 g H locs ls hO Z hl
    have hi : i = 90 := by omega
    have hcs : (1000 + 10 * i) ≤ room_1.cells ∧ (30000 + 60 * i) ≤ room_1.slots := by
      show (1000 + 10 * i) ≤ 600130 ∧ (30000 + 60 * i) ≤ 7301080
      omega
    refine lv_iload_n hx hb dL_law_65 rfl (lv_at hl 3 rfl) ?_
    refine lv_bipush (v := (90 : Int32)) hx hb dL_law_66 (by decide) ?_
    refine lv_icmp_ge (tgt := 178) hx hb dL_law_68 (by decide) (fun c1 => ?_) (fun c1 => absurd (nI_le (a := 90) (by omega) (by omega)) c1)
    refine lv_aload_n hx hb dL_law_178 rfl (lv_at hl 1 rfl) ?_
    refine d_callSI (n := 1) (As := [.ref (G.1 160)]) (rest := []) sameC X Z (cL_areAll_c l (ok_all hn hO)) (gooS mB602 mB603 mB499 mB535) rfl (by decide +kernel) rfl ⟨Nat.le_of_ble_eq_true rfl, Nat.le_of_ble_eq_true rfl⟩ hcs hl.1 rfl (Nat.le_of_ble_eq_true rfl) dL_law_179 (fun w9 H locs Z => ?_)
    refine va_forget (fun q hq => hAe _ (Z.2.2.2.2 q hq)) ?_
    refine W.widen (k := 600130) (n := 7301080) (by omega) (by omega) ?_
    exact lw_ret hx hb X.2.2.2.2.2.2.2.2.1 X.2.2.2.2.2.2.2.1 dL_law_182
  | succ d ih =>
    intro i h1 g H locs ls hO Z hl
    have hi : i < 90 := by omega
    obtain ⟨y, hy⟩ : ∃ z, z = cellv xs L (nI i) := ⟨_, rfl⟩
    obtain ⟨gd, hstep, hO1⟩ := ok_step hn hi hO y
    obtain ⟨g1, s1, gb, s2, s3, s4, s5⟩ := hstep
    have rem8 : nI i - nI i / (8 : Int32) * (8 : Int32) = nI (i % 8) := pk_rem (d := 8) (by omega) (by decide) (by decide)
    have rem5 : nI i - nI i / (5 : Int32) * (5 : Int32) = nI (i % 5) := pk_rem (d := 5) (by omega) (by decide) (by decide)
    have rm : 90 ≥ i := by omega
    have h154 : ∀ (H : Heap) (locs : List Loc) (ls : Array Slot), WS wD G gd A s.heap H locs → lv_has ls 6 [(0, .ref b), (1, .ref (G.1 160)), (2, .ref (G.1 161)), (3, .int (nI i))] → W p l e room_1 s m #[Value.ref b] below meth c H locs (1000 + 10 * i + 10) (30000 + 60 * i + 60) (lw_Z below #[Value.ref b] s) (F0 m 154 ls []) := by
      intro H locs ls Z hl
      have hcs : (1000 + 10 * i + 10) ≤ room_1.cells ∧ (30000 + 60 * i + 60) ≤ room_1.slots := by
        show (1000 + 10 * i + 10) ≤ 600130 ∧ (30000 + 60 * i + 60) ≤ 7301080
        omega
      refine lv_aload_n hx hb dL_law_154 rfl (lv_at hl 1 rfl) ?_
      refine lv_aload_n hx hb dL_law_155 rfl (lv_at hl 2 rfl) ?_
      refine lv_iconst (v := (0 : Int32)) hx hb dL_law_156 (by decide) ?_
      refine g_iald X Z heldD (by unfold vp_in; decide) dL_law_157 ?_
      refine lv_aload_n hx hb dL_law_158 rfl (lv_at hl 2 rfl) ?_
      refine lv_iconst (v := (1 : Int32)) hx hb dL_law_159 (by decide) ?_
      refine g_iald X Z heldD (by unfold vp_in; decide) dL_law_160 ?_
      refine d_callVI (n := 2) (As := [.int (gd 161 (0 : Int32).toNatClampNeg), .int (gd 161 (1 : Int32).toNatClampNeg)]) (rest := []) (r0 := gd 161 2) sameC X Z (nX6_valueAt_c l s5 rfl) (oX6 k160) rfl (gooV mB472 mB473 mB474 mB285 mB401) rfl (by decide +kernel) rfl ⟨Nat.le_of_ble_eq_true rfl, Nat.le_of_ble_eq_true rfl⟩ hcs hl.1 rfl (Nat.le_of_ble_eq_true rfl) dL_law_161 (fun w9 H locs Z => ?_)
      refine lv_aload_n hx hb dL_law_164 rfl (lv_at hl 2 rfl) ?_
      refine lv_iconst (v := (2 : Int32)) hx hb dL_law_165 (by decide) ?_
      refine g_iald X Z heldD (by unfold vp_in; decide) dL_law_166 ?_
      refine lv_icmp_eq (tgt := 172) hx hb dL_law_167 (by decide) (fun c1 => ?_) (fun c1 => absurd rfl c1)
      refine lv_iinc (v := nI (i + 1)) (lv' := [(3, .int (nI (i + 1))), (0, .ref b), (1, .ref (G.1 160)), (2, .ref (G.1 161))]) hx hb dL_law_172 hl (k := 3) rfl (nI_add i 1) (by decide) rfl (fun ls hl => ?_)
      refine lv_goto (tgt := 65) hx hb dL_law_175 (by decide) ?_
      refine W.widen (k := 1000 + 10 * (i + 1)) (n := 30000 + 60 * (i + 1)) (by omega) (by omega) ?_
      exact ih (i + 1) (by omega) gd H locs ls hO1 Z (lv_sub hl [1, 2, 3, 0] rfl)
    have h128 : ∀ (H : Heap) (locs : List Loc) (ls : Array Slot), WS wD G gd A s.heap H locs → lv_has ls 6 [(0, .ref b), (1, .ref (G.1 160)), (2, .ref (G.1 161)), (3, .int (nI i))] → W p l e room_1 s m #[Value.ref b] below meth c H locs (1000 + 10 * i + 10) (30000 + 60 * i + 60) (lw_Z below #[Value.ref b] s) (F0 m 128 ls []) := by
      intro H locs ls Z hl
      have hcs : (1000 + 10 * i + 10) ≤ room_1.cells ∧ (30000 + 60 * i + 60) ≤ room_1.slots := by
        show (1000 + 10 * i + 10) ≤ 600130 ∧ (30000 + 60 * i + 60) ≤ 7301080
        omega
      refine lv_iconst (v := (1 : Int32)) hx hb dL_law_128 (by decide) ?_
      refine lv_goto (tgt := 133) hx hb dL_law_129 (by decide) ?_
      refine lv_istore (lv' := [(5, .int 1), (0, .ref b), (1, .ref (G.1 160)), (2, .ref (G.1 161)), (3, .int (nI i))]) hx hb dL_law_133 hl (by decide) rfl (fun ls hl => ?_)
      refine lv_iload hx hb dL_law_135 (lv_at hl 0 rfl) ?_
      refine lv_if_eq (tgt := 170) hx hb dL_law_137 (by decide) (fun c1 => absurd c1 one_ne) (fun c1 => ?_)
      refine lv_iload_n hx hb dL_law_140 rfl (lv_at hl 4 rfl) ?_
      refine lv_iconst (v := (5 : Int32)) hx hb dL_law_141 (by decide) ?_
      refine lv_irem hx hb dL_law_142 (by decide) ?_
      rw [rem5]
      refine lv_iconst (v := (4 : Int32)) hx hb dL_law_143 (by decide) ?_
      refine lv_icmp_ne (tgt := 154) hx hb dL_law_144 (by decide) (fun c2 => ?_) (fun c2 => ?_)
      · exact h154 H locs ls Z (lv_sub hl [1, 2, 3, 4] rfl)
      · have e4 : i % 5 = 4 := (nI_eq (b := 4) (by omega) (by decide)).mp c2
        refine lv_aload_n hx hb dL_law_147 rfl (lv_at hl 2 rfl) ?_
        refine d_callSI (n := 1) (As := [.ref (G.1 160)]) (rest := []) sameC X Z (cL_areAll_c l (s4 e4)) (gooS mB602 mB603 mB499 mB535) rfl (by decide +kernel) rfl ⟨Nat.le_of_ble_eq_true rfl, Nat.le_of_ble_eq_true rfl⟩ hcs hl.1 rfl (Nat.le_of_ble_eq_true rfl) dL_law_148 (fun w9 H locs Z => ?_)
        refine lv_if_eq (tgt := 170) hx hb dL_law_151 (by decide) (fun c3 => absurd c3 one_ne) (fun c3 => ?_)
        exact h154 H locs ls Z (lv_sub hl [1, 2, 3, 4] rfl)
    have h108 : ∀ (H : Heap) (locs : List Loc) (ls : Array Slot), WS wD G gb A s.heap H locs → lv_has ls 6 [(4, .int y), (0, .ref b), (1, .ref (G.1 160)), (2, .ref (G.1 161)), (3, .int (nI i))] → W p l e room_1 s m #[Value.ref b] below meth c H locs (1000 + 10 * i + 4) (30000 + 60 * i + 24) (lw_Z below #[Value.ref b] s) (F0 m 108 ls []) := by
      intro H locs ls Z hl
      have hcs6 : (1000 + 10 * i + 4) + 6 ≤ room_1.cells ∧ (30000 + 60 * i + 24) + 36 ≤ room_1.slots := by
        show (1000 + 10 * i + 4) + 6 ≤ 600130 ∧ (30000 + 60 * i + 24) + 36 ≤ 7301080
        omega
      refine lv_iload_n hx hb dL_law_108 rfl (lv_at hl 4 rfl) ?_
      refine lv_bipush (v := (8 : Int32)) hx hb dL_law_109 (by decide) ?_
      refine lv_irem hx hb dL_law_111 (by decide) ?_
      rw [rem8]
      refine lv_iconst (v := (5 : Int32)) hx hb dL_law_112 (by decide) ?_
      refine lv_icmp_ne (tgt := 128) hx hb dL_law_113 (by decide) (fun c2 => ?_) (fun c2 => ?_)
      · rcases s3 with ⟨q1, q2⟩ | ⟨q1, q2⟩
        · exact absurd (show nI (i % 8) = (5 : Int32) by rw [q1]; rfl) c2
        · rw [← q2] at Z
          refine W.widen (k := 1000 + 10 * i + 10) (n := 30000 + 60 * i + 60) (by omega) (by omega) ?_
          exact h128 H locs ls Z (lv_sub hl [1, 2, 3, 4] rfl)
      · have e5 : i % 8 = 5 := (nI_eq (b := 5) (by omega) (by decide)).mp c2
        rcases s3 with ⟨q1, q2⟩ | ⟨q1, q2⟩
        · refine lv_aload_n hx hb dL_law_116 rfl (lv_at hl 2 rfl) ?_
          refine lv_aload_n hx hb dL_law_117 rfl (lv_at hl 3 rfl) ?_
          refine lv_iload hx hb dL_law_118 (lv_at hl 0 rfl) ?_
          refine lv_iconst (v := (3 : Int32)) hx hb dL_law_120 (by decide) ?_
          refine lv_ishr hx hb dL_law_121 ?_
          refine d_callJD (n := 3) (As := [.ref (G.1 160), .ref (G.1 161), .int (y >>> ((3 : Int32) &&& 31))]) (rest := []) (mcc := 6) (msc := 36) X Z (cL_isRead_c l hst q2) (gooS mB600 mB601 mB499 mB586) rfl (by decide +kernel) rfl ⟨Nat.le_of_ble_eq_true rfl, Nat.le_of_ble_eq_true rfl⟩ rfl rfl hcs6 hl.1 rfl (Nat.le_of_ble_eq_true rfl) dL_law_122 (fun w9 H locs Z => ?_)
          refine lv_if_eq (tgt := 132) hx hb dL_law_125 (by decide) (fun c3 => absurd c3 one_ne) (fun c3 => ?_)
          exact h128 H locs ls Z (lv_sub hl [1, 2, 3, 4] rfl)
        · exact absurd e5 q1
    have hcs : (1000 + 10 * i) ≤ room_1.cells ∧ (30000 + 60 * i) ≤ room_1.slots := by
      show (1000 + 10 * i) ≤ 600130 ∧ (30000 + 60 * i) ≤ 7301080
      omega
    have hcs4 : (1000 + 10 * i) + 4 ≤ room_1.cells ∧ (30000 + 60 * i) + 24 ≤ room_1.slots := by
      show (1000 + 10 * i) + 4 ≤ 600130 ∧ (30000 + 60 * i) + 24 ≤ 7301080
      omega
    refine lv_iload_n hx hb dL_law_65 rfl (lv_at hl 3 rfl) ?_
    refine lv_bipush (v := (90 : Int32)) hx hb dL_law_66 (by decide) ?_
    refine lv_icmp_ge (tgt := 178) hx hb dL_law_68 (by decide) (fun c1 => absurd c1 (nI_ge (b := 90) hi (by decide))) (fun c1 => ?_)
    refine lv_aload_n hx hb dL_law_71 rfl (lv_at hl 0 rfl) ?_
    refine lv_iload_n hx hb dL_law_72 rfl (lv_at hl 3 rfl) ?_
    refine l_callC X Z hX hbl hbA (cL_cell_c l xs hL hi) (gooS mB594 mB595 mB499 mB436) ⟨Nat.le_of_ble_eq_true rfl, Nat.le_of_ble_eq_true rfl⟩ hcs hl.1 (Nat.le_of_ble_eq_true rfl) dL_law_73 (fun H locs Z => ?_)
    rw [← hy]
    refine lv_istore (lv' := [(4, .int y), (0, .ref b), (1, .ref (G.1 160)), (2, .ref (G.1 161)), (3, .int (nI i))]) hx hb dL_law_76 hl (by decide) rfl (fun ls hl => ?_)
    refine lv_aload_n hx hb dL_law_78 rfl (lv_at hl 2 rfl) ?_
    refine lv_iload hx hb dL_law_79 (lv_at hl 0 rfl) ?_
    refine d_callJ (n := 2) (As := [.ref (G.1 160), .int y]) (rest := []) (mcc := 4) (msc := 24) X Z (cL_does_c l hst s1) (gooS mB596 mB597 mB499 mB558) rfl (by decide +kernel) rfl ⟨Nat.le_of_ble_eq_true rfl, Nat.le_of_ble_eq_true rfl⟩ rfl rfl hcs4 hl.1 rfl (Nat.le_of_ble_eq_true rfl) dL_law_81 (fun w9 H locs Z => ?_)
    refine lv_if_eq (tgt := 132) hx hb dL_law_84 (by decide) (fun c3 => absurd c3 one_ne) (fun c3 => ?_)
    have hcs : (1000 + 10 * i + 4) ≤ room_1.cells ∧ (30000 + 60 * i + 24) ≤ room_1.slots := hcs4
    refine lv_iload hx hb dL_law_87 (lv_at hl 0 rfl) ?_
    refine lv_bipush (v := (19 : Int32)) hx hb dL_law_89 (by decide) ?_
    refine lv_ishr hx hb dL_law_91 ?_
    refine lv_iconst (v := (3 : Int32)) hx hb dL_law_92 (by decide) ?_
    refine lv_iand hx hb dL_law_93 ?_
    refine lv_if_ne (tgt := 108) hx hb dL_law_94 (by decide) (fun c4 => ?_) (fun c4 => ?_)
    · rcases s2 with ⟨q1, q2⟩ | ⟨q1, q2⟩
      · exact absurd q1 c4
      · rw [← q2] at Z
        exact h108 H locs ls Z hl
    · rcases s2 with ⟨q1, g2, q2, q3⟩ | ⟨q1, q2⟩
      · refine lv_aload_n hx hb dL_law_97 rfl (lv_at hl 2 rfl) ?_
        refine lv_iload hx hb dL_law_98 (lv_at hl 0 rfl) ?_
        refine lv_iconst (v := (5 : Int32)) hx hb dL_law_100 (by decide) ?_
        refine lv_ishr hx hb dL_law_101 ?_
        refine d_callSM (n := 2) (As := [.ref (G.1 160), .int (y >>> ((5 : Int32) &&& 31))]) (rest := []) X Z (cL_clocks_c l q2) (gooS mB598 mB599 mB499 mB580) rfl (by decide +kernel) rfl ⟨Nat.le_of_ble_eq_true rfl, Nat.le_of_ble_eq_true rfl⟩ hcs hl.1 rfl (Nat.le_of_ble_eq_true rfl) dL_law_102 (fun w9 H locs Z => ?_)
        rw [← q3] at Z
        refine lv_if_eq (tgt := 132) hx hb dL_law_105 (by decide) (fun c3 => absurd c3 one_ne) (fun c3 => ?_)
        exact h108 H locs ls Z hl
      · exact absurd c4 q1
end GW
