set_option maxRecDepth 100000 in
theorem tX0 : ∀ w ∈ wsX00, w ∈ lw_tbl := by decide +kernel
set_option maxRecDepth 100000 in
theorem tX1 : ∀ w ∈ wsX10, w ∈ lw_tbl := by decide +kernel
set_option maxRecDepth 100000 in
theorem tX2 : ∀ w ∈ wsX20, w ∈ lw_tbl := by decide +kernel
set_option maxRecDepth 100000 in
theorem tX3 : ∀ w ∈ wsX30, w ∈ lw_tbl := by decide +kernel
set_option maxRecDepth 100000 in
theorem tX4 : ∀ w ∈ wsX40, w ∈ lw_tbl := by decide +kernel
set_option maxRecDepth 100000 in
theorem tX5 : ∀ w ∈ wsX50, w ∈ lw_tbl := by decide +kernel
set_option maxRecDepth 100000 in
theorem tX6 : ∀ w ∈ wsX60, w ∈ lw_tbl := by decide +kernel
set_option maxRecDepth 100000 in
theorem tAt0 : ∀ w ∈ (vx_atS RX6 258 "java/lang/IndexOutOfBoundsException" ["java/lang/RuntimeException", "java/lang/Exception"]).filter goodWord, w ∈ lw_tbl := by decide +kernel
set_option maxRecDepth 100000 in
theorem tAt1 : ∀ w ∈ (vx_atS RX6 295 "java/lang/IllegalArgumentException" ["java/lang/RuntimeException", "java/lang/Exception"]).filter goodWord, w ∈ lw_tbl := by decide +kernel
set_option maxRecDepth 100000 in
theorem tAt2 : ∀ w ∈ (vx_atS RX6 50 "java/lang/IllegalStateException" ["java/lang/RuntimeException", "java/lang/Exception"]).filter goodWord, w ∈ lw_tbl := by decide +kernel
theorem tAt : ∀ w ∈ wAt, w ∈ lw_tbl := by
  intro w h
  unfold wAt at h
  rcases List.mem_append.mp h with h | h
  · exact tAt0 w h
  · rcases List.mem_append.mp h with h | h
    · exact tAt1 w h
    · exact tAt2 w h
theorem tA0 : ∀ w ∈ wA0, w ∈ lw_tbl := by
  intro w h
  unfold wA0 at h
  rcases List.mem_append.mp h with h | h
  · exact tX0 w h
  rcases List.mem_append.mp h with h | h
  · exact tX1 w h
  rcases List.mem_append.mp h with h | h
  · exact tX2 w h
  rcases List.mem_append.mp h with h | h
  · exact tX3 w h
  rcases List.mem_append.mp h with h | h
  · exact tX4 w h
  rcases List.mem_append.mp h with h | h
  · exact tX5 w h
  rcases List.mem_append.mp h with h | h
  · exact tX6 w h
  rcases List.mem_append.mp h with h | h
  · exact tAt w h
  · exact tB0 w h
theorem str_of {own tx : String} {k : Nat} {args : Array Value} {s : State} (h1 : (Cond.stringRef own k tx).before args s = true) (h2 : (Cond.exactly (.string own k) "java/lang/String").before args s = true) : ∃ a, vk_R own k tx a s := by
  obtain ⟨a, _, _, _, q1, -⟩ := Cond.exactly_spec (args := args) (first := s) (o := none) (s := s) (idx := []) (t := .string own k) (cls := "java/lang/String") h2
  exact ⟨a, vk_R.of h1 q1⟩
abbrev flatA : List Cond := flatC (Jvm.Cond.and given_1 narrow_1)
set_option maxRecDepth 100000 in
theorem fS130 : Cond.exactly (.string RX6 130) "java/lang/String" ∈ flatA := by decide +kernel
set_option maxRecDepth 100000 in
theorem fR130 : Cond.stringRef RX6 130 "the timestamp is greater than the safe time" ∈ lw_tbl := by decide +kernel
set_option maxRecDepth 100000 in
theorem fS256 : Cond.exactly (.string RX6 256) "java/lang/String" ∈ flatA := by decide +kernel
set_option maxRecDepth 100000 in
theorem fR256 : Cond.stringRef RX6 256 "there is no such version" ∈ lw_tbl := by decide +kernel
set_option maxRecDepth 100000 in
theorem fS283 : Cond.exactly (.string RX6 283) "java/lang/String" ∈ flatA := by decide +kernel
set_option maxRecDepth 100000 in
theorem fR283 : Cond.stringRef RX6 283 "there is no such server" ∈ lw_tbl := by decide +kernel
set_option maxRecDepth 100000 in
theorem fS285 : Cond.exactly (.string RX6 285) "java/lang/String" ∈ flatA := by decide +kernel
set_option maxRecDepth 100000 in
theorem fR285 : Cond.stringRef RX6 285 "there is no such transaction" ∈ lw_tbl := by decide +kernel
set_option maxRecDepth 100000 in
theorem fS287 : Cond.exactly (.string RX6 287) "java/lang/String" ∈ flatA := by decide +kernel
set_option maxRecDepth 100000 in
theorem fR287 : Cond.stringRef RX6 287 "there is no such key" ∈ lw_tbl := by decide +kernel
set_option maxRecDepth 100000 in
theorem fS293 : Cond.exactly (.string RX6 293) "java/lang/String" ∈ flatA := by decide +kernel
set_option maxRecDepth 100000 in
theorem fR293 : Cond.stringRef RX6 293 "a number is out of range" ∈ lw_tbl := by decide +kernel
set_option maxRecDepth 100000 in
theorem fS296 : Cond.exactly (.string RX6 296) "java/lang/String" ∈ flatA := by decide +kernel
set_option maxRecDepth 100000 in
theorem fR296 : Cond.stringRef RX6 296 "the timestamp is negative" ∈ lw_tbl := by decide +kernel
set_option maxRecDepth 100000 in
theorem fS298 : Cond.exactly (.string RX6 298) "java/lang/String" ∈ flatA := by decide +kernel
set_option maxRecDepth 100000 in
theorem fR298 : Cond.stringRef RX6 298 "the transaction is not open" ∈ lw_tbl := by decide +kernel
set_option maxRecDepth 100000 in
theorem fS48 : Cond.exactly (.string RX6 48) "java/lang/String" ∈ flatA := by decide +kernel
set_option maxRecDepth 100000 in
theorem fR48 : Cond.stringRef RX6 48 "40 transactions have begun" ∈ lw_tbl := by decide +kernel
set_option maxRecDepth 100000 in
theorem fS96 : Cond.exactly (.string RX6 96) "java/lang/String" ∈ flatA := by decide +kernel
set_option maxRecDepth 100000 in
theorem fR96 : Cond.stringRef RX6 96 "the true time would become greater than 1000000" ∈ lw_tbl := by decide +kernel
set_option maxRecDepth 100000 in
theorem fZU : Cond.isRef (.static Bundle.tN "UNASSIGNED_STACK" Bundle.steD) ∈ flatA := by decide +kernel
set_option maxRecDepth 100000 in
theorem fYU : Cond.laysStatic Bundle.tN "UNASSIGNED_STACK" Bundle.steD ∈ lw_tbl := by decide +kernel
set_option maxRecDepth 100000 in
theorem fZN : Cond.isRef (.static Bundle.tN "SUPPRESSED_SENTINEL" Bundle.listD) ∈ flatA := by decide +kernel
set_option maxRecDepth 100000 in
theorem fYN : Cond.laysStatic Bundle.tN "SUPPRESSED_SENTINEL" Bundle.listD ∈ lw_tbl := by decide +kernel
set_option maxRecDepth 100000 in
theorem fYi : Cond.initialized Bundle.tN ∈ lw_tbl := by decide +kernel
set_option maxRecDepth 100000 in
theorem fK0 : Cond.castable "java/lang/IndexOutOfBoundsException" "java/lang/IndexOutOfBoundsException" ∈ lw_tbl := by decide +kernel
set_option maxRecDepth 100000 in
theorem fK1 : Cond.castable "java/lang/IllegalArgumentException" "java/lang/IllegalArgumentException" ∈ lw_tbl := by decide +kernel
set_option maxRecDepth 100000 in
theorem fK2 : Cond.castable "java/lang/IllegalStateException" "java/lang/IllegalStateException" ∈ lw_tbl := by decide +kernel
set_option maxRecDepth 100000 in
theorem fD0 : Cond.declares (Bundle.initS "java/lang/RuntimeException") ∈ lw_tbl := by decide +kernel
set_option maxRecDepth 100000 in
theorem fD1 : Cond.declares (Bundle.initS "java/lang/Exception") ∈ lw_tbl := by decide +kernel
set_option maxRecDepth 100000 in
theorem fD2 : Cond.declares (Bundle.initS Bundle.tN) ∈ lw_tbl := by decide +kernel
set_option maxRecDepth 100000 in
theorem fH0 : Cond.methodLinkNest RX2 26 yX4_init RX6 ∈ lw_tbl := by decide +kernel
set_option maxRecDepth 100000 in
theorem fH1 : Cond.methodLinkNest RX2 31 yX1_init RX6 ∈ lw_tbl := by decide +kernel
set_option maxRecDepth 100000 in
theorem fH2 : Cond.methodLinkNest RX6 33 yX3_init RX6 ∈ lw_tbl := by decide +kernel
set_option maxRecDepth 100000 in
theorem fH3 : Cond.arrayOver (.object RX1) ∈ lw_tbl := by decide +kernel
set_option maxRecDepth 100000 in
theorem fH4 : Cond.arrayOver (.object RX2) ∈ lw_tbl := by decide +kernel
set_option maxRecDepth 100000 in
theorem fA0 : Cond.arrayClass .int ∈ lw_tbl := by decide +kernel
set_option maxRecDepth 100000 in
theorem fA1 : Cond.arrayClass .boolean ∈ lw_tbl := by decide +kernel
set_option maxRecDepth 100000 in
theorem fA2 : Cond.arrayClass .char ∈ lw_tbl := by decide +kernel
set_option maxRecDepth 100000 in
theorem fI0 : Cond.instantiable RX0 3 ∈ lw_tbl := by decide +kernel
set_option maxRecDepth 100000 in
theorem fI1 : Cond.instantiable RX1 7 ∈ lw_tbl := by decide +kernel
set_option maxRecDepth 100000 in
theorem fI2 : Cond.instantiable RX2 6 ∈ lw_tbl := by decide +kernel
set_option maxRecDepth 100000 in
theorem fI3 : Cond.instantiable RX3 5 ∈ lw_tbl := by decide +kernel
set_option maxRecDepth 100000 in
theorem fI4 : Cond.instantiable RX4 8 ∈ lw_tbl := by decide +kernel
set_option maxRecDepth 100000 in
theorem fI5 : Cond.instantiable RX5 3 ∈ lw_tbl := by decide +kernel
set_option maxRecDepth 100000 in
theorem fI6 : Cond.instantiable RX6 5 ∈ lw_tbl := by decide +kernel
set_option maxHeartbeats 4000000 in
set_option maxRecDepth 100000 in
theorem law_env {args : Array Value} {s : State} (hts : ∀ w ∈ lw_tbl, w.before args s = true) (hgv : (Jvm.Cond.and given_1 narrow_1).before args s = true) : ∀ G : LY, gEnv G (fun q => s.heap.size ≤ q) s s.heap := by
  have hs : ∀ w ∈ flatA, w.before args s = true := flat_of_before _ hgv
  have hA : ∀ a : Nat, a < s.heap.size → ¬ (fun q => s.heap.size ≤ q) a := fun a h => Nat.not_le.mpr h
  exact fun G => ⟨vx_Zqof (hts _ fYU) (hts _ fYi) (hs _ fZU) hA, vx_Zqof (hts _ fYN) (hts _ fYi) (hs _ fZN) hA, (List.forall_mem_cons.mpr ⟨str_of (hts _ fR130) (hs _ fS130), (List.forall_mem_cons.mpr ⟨str_of (hts _ fR256) (hs _ fS256), (List.forall_mem_cons.mpr ⟨str_of (hts _ fR283) (hs _ fS283), (List.forall_mem_cons.mpr ⟨str_of (hts _ fR285) (hs _ fS285), (List.forall_mem_cons.mpr ⟨str_of (hts _ fR287) (hs _ fS287), (List.forall_mem_cons.mpr ⟨str_of (hts _ fR293) (hs _ fS293), (List.forall_mem_cons.mpr ⟨str_of (hts _ fR296) (hs _ fS296), (List.forall_mem_cons.mpr ⟨str_of (hts _ fR298) (hs _ fS298), (List.forall_mem_cons.mpr ⟨str_of (hts _ fR48) (hs _ fS48), (List.forall_mem_cons.mpr ⟨str_of (hts _ fR96) (hs _ fS96), (fun _ h => absurd h List.not_mem_nil)⟩)⟩)⟩)⟩)⟩)⟩)⟩)⟩)⟩)⟩), (List.forall_mem_cons.mpr ⟨va_Nw.of rfl (hts _ fK0), (List.forall_mem_cons.mpr ⟨va_Nw.of rfl (hts _ fK1), (List.forall_mem_cons.mpr ⟨va_Nw.of rfl (hts _ fK2), (fun _ h => absurd h List.not_mem_nil)⟩)⟩)⟩), (fun _ h => absurd h List.not_mem_nil), (List.forall_mem_cons.mpr ⟨va_Nw.of rfl (hts _ fD0), (List.forall_mem_cons.mpr ⟨va_Nw.of rfl (hts _ fD1), (List.forall_mem_cons.mpr ⟨va_Nw.of rfl (hts _ fD2), (fun _ h => absurd h List.not_mem_nil)⟩)⟩)⟩)⟩
theorem law_nenv {args : Array Value} {s : State} (hts : ∀ w ∈ lw_tbl, w.before args s = true) : nEnv s := ⟨va_Nw.of rfl (hts _ fH0), va_Nw.of rfl (hts _ fH1), va_Nw.of rfl (hts _ fH2), va_AO.of (hts _ fH3), va_AO.of (hts _ fH4)⟩
theorem arr_K {args : Array Value} {s : State} {t : FieldType} (ht : (match t with
  | .object _ => False
  | _ => True)) (h : (Cond.arrayClass t).before args s = true) : ∃ cA, ArrOfT s cA t ∧ va_RA s cA t := by
  obtain ⟨c, k, comp, h1, h2, h3⟩ := Cond.arrayClass_spec (args := args) (first := s) (o := none) (s := s) (idx := []) h
  refine ⟨c, fun n z => ⟨fun k h => (by cases h), k, h2, comp, h3⟩, ?_⟩
  cases t with
  | object C => exact ht.elim
  | _ => exact h1
theorem arr_Q {s : State} {C : String} (h : va_AO C s) : ∃ cA, ArrOfT s cA (.object C) ∧ va_RA s cA (.object C) := by
  obtain ⟨comp, c, k, h1, -, h2, h3, h4⟩ := Cond.arrayOver_spec (args := #[]) (first := s) (o := none) (s := s) (idx := []) (n := C) h
  exact ⟨c, fun n z => ⟨fun k h => (by cases h), k, h2, comp, h3⟩, k, comp, h2, h3, h1, h4⟩
set_option maxHeartbeats 4000000 in
theorem law_K {args : Array Value} {s : State} (hts : ∀ w ∈ lw_tbl, w.before args s = true) : ∃ (cy : Nat → ClassId) (D : va_G), ∀ ad : Nat → Nat, va_K D vwCl (tyL (ad, cy, D)) s := by
  obtain ⟨c0, i0, k0⟩ := u_known (C := RX0) (T := TX0) (N := 3) (n := 3) hts tX0 (hts _ fI0)
  obtain ⟨c1, i1, k1⟩ := u_known (C := RX1) (T := TX1) (N := 7) (n := 7) hts tX1 (hts _ fI1)
  obtain ⟨c2, i2, k2⟩ := u_known (C := RX2) (T := TX2) (N := 6) (n := 6) hts tX2 (hts _ fI2)
  obtain ⟨c3, i3, k3⟩ := u_known (C := RX3) (T := TX3) (N := 5) (n := 5) hts tX3 (hts _ fI3)
  obtain ⟨c4, i4, k4⟩ := u_known (C := RX4) (T := TX4) (N := 8) (n := 8) hts tX4 (hts _ fI4)
  obtain ⟨c5, i5, k5⟩ := u_known (C := RX5) (T := TX5) (N := 3) (n := 3) hts tX5 (hts _ fI5)
  obtain ⟨c6, i6, k6⟩ := u_known (C := RX6) (T := TX6) (N := 5) (n := 5) hts tX6 (hts _ fI6)
  obtain ⟨a0, b0, d0⟩ := arr_K trivial (hts _ fA0)
  obtain ⟨a1, b1, d1⟩ := arr_K trivial (hts _ fA1)
  obtain ⟨a2, b2, d2⟩ := arr_K trivial (hts _ fA2)
  obtain ⟨a4, b4, d4⟩ := arr_Q (law_nenv hts).2.2.2.1
  obtain ⟨a5, b5, d5⟩ := arr_Q (law_nenv hts).2.2.2.2
  refine ⟨fun k => [a0, a1, a2, a4, a5].getD k a0, (fun k => [c0, c1, c2, c3, c4, c5, c6].getD k c0, fun k => [i0, i1, i2, i3, i4, i5, i6].getD k i0), fun ad => ⟨fun k q hq => ?_, fun k q hq => ?_⟩⟩
  · match k, hq with
    | 0, hq => cases hq; exact k0
    | 1, hq => cases hq; exact k1
    | 2, hq => cases hq; exact k2
    | 3, hq => cases hq; exact k3
    | 4, hq => cases hq; exact k4
    | 5, hq => cases hq; exact k5
    | 6, hq => cases hq; exact k6
    | k + 7, hq => simp [vwCl] at hq
  · match k, hq with
    | 0, hq => cases hq; exact ⟨b0, d0⟩
    | 1, hq => cases hq; exact ⟨b1, d1⟩
    | 2, hq => cases hq; exact ⟨b2, d2⟩
    | 3, hq => cases hq; exact ⟨b4, d4⟩
    | 4, hq => cases hq; exact ⟨b5, d5⟩
    | k + 5, hq => simp [tyL] at hq
