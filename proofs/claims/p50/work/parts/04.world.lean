
/-! The worlds: the class's 161 cells, the reference's 6; a memory says what number each place of each cell holds. -/
abbrev Mem : Type := Nat → Nat → Int32
abbrev LY : Type := (Nat → Nat) × (Nat → ClassId) × va_G
abbrev WF : Type := LY → Mem → va_W
def mput (g : Mem) (k j : Nat) (v : Int32) : Mem := fun a b => if a = k ∧ b = j then v else g a b
def mcpy (g : Mem) (src dst sp dp n : Nat) : Mem := fun a => if a = dst then va_cpy (g src) (g dst) sp dp n else g a
theorem mput_ne {g : Mem} {k j a : Nat} {v : Int32} (h : a ≠ k) : mput g k j v a = g a := by
  funext b
  simp [mput, h]
theorem mput_eq {g : Mem} {k j : Nat} {v : Int32} : mput g k j v k = upd (g k) j v := by
  funext b
  simp [mput, upd]
theorem mcpy_ne {g : Mem} {src dst sp dp n a : Nat} (h : a ≠ dst) : mcpy g src dst sp dp n a = g a := by
  simp [mcpy, h]
theorem mcpy_eq {g : Mem} {src dst sp dp n : Nat} : mcpy g src dst sp dp n dst = va_cpy (g src) (g dst) sp dp n := by
  simp [mcpy]
abbrev tyL (G : LY) : List (ClassId × FieldType) := [(G.2.1 0, .int), (G.2.1 1, .boolean), (G.2.1 2, .char), (G.2.1 3, .object RX1), (G.2.1 4, .object RX2)]
def Ob (wf : WF) (k ci : Nat) (fs : LY → Mem → List Value) : Prop := (∀ (G : LY) (g : Mem), (wf G g)[k]? = some (G.1 k, .inr (ci, fs G g))) ∧ (∀ (G : LY) (g g' : Mem), (∀ j, j ≠ k → g' j = g j) → (wf G g).set k (G.1 k, .inr (ci, fs G g')) = wf G g')
def Ar (wf : WF) (k t n : Nat) : Prop := (∀ (G : LY) (g : Mem), (wf G g)[k]? = some (G.1 k, .inl (G.2.1 t, n, .inl (g k)))) ∧ (∀ (G : LY) (g g' : Mem), (∀ j, j ≠ k → g' j = g j) → (wf G g).set k (G.1 k, .inl (G.2.1 t, n, .inl (g' k))) = wf G g')
def Rr (wf : WF) (k t n : Nat) (f : Nat → Nat) : Prop := ∀ (G : LY) (g : Mem), (wf G g)[k]? = some (G.1 k, .inl (G.2.1 t, n, .inr (.inr (.inr (.inr (fun j => some (G.1 (f j)))))))) 
/-! the class's layout -/
def SK (r : Nat) : Nat := if r = 0 then 2 else if r = 1 then 11 else if r < 5 then 1 else if r = 5 then 5 else if r < 9 then 9 else if r = 9 then 4 else 9
def KD (k : Nat) : Nat := if k < 153 then SK (k % 17) else if k = 153 then 0 else if k = 154 then 12 else if k = 155 then 12 else if k = 156 then 10 else if k = 157 then 3 else if k = 158 then 9 else if k = 159 then 8 else if k = 160 then 6 else 99
def LN (k : Nat) : Nat := if k = 158 then 3 else if k % 17 = 6 then 8 else if k % 17 = 7 then 328 else if k % 17 = 8 then 328 else if k % 17 = 15 then 320 else if k % 17 = 16 then 320 else 40
def fX0 (k : Nat) (G : LY) (g : Mem) : List Value := [.int (g k 0), .int (g k 1), .ref (G.1 154)]
def fX1 (k : Nat) (_ : LY) (g : Mem) : List Value := [.int (g k 0), .int (g k 1), .int (g k 2), .int (g k 3), .int (g k 4), .int (g k 5), .int (g k 6)]
def fX2 (k : Nat) (G : LY) (g : Mem) : List Value := [.int (g k 0), .int (g k 1), .int (g k 2), .ref (G.1 (k + 1)), .ref (G.1 (k + 5)), .ref (G.1 (k + 9))]
def fX3 (k : Nat) (G : LY) (g : Mem) : List Value := [.int (g k 0), .int (g k 1), .ref (G.1 158), .int (g k 3), .ref (G.1 159)]
def fX4 (k : Nat) (G : LY) (g : Mem) : List Value := [.int (g k 0), .ref (G.1 (k + 1)), .ref (G.1 (k + 2)), .ref (G.1 (k + 3)), .ref (G.1 (k + 4)), .ref (G.1 (k + 5)), .ref (G.1 (k + 6)), .ref (G.1 (k + 7))]
def fX5 (k : Nat) (G : LY) (_ : Mem) : List Value := [.ref (G.1 (k + 1)), .ref (G.1 (k + 2)), .ref (G.1 (k + 3))]
def fX6 (_ : Nat) (G : LY) (_ : Mem) : List Value := [.ref (G.1 0), .ref (G.1 153), .ref (G.1 155), .ref (G.1 156), .ref (G.1 157)]
def rX (k j : Nat) : Nat := 17 * (j + (if k = 154 then 1 else 7))
def eC (G : LY) (g : Mem) (k : Nat) : va_E :=
  if KD k = 0 then .inr (0, fX0 k G g) else if KD k = 1 then .inr (1, fX1 k G g) else if KD k = 2 then .inr (2, fX2 k G g) else if KD k = 3 then .inr (3, fX3 k G g)
  else if KD k = 4 then .inr (4, fX4 k G g) else if KD k = 5 then .inr (5, fX5 k G g) else if KD k = 6 then .inr (6, fX6 k G g)
  else if KD k = 8 then .inl (G.2.1 2, 80, .inl (g k)) else if KD k = 9 then .inl (G.2.1 0, LN k, .inl (g k)) else if KD k = 10 then .inl (G.2.1 1, 2, .inl (g k))
  else if KD k = 11 then .inl (G.2.1 3, 3, .inr (.inr (.inr (.inr (fun j => some (G.1 (k + 1 + j)))))))
  else .inl (G.2.1 4, (if k = 154 then 6 else 2), .inr (.inr (.inr (.inr (fun j => some (G.1 (rX k j)))))))
def wC : WF := fun G g => (List.range 161).map (fun k => (G.1 k, eC G g k))
theorem KD_lt {k : Nat} (h : KD k < 99) : k < 161 := by
  rcases Nat.lt_or_ge k 161 with q | q
  · exact q
  · exfalso
    have e : KD k = 99 := by
      unfold KD
      rw [if_neg (by omega), if_neg (by omega), if_neg (by omega), if_neg (by omega), if_neg (by omega), if_neg (by omega), if_neg (by omega), if_neg (by omega), if_neg (by omega)]
    omega
theorem map_at {α : Type} (f : Nat → α) {n k : Nat} (h : k < n) : ((List.range n).map f)[k]? = some (f k) := by
  rw [List.getElem?_map, List.getElem?_range h]
  rfl
theorem map_set {α : Type} (f f' : Nat → α) {n k : Nat} (hk : k < n) (h : ∀ j, j ≠ k → f' j = f j) : ((List.range n).map f).set k (f' k) = (List.range n).map f' := by
  apply List.ext_getElem?
  intro i
  rw [List.getElem?_set]
  by_cases e : k = i
  · subst e
    rw [if_pos rfl, if_pos (by rw [List.length_map, List.length_range]; exact hk), map_at f' hk]
  · rw [if_neg e]
    rcases Nat.lt_or_ge i n with q | q
    · rw [map_at f q, map_at f' q, h i (fun z => e z.symm)]
    · rw [List.getElem?_eq_none (by rw [List.length_map, List.length_range]; exact q), List.getElem?_eq_none (by rw [List.length_map, List.length_range]; exact q)]
theorem eC_ne {G : LY} {g g' : Mem} {j : Nat} (h : g' j = g j) : eC G g' j = eC G g j := by
  unfold eC fX0 fX1 fX2 fX3 fX4 fX5 fX6
  rw [h]
theorem wC_Ob {k ci : Nat} {fs : LY → Mem → List Value} (hk : k < 161) (he : ∀ (G : LY) (g : Mem), eC G g k = .inr (ci, fs G g)) : Ob wC k ci fs := by
  refine ⟨fun G g => ?_, fun G g g' hj => ?_⟩
  · rw [← he G g]
    exact map_at (fun k => (G.1 k, eC G g k)) hk
  · rw [← he G g']
    exact map_set (fun k => (G.1 k, eC G g k)) (fun k => (G.1 k, eC G g' k)) hk (fun j h => by rw [eC_ne (hj j h)])
theorem wC_Ar {k t n : Nat} (hk : k < 161) (he : ∀ (G : LY) (g : Mem), eC G g k = .inl (G.2.1 t, n, .inl (g k))) : Ar wC k t n := by
  refine ⟨fun G g => ?_, fun G g g' hj => ?_⟩
  · rw [← he G g]
    exact map_at (fun k => (G.1 k, eC G g k)) hk
  · rw [← he G g']
    exact map_set (fun k => (G.1 k, eC G g k)) (fun k => (G.1 k, eC G g' k)) hk (fun j h => by rw [eC_ne (hj j h)])
theorem wC_Rr {k t n : Nat} {f : Nat → Nat} (hk : k < 161) (he : ∀ (G : LY) (g : Mem), eC G g k = .inl (G.2.1 t, n, .inr (.inr (.inr (.inr (fun j => some (G.1 (f j)))))))) : Rr wC k t n f := by
  intro G g
  rw [← he G g]
  exact map_at (fun k => (G.1 k, eC G g k)) hk

theorem oX0 {k : Nat} (h : KD k = 0) : Ob wC k 0 (fX0 k) := wC_Ob (KD_lt (by omega)) (fun G g => by simp [eC, h])
theorem oX1 {k : Nat} (h : KD k = 1) : Ob wC k 1 (fX1 k) := wC_Ob (KD_lt (by omega)) (fun G g => by simp [eC, h])
theorem oX2 {k : Nat} (h : KD k = 2) : Ob wC k 2 (fX2 k) := wC_Ob (KD_lt (by omega)) (fun G g => by simp [eC, h])
theorem oX3 {k : Nat} (h : KD k = 3) : Ob wC k 3 (fX3 k) := wC_Ob (KD_lt (by omega)) (fun G g => by simp [eC, h])
theorem oX4 {k : Nat} (h : KD k = 4) : Ob wC k 4 (fX4 k) := wC_Ob (KD_lt (by omega)) (fun G g => by simp [eC, h])
theorem oX5 {k : Nat} (h : KD k = 5) : Ob wC k 5 (fX5 k) := wC_Ob (KD_lt (by omega)) (fun G g => by simp [eC, h])
theorem oX6 {k : Nat} (h : KD k = 6) : Ob wC k 6 (fX6 k) := wC_Ob (KD_lt (by omega)) (fun G g => by simp [eC, h])
def IA (k n : Nat) : Prop := KD k = 9 ∧ LN k = n
theorem aI {k n : Nat} (h : IA k n) : Ar wC k 0 n := wC_Ar (KD_lt (by rw [h.1]; decide)) (fun G g => by simp [eC, h.1, h.2])
theorem aZ {k : Nat} (h : KD k = 10) : Ar wC k 1 2 := wC_Ar (KD_lt (by omega)) (fun G g => by simp [eC, h])
theorem aC {k : Nat} (h : KD k = 8) : Ar wC k 2 80 := wC_Ar (KD_lt (by omega)) (fun G g => by simp [eC, h])
theorem rS {k : Nat} (h : KD k = 11) : Rr wC k 3 3 (fun j => k + 1 + j) := wC_Rr (KD_lt (by omega)) (fun G g => by simp [eC, h])
theorem rR : Rr wC 154 4 6 (fun j => 17 * (j + 1)) := wC_Rr (by decide) (fun G g => by simp [eC, KD, rX])
theorem rL : Rr wC 155 4 2 (fun j => 17 * (j + 7)) := wC_Rr (by decide) (fun G g => by simp [eC, KD, rX])
theorem kd_all {P : Nat → Prop} {c : Nat} (hc : c < 99) (h : ∀ k, k < 161 → KD k = c → P k) {k : Nat} (hk : KD k = c) : P k := h k (KD_lt (by omega)) hk
theorem k23 {k : Nat} (h : KD k = 2) : KD (k + 1) = 11 := kd_all (P := fun k => KD (k + 1) = 11) (by decide) (by (try unfold IA); decide +kernel) h
theorem k24 {k : Nat} (h : KD k = 2) : KD (k + 5) = 5 := kd_all (P := fun k => KD (k + 5) = 5) (by decide) (by (try unfold IA); decide +kernel) h
theorem k25 {k : Nat} (h : KD k = 2) : KD (k + 9) = 4 := kd_all (P := fun k => KD (k + 9) = 4) (by decide) (by (try unfold IA); decide +kernel) h
theorem k50 {k : Nat} (h : KD k = 5) : IA (k + 1) 8 := kd_all (P := fun k => IA (k + 1) 8) (by decide) (by (try unfold IA); decide +kernel) h
theorem k51 {k : Nat} (h : KD k = 5) : IA (k + 2) 328 := kd_all (P := fun k => IA (k + 2) 328) (by decide) (by (try unfold IA); decide +kernel) h
theorem k52 {k : Nat} (h : KD k = 5) : IA (k + 3) 328 := kd_all (P := fun k => IA (k + 3) 328) (by decide) (by (try unfold IA); decide +kernel) h
theorem k41 {k : Nat} (h : KD k = 4) : IA (k + 1) 40 := kd_all (P := fun k => IA (k + 1) 40) (by decide) (by (try unfold IA); decide +kernel) h
theorem k42 {k : Nat} (h : KD k = 4) : IA (k + 2) 40 := kd_all (P := fun k => IA (k + 2) 40) (by decide) (by (try unfold IA); decide +kernel) h
theorem k43 {k : Nat} (h : KD k = 4) : IA (k + 3) 40 := kd_all (P := fun k => IA (k + 3) 40) (by decide) (by (try unfold IA); decide +kernel) h
theorem k44 {k : Nat} (h : KD k = 4) : IA (k + 4) 40 := kd_all (P := fun k => IA (k + 4) 40) (by decide) (by (try unfold IA); decide +kernel) h
theorem k45 {k : Nat} (h : KD k = 4) : IA (k + 5) 40 := kd_all (P := fun k => IA (k + 5) 40) (by decide) (by (try unfold IA); decide +kernel) h
theorem k46 {k : Nat} (h : KD k = 4) : IA (k + 6) 320 := kd_all (P := fun k => IA (k + 6) 320) (by decide) (by (try unfold IA); decide +kernel) h
theorem k47 {k : Nat} (h : KD k = 4) : IA (k + 7) 320 := kd_all (P := fun k => IA (k + 7) 320) (by decide) (by (try unfold IA); decide +kernel) h
theorem k11 {k j : Nat} (h : KD k = 11) (hj : j < 3) : KD (k + 1 + j) = 1 := kd_all (P := fun k => ∀ j, j < 3 → KD (k + 1 + j) = 1) (by decide) (by decide +kernel) h j hj
theorem k12r {j : Nat} (hj : j < 6) : KD (17 * (j + 1)) = 2 := (show ∀ j, j < 6 → KD (17 * (j + 1)) = 2 by decide +kernel) j hj
theorem k12l {j : Nat} (hj : j < 2) : KD (17 * (j + 7)) = 2 := (show ∀ j, j < 2 → KD (17 * (j + 7)) = 2 by decide +kernel) j hj
theorem k0 : KD 0 = 2 := by decide
theorem k153 : KD 153 = 0 := by decide
theorem k156 : KD 156 = 10 := by decide
theorem k157 : KD 157 = 3 := by decide
theorem k158 : IA 158 3 := by unfold IA; decide
theorem k159 : KD 159 = 8 := by decide
theorem k160 : KD 160 = 6 := by decide
theorem p0_0 {k : Nat} (G : LY) (g : Mem) (x : Int32) : (fX0 k G g).set 0 (.int x) = fX0 k G (mput g k 0 x) := by simp [fX0, mput]
theorem p0_1 {k : Nat} (G : LY) (g : Mem) (x : Int32) : (fX0 k G g).set 1 (.int x) = fX0 k G (mput g k 1 x) := by simp [fX0, mput]
theorem p1_0 {k : Nat} (G : LY) (g : Mem) (x : Int32) : (fX1 k G g).set 0 (.int x) = fX1 k G (mput g k 0 x) := by simp [fX1, mput]
theorem p1_1 {k : Nat} (G : LY) (g : Mem) (x : Int32) : (fX1 k G g).set 1 (.int x) = fX1 k G (mput g k 1 x) := by simp [fX1, mput]
theorem p1_2 {k : Nat} (G : LY) (g : Mem) (x : Int32) : (fX1 k G g).set 2 (.int x) = fX1 k G (mput g k 2 x) := by simp [fX1, mput]
theorem p1_3 {k : Nat} (G : LY) (g : Mem) (x : Int32) : (fX1 k G g).set 3 (.int x) = fX1 k G (mput g k 3 x) := by simp [fX1, mput]
theorem p1_4 {k : Nat} (G : LY) (g : Mem) (x : Int32) : (fX1 k G g).set 4 (.int x) = fX1 k G (mput g k 4 x) := by simp [fX1, mput]
theorem p1_5 {k : Nat} (G : LY) (g : Mem) (x : Int32) : (fX1 k G g).set 5 (.int x) = fX1 k G (mput g k 5 x) := by simp [fX1, mput]
theorem p1_6 {k : Nat} (G : LY) (g : Mem) (x : Int32) : (fX1 k G g).set 6 (.int x) = fX1 k G (mput g k 6 x) := by simp [fX1, mput]
theorem p2_0 {k : Nat} (G : LY) (g : Mem) (x : Int32) : (fX2 k G g).set 0 (.int x) = fX2 k G (mput g k 0 x) := by simp [fX2, mput]
theorem p2_1 {k : Nat} (G : LY) (g : Mem) (x : Int32) : (fX2 k G g).set 1 (.int x) = fX2 k G (mput g k 1 x) := by simp [fX2, mput]
theorem p2_2 {k : Nat} (G : LY) (g : Mem) (x : Int32) : (fX2 k G g).set 2 (.int x) = fX2 k G (mput g k 2 x) := by simp [fX2, mput]
theorem p3_0 {k : Nat} (G : LY) (g : Mem) (x : Int32) : (fX3 k G g).set 0 (.int x) = fX3 k G (mput g k 0 x) := by simp [fX3, mput]
theorem p3_1 {k : Nat} (G : LY) (g : Mem) (x : Int32) : (fX3 k G g).set 1 (.int x) = fX3 k G (mput g k 1 x) := by simp [fX3, mput]
theorem p3_3 {k : Nat} (G : LY) (g : Mem) (x : Int32) : (fX3 k G g).set 3 (.int x) = fX3 k G (mput g k 3 x) := by simp [fX3, mput]
theorem p4_0 {k : Nat} (G : LY) (g : Mem) (x : Int32) : (fX4 k G g).set 0 (.int x) = fX4 k G (mput g k 0 x) := by simp [fX4, mput]

/-! what lies outside the worlds: the statics that a throw reads, the texts -/
def gStrs : List (String × Nat × String) := [(RX6, 130, "the timestamp is greater than the safe time"), (RX6, 256, "there is no such version"), (RX6, 283, "there is no such server"), (RX6, 285, "there is no such transaction"), (RX6, 287, "there is no such key"), (RX6, 293, "a number is out of range"), (RX6, 296, "the timestamp is negative"), (RX6, 298, "the transaction is not open"), (RX6, 48, "40 transactions have begun"), (RX6, 96, "the true time would become greater than 1000000")]
def gByt : List Int32 := [98, 114, 119, 99, 97, 116, 115]
def gExs : List String := ["java/lang/IndexOutOfBoundsException", "java/lang/IllegalArgumentException", "java/lang/IllegalStateException"]
def gNcs : List (String × String) := []
def gDecs : List MethodName := [Bundle.initS "java/lang/RuntimeException", Bundle.initS "java/lang/Exception", Bundle.initS Bundle.tN]
def gCast (U : State) : Prop := (∀ E ∈ gExs, va_Nw (.castable E E) U) ∧ (∀ q ∈ gNcs, va_Nc q.1 q.2 U) ∧ (∀ x ∈ gDecs, va_Nw (.declares x) U)
def gEnv (_ : LY) (A : Nat → Prop) (U : State) (H : Heap) : Prop := vx_Zq Bundle.tN "UNASSIGNED_STACK" Bundle.steD A U H ∧ vx_Zq Bundle.tN "SUPPRESSED_SENTINEL" Bundle.listD A U H ∧ (∀ q ∈ gStrs, ∃ a, vk_R q.1 q.2.1 q.2.2 a U) ∧ gCast U
theorem gEnv.narrow {G : LY} {A B : Nat → Prop} {U : State} {H : Heap} (h : gEnv G A U H) (hAB : ∀ q, B q → A q) : gEnv G B U H := by
  obtain ⟨h1, h2, h3, h7⟩ := h
  exact ⟨h1.narrow hAB, h2.narrow hAB, h3, h7⟩
theorem gEnv.kept {G : LY} {A : Nat → Prop} {U : State} {H H1 : Heap} (h : gEnv G A U H) (hq : ∀ a : Nat, a < H.size → ¬ A a → H1[a]? = H[a]?) : gEnv G A U H1 := by
  obtain ⟨h1, h2, h3, h7⟩ := h
  exact ⟨h1.kept hq, h2.kept hq, h3, h7⟩
theorem gEnv.warm {G : LY} {A : Nat → Prop} {s U : State} {H : Heap} (hW : s.WarmedH U.vm) (h : gEnv G A s H) : gEnv G A U H := by
  obtain ⟨h1, h2, h3, h7⟩ := h
  exact ⟨vx_Zq.moved hW.alike h1, vx_Zq.moved hW.alike h2, fun q hq => by obtain ⟨a, ha⟩ := h3 q hq; exact ⟨a, ha.warm hW⟩, ⟨fun E hE => va_Nw.warmC hW (h7.1 E hE), fun q hq => va_Nc.moved hW.alike (h7.2.1 q hq), fun x hx => va_Nw.warmD hW (h7.2.2 x hx)⟩⟩
theorem gEnv.same {G : LY} {A : Nat → Prop} {u U : State} {H : Heap} (hv : U.vm = u.vm) (h : gEnv G A u H) : gEnv G A U H := by
  obtain ⟨h1, h2, h3, h7⟩ := h
  have hA : u.vm.Alike U.vm := by rw [hv]; exact Vm.Alike.refl u.vm
  exact ⟨vx_Zq.moved hA h1, vx_Zq.moved hA h2, fun q hq => by obtain ⟨a, ha⟩ := h3 q hq; exact ⟨a, ha.same hv⟩, ⟨fun E hE => va_Nw.same rfl hv.symm (h7.1 E hE), fun q hq => va_Nc.moved hA (h7.2.1 q hq), fun x hx => va_Nw.same rfl hv.symm (h7.2.2 x hx)⟩⟩
/-! a walk's fixed things, and a world as it stands -/
def gC (p : Program) (s : State) (m : MethodId) (args : Array Value) (meth : Method) (c : Code) (cc : ByteArray) (nL : Nat) (Ts : List Cond) (own : String) (ret : Option FieldType) (G : LY) (A : Nat → Prop) : Prop :=
  p.tables.exec = Jvm.exec ∧ c.code = cc ∧ c.maxLocals = nL ∧ s.vm.findClass own = some m.cls ∧ (∀ w ∈ Ts, w.before args s = true) ∧ va_K G.2.2 vwCl (tyL G) s ∧ (∀ q, s.heap.size ≤ q → A q) ∧ meth.locks = false ∧ meth.sig.returnType = ret ∧ gEnv G A s s.heap
def WS (wf : WF) (G : LY) (g : Mem) (A : Nat → Prop) (H0 H : Heap) (locs : List Loc) : Prop := va_P G.2.2 vwCl (wf G g) H ∧ va_D A (wf G g) ∧ va_S A H0 H locs
theorem gC.env {p : Program} {s : State} {m : MethodId} {args : Array Value} {meth : Method} {c : Code} {cc : ByteArray} {nL : Nat} {Ts : List Cond} {own : String} {ret : Option FieldType} {G : LY} {A : Nat → Prop} (X : gC p s m args meth c cc nL Ts own ret G A) {H : Heap} {locs : List Loc} (hS : va_S A s.heap H locs) : gEnv G A s H := X.2.2.2.2.2.2.2.2.2.kept (fun a h1 h2 => hS.2.1 a h1 h2)
def sIdx {α : Type} (i : Int32) (n : Nat) (f : Nat → Option α) : Option α := if 0 ≤ i.toInt ∧ i.toInt < (n : Int) then f i.toNatClampNeg else none
theorem sIdx_some {α : Type} {i : Int32} {n : Nat} {f : Nat → Option α} {r : α} (h : sIdx i n f = some r) : vp_in i n ∧ f i.toNatClampNeg = some r := by
  unfold sIdx at h
  by_cases q : 0 ≤ i.toInt ∧ i.toInt < (n : Int)
  · rw [if_pos q] at h
    exact ⟨vp_in_iff.mpr q, h⟩
  · rw [if_neg q] at h
    cases h
theorem vp_in_lt {i : Int32} {n : Nat} (h : vp_in i n) : i.toNatClampNeg < n := Nat.not_le.mp fun q => h (Or.inr q)
def sLet {α β : Type} (x : α) (f : α → Option β) : Option β := f x
theorem sLet_some {α β : Type} {x : α} {f : α → Option β} {r : β} (h : sLet x f = some r) : ∃ y, y = x ∧ f y = some r := ⟨x, rfl, h⟩
def sBi {α β : Type} (o : Option α) (f : α → Option β) : Option β := match o with
  | some x => f x
  | none => none
theorem sBi_some {α β : Type} {o : Option α} {f : α → Option β} {r : β} (h : sBi o f = some r) : ∃ x, o = some x ∧ f x = some r := by
  cases o with
  | none => cases h
  | some x => exact ⟨x, rfl, h⟩
def sBi2 {α β γ : Type} (o : Option (α × β)) (f : α → β → Option γ) : Option γ := match o with
  | some x => f x.1 x.2
  | none => none
theorem sBi2_some {α β γ : Type} {o : Option (α × β)} {f : α → β → Option γ} {r : γ} (h : sBi2 o f = some r) : ∃ x y, o = some (x, y) ∧ f x y = some r := by
  cases o with
  | none => cases h
  | some x => exact ⟨x.1, x.2, rfl, h⟩
def sBb {α : Type} (x : Int32) (f : Option α) : Option α := if x = 0 ∨ x = 1 then f else none
theorem sBb_some {α : Type} {x : Int32} {f : Option α} {r : α} (h : sBb x f = some r) : narrow .boolean (.int x) = .int x ∧ f = some r := by
  unfold sBb at h
  by_cases q : x = 0 ∨ x = 1
  · rw [if_pos q] at h
    refine ⟨?_, h⟩
    rcases q with rfl | rfl <;> rfl
  · rw [if_neg q] at h
    cases h
def sMax (x y : Int32) : Int32 := if x < y then y else x
def sMin (x y : Int32) : Int32 := if y < x then y else x
def sFl (x y : Int32) : Int32 := if 0 ≤ (x ^^^ y) then x / y else if x / y * y = x then x / y else x / y - 1
section GW
variable {p : Program} {l : Launch} {e : Env} {R : Room} {s : State} {m : MethodId} {args : Array Value} {below : List Frame} {meth : Method} {c : Code} {H : Heap} {locs : List Loc} {cells slots : Nat} {Q : State → Prop} {cc : ByteArray} {nL : Nat} {Ts : List Cond} {own : String} {ret : Option FieldType} {G : LY} {A : Nat → Prop} {wf : WF} {g : Mem} {ls : Array Slot} {rest : List Value} {pc : Nat} {k : Nat}
theorem g_get {fs : LY → Mem → List Value} {ci index j N : Nat} {C ref : String} {T : u_T} (X : gC p s m args meth c cc nL Ts own ret G A) (Z : WS wf G g A s.heap H locs) (hO : Ob wf k ci fs) (hin : ∀ w ∈ u_ws C T N, w ∈ Ts) (hc : vwCl[ci]? = some (C, T, N)) (hj : j < N) (href : ref = (T j).1) (hl : Cond.fieldLink own index ref (T j).2.1 (T j).2.2.1 ∈ Ts) {v : Value} (hv : (fs G g)[j]? = some v) (hdg : decode cc pc = .ok (.getfield index, 3))
    (kk : W p l e R s m args below meth c H locs cells slots Q (F0 m (pc + 3) ls (v :: rest))) : W p l e R s m args below meth c H locs cells slots Q (F0 m pc ls (.ref (G.1 k) :: rest)) :=
  va_get (D := G.2.2) X.1 X.2.1 X.2.2.2.2.1 hin X.2.2.2.1 X.2.2.2.2.2.1 Z.1 k (hO.1 G g) hc j hj (X.2.2.2.2.1 _ hl) (fun _ h => by rw [href]; exact h) hv hdg kk
theorem g_put {fs : LY → Mem → List Value} {ci index j N : Nat} {C ref : String} {T : u_T} {ty0 : Nat → FieldType} {x : Int32} {g1 : Mem} (e1 : g1 = mput g k j x) (X : gC p s m args meth c cc nL Ts own ret G A) (Z : WS wf G g A s.heap H locs) (hO : Ob wf k ci fs) (hin : ∀ w ∈ u_ws C T N, w ∈ Ts) (hc : vwCl[ci]? = some (C, T, N)) (hty : ∀ k, k < N → parseFieldDescriptor (T k).2.2.1 = some (ty0 k)) (hnm : ∀ a, a < N → ∀ b, b < N → a ≠ b → (T a).2.1 ≠ (T b).2.1) (hj : j < N) (hd : parseFieldDescriptor (T j).2.2.1 = some .int) (hfin : (T j).2.2.2 = false) (hjl : j < (fs G g).length) (hset : (fs G g).set j (.int x) = fs G (mput g k j x)) (href : ref = (T j).1) (hl : Cond.fieldLink own index ref (T j).2.1 (T j).2.2.1 ∈ Ts) (hdg : decode cc pc = .ok (.putfield index, 3))
    (kk : ∀ (H1 : Heap) (locs1 : List Loc), WS wf G g1 A s.heap H1 locs1 → W p l e R s m args below meth c H1 locs1 cells slots Q (F0 m (pc + 3) ls rest)) : W p l e R s m args below meth c H locs cells slots Q (F0 m pc ls (.int x :: .ref (G.1 k) :: rest)) := by
  refine va_put (D := G.2.2) (v := .int x) (ty := .int) X.1 X.2.1 X.2.2.2.2.1 hin ty0 hty hnm X.2.2.2.1 X.2.2.2.2.2.1 Z.1 Z.2.1 Z.2.2 k (hO.1 G g) hc j hj (X.2.2.2.2.1 _ hl) (fun _ h => by rw [href]; exact h) hfin hd (vp_nar_int x) rfl hjl hdg (fun H1 locs1 hP hD hS => ?_)
  rw [hset, hO.2 G g _ (fun a h => mput_ne h)] at hP hD
  rw [← e1] at hP hD
  exact kk H1 locs1 ⟨hP, hD, hS⟩
theorem g_iald {n : Nat} {i : Int32} (X : gC p s m args meth c cc nL Ts own ret G A) (Z : WS wf G g A s.heap H locs) (hO : Ar wf k 0 n) (hin : vp_in i n) (hdg : decode cc pc = .ok (.iaload, 1))
    (kk : W p l e R s m args below meth c H locs cells slots Q (F0 m (pc + 1) ls (.int (g k i.toNatClampNeg) :: rest))) : W p l e R s m args below meth c H locs cells slots Q (F0 m pc ls (.int i :: .ref (G.1 k) :: rest)) :=
  va_iald (D := G.2.2) X.1 X.2.1 X.2.2.2.2.2.1 Z.1 k 0 (hO.1 G g) rfl hin hdg kk
theorem g_zald {n : Nat} {i : Int32} (X : gC p s m args meth c cc nL Ts own ret G A) (Z : WS wf G g A s.heap H locs) (hO : Ar wf k 1 n) (hin : vp_in i n) (hdg : decode cc pc = .ok (.baload, 1))
    (kk : W p l e R s m args below meth c H locs cells slots Q (F0 m (pc + 1) ls (.int (g k i.toNatClampNeg) :: rest))) : W p l e R s m args below meth c H locs cells slots Q (F0 m pc ls (.int i :: .ref (G.1 k) :: rest)) :=
  va_zald (D := G.2.2) X.1 X.2.1 X.2.2.2.2.2.1 Z.1 k 1 (hO.1 G g) rfl hin hdg kk
theorem g_cald {n : Nat} {i : Int32} (X : gC p s m args meth c cc nL Ts own ret G A) (Z : WS wf G g A s.heap H locs) (hO : Ar wf k 2 n) (hin : vp_in i n) (hdg : decode cc pc = .ok (.caload, 1))
    (kk : W p l e R s m args below meth c H locs cells slots Q (F0 m (pc + 1) ls (.int (g k i.toNatClampNeg) :: rest))) : W p l e R s m args below meth c H locs cells slots Q (F0 m pc ls (.int i :: .ref (G.1 k) :: rest)) :=
  va_cald (D := G.2.2) X.1 X.2.1 X.2.2.2.2.2.1 Z.1 k 2 (hO.1 G g) rfl hin hdg kk
theorem g_aald {n t : Nat} {C : String} {f : Nat → Nat} {i : Int32} (X : gC p s m args meth c cc nL Ts own ret G A) (Z : WS wf G g A s.heap H locs) (hO : Rr wf k t n f) (ht : (tyL G)[t]? = some (G.2.1 t, .object C)) (hin : vp_in i n) (hdg : decode cc pc = .ok (.aaload, 1))
    (kk : W p l e R s m args below meth c H locs cells slots Q (F0 m (pc + 1) ls (.ref (G.1 (f i.toNatClampNeg)) :: rest))) : W p l e R s m args below meth c H locs cells slots Q (F0 m pc ls (.int i :: .ref (G.1 k) :: rest)) :=
  va_aldq (D := G.2.2) X.1 X.2.1 X.2.2.2.2.2.1 Z.1 k t (hO G g) ht hin hdg kk
theorem g_iast {n : Nat} {i x : Int32} {g1 : Mem} (e1 : g1 = mput g k i.toNatClampNeg x) (X : gC p s m args meth c cc nL Ts own ret G A) (Z : WS wf G g A s.heap H locs) (hO : Ar wf k 0 n) (hin : vp_in i n) (hdg : decode cc pc = .ok (.iastore, 1))
    (kk : ∀ (H1 : Heap) (locs1 : List Loc), WS wf G g1 A s.heap H1 locs1 → W p l e R s m args below meth c H1 locs1 cells slots Q (F0 m (pc + 1) ls rest)) : W p l e R s m args below meth c H locs cells slots Q (F0 m pc ls (.int x :: .int i :: .ref (G.1 k) :: rest)) := by
  refine va_iast (D := G.2.2) X.1 X.2.1 X.2.2.2.2.2.1 Z.1 Z.2.1 Z.2.2 k 0 (hO.1 G g) rfl hin hdg (fun H1 locs1 hP hD hS => ?_)
  rw [← mput_eq (g := g) (k := k), hO.2 G g _ (fun a h => mput_ne h)] at hP hD
  rw [← e1] at hP hD
  exact kk H1 locs1 ⟨hP, hD, hS⟩
theorem g_zast {n : Nat} {i x : Int32} {g1 : Mem} (e1 : g1 = mput g k i.toNatClampNeg x) (X : gC p s m args meth c cc nL Ts own ret G A) (Z : WS wf G g A s.heap H locs) (hO : Ar wf k 1 n) (hin : vp_in i n) (hnx : vp_nar .boolean x = x) (hdg : decode cc pc = .ok (.bastore, 1))
    (kk : ∀ (H1 : Heap) (locs1 : List Loc), WS wf G g1 A s.heap H1 locs1 → W p l e R s m args below meth c H1 locs1 cells slots Q (F0 m (pc + 1) ls rest)) : W p l e R s m args below meth c H locs cells slots Q (F0 m pc ls (.int x :: .int i :: .ref (G.1 k) :: rest)) := by
  refine va_zast (D := G.2.2) X.1 X.2.1 X.2.2.2.2.2.1 Z.1 Z.2.1 Z.2.2 k 1 (hO.1 G g) rfl hin hdg (fun H1 locs1 hP hD hS => ?_)
  rw [hnx, ← mput_eq (g := g) (k := k), hO.2 G g _ (fun a h => mput_ne h)] at hP hD
  rw [← e1] at hP hD
  exact kk H1 locs1 ⟨hP, hD, hS⟩
theorem g_cast {n : Nat} {i x : Int32} {g1 : Mem} (e1 : g1 = mput g k i.toNatClampNeg (vp_nar .char x)) (X : gC p s m args meth c cc nL Ts own ret G A) (Z : WS wf G g A s.heap H locs) (hO : Ar wf k 2 n) (hin : vp_in i n) (hdg : decode cc pc = .ok (.castore, 1))
    (kk : ∀ (H1 : Heap) (locs1 : List Loc), WS wf G g1 A s.heap H1 locs1 → W p l e R s m args below meth c H1 locs1 cells slots Q (F0 m (pc + 1) ls rest)) : W p l e R s m args below meth c H locs cells slots Q (F0 m pc ls (.int x :: .int i :: .ref (G.1 k) :: rest)) := by
  refine va_cast (D := G.2.2) X.1 X.2.1 X.2.2.2.2.2.1 Z.1 Z.2.1 Z.2.2 k 2 (hO.1 G g) rfl hin hdg (fun H1 locs1 hP hD hS => ?_)
  rw [← mput_eq (g := g) (k := k), hO.2 G g _ (fun a h => mput_ne h)] at hP hD
  rw [← e1] at hP hD
  exact kk H1 locs1 ⟨hP, hD, hS⟩
def sCpy {α : Type} (n0 n1 : Nat) (sp dp n : Int32) (f : Option α) : Option α := if 0 ≤ sp.toInt ∧ 0 ≤ dp.toInt ∧ 0 ≤ n.toInt ∧ sp.toInt + n.toInt ≤ (n0 : Int) ∧ dp.toInt + n.toInt ≤ (n1 : Int) then f else none
theorem clamp_int {x : Int32} (h : 0 ≤ x.toInt) : (x.toNatClampNeg : Int) = x.toInt := Int.toNat_of_nonneg h
theorem not_lt0 {x : Int32} (h : 0 ≤ x.toInt) : ¬ x < 0 := by
  intro q
  have := Int32.lt_iff_toInt_lt.mp q
  simp at this
  omega
theorem sCpy_some {α : Type} {n0 n1 : Nat} {sp dp n : Int32} {f : Option α} {r : α} (h : sCpy n0 n1 sp dp n f = some r) : (¬ sp < 0 ∧ ¬ dp < 0 ∧ ¬ n < 0 ∧ sp.toNatClampNeg + n.toNatClampNeg ≤ n0 ∧ dp.toNatClampNeg + n.toNatClampNeg ≤ n1) ∧ f = some r := by
  unfold sCpy at h
  by_cases q : 0 ≤ sp.toInt ∧ 0 ≤ dp.toInt ∧ 0 ≤ n.toInt ∧ sp.toInt + n.toInt ≤ (n0 : Int) ∧ dp.toInt + n.toInt ≤ (n1 : Int)
  · rw [if_pos q] at h
    obtain ⟨q1, q2, q3, q4, q5⟩ := q
    have e1 := clamp_int q1
    have e2 := clamp_int q2
    have e3 := clamp_int q3
    exact ⟨⟨not_lt0 q1, not_lt0 q2, not_lt0 q3, by omega, by omega⟩, h⟩
  · rw [if_neg q] at h
    cases h
theorem g_acpy {n0 n1 k0 index : Nat} {sp dp n : Int32} {g1 : Mem} (e1 : g1 = mcpy g k0 k sp.toNatClampNeg dp.toNatClampNeg n.toNatClampNeg) (X : gC p s m args meth c cc nL Ts own ret G A) (Z : WS wf G g A s.heap H locs) (hO0 : Ar wf k0 0 n0) (hO1 : Ar wf k 0 n1) (hsz : ls.size = nL) (hl : Cond.methodLink own index arraycopyName ∈ Ts) (hl2 : Cond.native arraycopyName ∈ Ts) (hl3 : Cond.static arraycopyName ∈ Ts) (hl4 : Cond.initialized "java/lang/System" ∈ Ts) (q : ¬ sp < 0 ∧ ¬ dp < 0 ∧ ¬ n < 0 ∧ sp.toNatClampNeg + n.toNatClampNeg ≤ n0 ∧ dp.toNatClampNeg + n.toNatClampNeg ≤ n1) (hR1 : 1 ≤ R.frames) (hR2 : (rest.map fun v => v.category).sum + (nativeFrameWords "java/lang/System" "arraycopy" 5 + 11) ≤ R.locals) (hdg : decode cc pc = .ok (.invokestatic index, 3))
    (kk : ∀ (H1 : Heap) (locs1 : List Loc), WS wf G g1 A s.heap H1 locs1 → W p l e R s m args below meth c H1 locs1 cells slots Q (F0 m (pc + 3) ls rest)) : W p l e R s m args below meth c H locs cells slots Q (F0 m pc ls (.int n :: .int dp :: .ref (G.1 k) :: .int sp :: .ref (G.1 k0) :: rest)) := by
  refine va_copyi (D := G.2.2) (ty := .int) X.1 X.2.1 (X.2.2.1.trans hsz.symm) X.2.2.2.1 (X.2.2.2.2.1 _ hl) (X.2.2.2.2.1 _ hl2) (X.2.2.2.2.1 _ hl3) (X.2.2.2.2.1 _ hl4) X.2.2.2.2.2.1 Z.1 Z.2.1 Z.2.2 k0 k 0 0 (hO0.1 G g) (hO1.1 G g) rfl rfl rfl q.1 q.2.1 q.2.2.1 q.2.2.2.1 q.2.2.2.2 (fun i _ => rfl) hR1 hR2 hdg (fun H1 locs1 hP hD hS => ?_)
  rw [← mcpy_eq (g := g) (src := k0) (dst := k), hO1.2 G g _ (fun a h => mcpy_ne h)] at hP hD
  rw [← e1] at hP hD
  exact kk H1 locs1 ⟨hP, hD, hS⟩
theorem g_max {index : Nat} {x y : Int32} (X : gC p s m args meth c cc nL Ts own ret G A) (hsz : ls.size = nL) (hl : Cond.methodLink own index Lib.Math.max.name ∈ Ts) (hl2 : Cond.static Lib.Math.max.name ∈ Ts) (hl3 : Cond.initialized "java/lang/Math" ∈ Ts) (hl4 : Cond.code Lib.Math.max.name Lib.Math.max.code 2 (some .int) ∈ Ts) (hR : 1 ≤ R.frames ∧ (rest.map fun v => v.category).sum + 13 ≤ R.locals ∧ cells ≤ R.cells ∧ slots ≤ R.slots) (hdg : decode cc pc = .ok (.invokestatic index, 3))
    (kk : W p l e R s m args below meth c H locs cells slots Q (F0 m (pc + 3) ls (.int (sMax x y) :: rest))) : W p l e R s m args below meth c H locs cells slots Q (F0 m pc ls (.int y :: .int x :: rest)) :=
  va_mmax X.1 X.2.1 (X.2.2.1.trans hsz.symm) X.2.2.2.1 (X.2.2.2.2.1 _ hl) (X.2.2.2.2.1 _ hl2) (X.2.2.2.2.1 _ hl3) (X.2.2.2.2.1 _ hl4) hR.1 hR.2.1 hR.2.2.1 hR.2.2.2 hdg kk
theorem g_min {index : Nat} {x y : Int32} (X : gC p s m args meth c cc nL Ts own ret G A) (hsz : ls.size = nL) (hl : Cond.methodLink own index Lib.Math.min.name ∈ Ts) (hl2 : Cond.static Lib.Math.min.name ∈ Ts) (hl3 : Cond.initialized "java/lang/Math" ∈ Ts) (hl4 : Cond.code Lib.Math.min.name Lib.Math.min.code 2 (some .int) ∈ Ts) (hR : 1 ≤ R.frames ∧ (rest.map fun v => v.category).sum + 13 ≤ R.locals ∧ cells ≤ R.cells ∧ slots ≤ R.slots) (hdg : decode cc pc = .ok (.invokestatic index, 3))
    (kk : W p l e R s m args below meth c H locs cells slots Q (F0 m (pc + 3) ls (.int (sMin x y) :: rest))) : W p l e R s m args below meth c H locs cells slots Q (F0 m pc ls (.int y :: .int x :: rest)) :=
  va_mmin X.1 X.2.1 (X.2.2.1.trans hsz.symm) X.2.2.2.1 (X.2.2.2.2.1 _ hl) (X.2.2.2.2.1 _ hl2) (X.2.2.2.2.1 _ hl3) (X.2.2.2.2.1 _ hl4) hR.1 hR.2.1 hR.2.2.1 hR.2.2.2 hdg kk


/-! contracts: a method that answers a number (cI), one that answers nothing (cV); a call of each -/
def wB (wf : WF) (G : LY) (g : Mem) (A : Nat → Prop) (U : State) : Prop := va_P G.2.2 vwCl (wf G g) U.heap ∧ va_K G.2.2 vwCl (tyL G) U ∧ va_D A (wf G g)
def aW (wf : WF) (G : LY) (sz : Nat) : Nat → Prop := va_A (wf G (fun _ _ => 0)) sz
def sameAd (wf : WF) : Prop := ∀ (G : LY) (g g' : Mem) (q : Nat), (∃ (k : Nat) (e : va_E), (wf G g)[k]? = some (q, e)) → ∃ (k : Nat) (e : va_E), (wf G g')[k]? = some (q, e)
theorem sameAd_map (N : Nat) (ef : LY → Mem → Nat → va_E) : sameAd (fun G g => (List.range N).map (fun k => (G.1 k, ef G g k))) := by
  rintro G g g' q ⟨k, e, h⟩
  have hk : k < N := by
    rcases Nat.lt_or_ge k N with z | z
    · exact z
    · rw [List.getElem?_eq_none (by rw [List.length_map, List.length_range]; exact z)] at h
      cases h
  have h2 := (map_at (fun k => (G.1 k, ef G g k)) hk).symm.trans h
  refine ⟨k, ef G g' k, (map_at (fun k => (G.1 k, ef G g' k)) hk).trans ?_⟩
  have e1 : G.1 k = q := congrArg Prod.fst (Option.some.inj h2)
  rw [e1]
theorem sameC : sameAd wC := sameAd_map 161 eC
theorem aW_eq {wf : WF} (hs : sameAd wf) (G : LY) (g : Mem) (sz : Nat) : va_A (wf G g) sz = aW wf G sz := by
  funext q
  apply propext
  exact ⟨fun h => h.elim (fun z => Or.inl (hs G g _ q z)) Or.inr, fun h => h.elim (fun z => Or.inl (hs G _ g q z)) Or.inr⟩
def pC (wf : WF) (G : LY) (g : Mem) (sz : Nat) (U : State) : Prop := U.heap.size = sz ∧ wB wf G g (fun _ => True) U ∧ gEnv G (aW wf G sz) U U.heap
theorem pC_blind {wf : WF} {G : LY} {g : Mem} {sz : Nat} {av : List Value} : FrameBlind (va_Pc av (pC wf G g sz)) := fun a U g9 mk q => by
  obtain ⟨q0, q1, ⟨qP, qK, qD⟩, qE⟩ := q
  exact ⟨q0, q1, ⟨qP, va_K.moved (u := U) (U := U.calling g9 mk a) (Vm.Alike.refl U.vm) qK, qD⟩, gEnv.same (u := U) (U := U.calling g9 mk a) rfl qE⟩
def cI (l : Launch) (y : MethodName) (ws : List Cond) (f lo : Nat) (ty : FieldType) (wf : WF) (G : LY) (As : List Value) (g : Mem) (r0 : Int32) (g0 : Mem) : Prop :=
  ∀ sz : Nat, Met l y ws { frames := f, cells := 0, slots := 0, locals := lo } (va_Pc As (pC wf G g sz)) (va_Qi (fun (r : Int32) (u : Mem) => (r = r0 ∧ u = g0) ∧ narrow ty (.int r0) = .int r0) (fun u t => wB wf G u (aW wf G sz) t) (aW wf G sz)) 0 0 (aW wf G sz)
def cV (l : Launch) (y : MethodName) (ws : List Cond) (f lo : Nat) (wf : WF) (G : LY) (As : List Value) (g g0 : Mem) : Prop :=
  ∀ sz : Nat, Met l y ws { frames := f, cells := 0, slots := 0, locals := lo } (va_Pc As (pC wf G g sz)) (va_Qv (fun (u : Mem) => u = g0) (fun u t => wB wf G u (aW wf G sz) t) (aW wf G sz)) 0 0 (aW wf G sz)
theorem mk_cI {y : MethodName} {ws ws' : List Cond} {f lo : Nat} {ty : FieldType} {As : List Value} {r0 : Int32} {g0 : Mem} {maxL : Nat} (hs : sameAd wf) (hy : plainFor y = true) (hw : ws = Cond.code y cc maxL (some ty) :: ws') (hn : (lg_sl As).length ≤ maxL)
    (body : ∀ (p : Program) (e : Env) (s : State) (m : MethodId) (args : Array Value) (below : List Frame) (meth : Method) (c : Code) (A : Nat → Prop) (Q : State → Prop) (ls : Array Slot), gC p s m args meth c cc maxL ws y.cls (some ty) G A → (∀ (pc : Nat) (ls : Array Slot) (H : Heap) (locs : List Loc), decode cc pc = .ok (.ireturn, 1) → WS wf G g0 A s.heap H locs → narrow ty (.int r0) = .int r0 → W p l e { frames := f, cells := 0, slots := 0, locals := lo } s m args below meth c H locs 0 0 Q (F0 m pc ls [.int r0])) → lv_has ls maxL (lv_args 0 As) → WS wf G g A s.heap s.heap [] → W p l e { frames := f, cells := 0, slots := 0, locals := lo } s m args below meth c s.heap [] 0 0 Q (F0 m 0 ls [])) : cI l y ws f lo ty wf G As g r0 g0 := by
  intro sz
  refine va_MetF (cc := cc) (maxL := maxL) (ret := some ty) hy hw ?_
  intro p e s m args below meth c s₁ B hml hv
  obtain ⟨rfl, hsz, ⟨hP, hK, hD⟩, hE⟩ := hv
  subst hsz
  have hl := lv_entry As (n := maxL) hn
  rw [lg_entry_eq]
  have hD2 : va_D (aW wf G s.heap.size) (wf G g) := by rw [← aW_eq hs G g]; exact hD.self
  refine body p e s m _ below meth c (aW wf G s.heap.size) _ _ ⟨B.exec, B.bytes, hml, findClass_of_methodNamed B.named, atoms_spec (ws := ws) B.pre, hK, fun q h => Or.inr h, B.notSynchronized, B.returns, hE⟩ ?_ hl ⟨hP, hD2, va_S.rf⟩
  intro pc ls H locs hdg Z hnr
  have hlocks := B.notSynchronized
  exact W.zret B.exec B.bytes B.returns hnr (fun t ht hW => ⟨⟨r0, g0, rfl, ⟨⟨rfl, rfl⟩, hnr⟩, by rw [ht]; exact Z.1, va_K.moved hW.alike hK, Z.2.1⟩, Z.2.2.F ht⟩) Z.2.2.2.2 hdg
theorem mk_cV {y : MethodName} {ws ws' : List Cond} {f lo : Nat} {As : List Value} {g0 : Mem} {maxL : Nat} (hs : sameAd wf) (hy : plainFor y = true) (hw : ws = Cond.code y cc maxL none :: ws') (hn : (lg_sl As).length ≤ maxL)
    (body : ∀ (p : Program) (e : Env) (s : State) (m : MethodId) (args : Array Value) (below : List Frame) (meth : Method) (c : Code) (A : Nat → Prop) (Q : State → Prop) (ls : Array Slot), gC p s m args meth c cc maxL ws y.cls none G A → (∀ (pc : Nat) (ls : Array Slot) (H : Heap) (locs : List Loc), decode cc pc = .ok (.return_, 1) → WS wf G g0 A s.heap H locs → W p l e { frames := f, cells := 0, slots := 0, locals := lo } s m args below meth c H locs 0 0 Q (F0 m pc ls [])) → lv_has ls maxL (lv_args 0 As) → WS wf G g A s.heap s.heap [] → W p l e { frames := f, cells := 0, slots := 0, locals := lo } s m args below meth c s.heap [] 0 0 Q (F0 m 0 ls [])) : cV l y ws f lo wf G As g g0 := by
  intro sz
  refine va_MetF (cc := cc) (maxL := maxL) (ret := none) hy hw ?_
  intro p e s m args below meth c s₁ B hml hv
  obtain ⟨rfl, hsz, ⟨hP, hK, hD⟩, hE⟩ := hv
  subst hsz
  have hl := lv_entry As (n := maxL) hn
  rw [lg_entry_eq]
  have hD2 : va_D (aW wf G s.heap.size) (wf G g) := by rw [← aW_eq hs G g]; exact hD.self
  refine body p e s m _ below meth c (aW wf G s.heap.size) _ _ ⟨B.exec, B.bytes, hml, findClass_of_methodNamed B.named, atoms_spec (ws := ws) B.pre, hK, fun q h => Or.inr h, B.notSynchronized, B.returns, hE⟩ ?_ hl ⟨hP, hD2, va_S.rf⟩
  intro pc ls H locs hdg Z
  have hlocks := B.notSynchronized
  exact W.vret B.exec B.bytes B.returns (fun t ht hW => ⟨⟨g0, rfl, rfl, by rw [ht]; exact Z.1, va_K.moved hW.alike hK, Z.2.1⟩, Z.2.2.F ht⟩) Z.2.2.2.2 hdg
/-- what a call needs of this place, and what it leaves -/
theorem g_pre (hs : sameAd wf) (X : gC p s m args meth c cc nL Ts own ret G A) (Z : WS wf G g A s.heap H locs) : (∀ q, aW wf G H.size q → A q) ∧ ∀ U : State, U.heap = H → s.WarmedH U.vm → pC wf G g H.size U := by
  have hA : ∀ q, aW wf G H.size q → A q := by
    intro q h
    rcases h with h | h
    · obtain ⟨k, e, hk⟩ := hs G _ g q h
      exact Z.2.1.2 k _ hk
    · exact X.2.2.2.2.2.2.1 q (Nat.le_trans Z.2.2.1 h)
  refine ⟨hA, fun U hU hW => ⟨by rw [hU], ⟨by rw [hU]; exact Z.1, va_K.moved hW.alike X.2.2.2.2.2.1, Z.2.1.weaken (fun _ _ _ _ => trivial)⟩, ?_⟩⟩
  rw [hU]
  exact ((X.env Z.2.2).narrow hA).warm hW
theorem g_behind (hs : sameAd wf) {g0 : Mem} {H1 : Heap} {locs1 : List Loc} (X : gC p s m args meth c cc nL Ts own ret G A) (Z : WS wf G g A s.heap H locs) {t : State} (ht : t.heap = H1) (hB : wB wf G g0 (aW wf G H.size) t) (hS : va_S A s.heap H1 locs1) : WS wf G g0 A s.heap H1 locs1 := by
  obtain ⟨hP, -, hD⟩ := hB
  rw [ht] at hP
  exact ⟨hP, hD.weaken (fun k q hk _ => (g_pre hs X Z).1 _ (hD.2 k q hk)), hS⟩
theorem g_callVI {y : MethodName} {ws ws' : List Cond} {f lo maxL index n ci kt : Nat} {ty : FieldType} {As st : List Value} {r0 : Int32} {g0 : Mem} {C : String} {bytes : ByteArray} {T : u_T} {N : Nat} {fs : LY → Mem → List Value} (hs : sameAd wf) (X : gC p s m args meth c cc nL Ts own ret G A) (Z : WS wf G g A s.heap H locs) (hM : cI l y ws f lo ty wf G (.ref (G.1 kt) :: As) g r0 g0) (hO : Ob wf kt ci fs) (hc : vwCl[ci]? = some (C, T, N)) (hT : GoodIn Ts (wsV own index C y ws)) (hw : ws = Cond.code y bytes maxL (some ty) :: ws') (hd : y.cls = C ∧ y.cls ≠ "java/lang/invoke/MethodHandle" ∧ y.cls ≠ "java/lang/invoke/VarHandle" ∧ (parseMethodDescriptor y.desc).map (fun d => d.parameters.length) = some n) (hn : As.length = n) (hR : f + 1 ≤ R.frames ∧ 8 + (maxL + 11) + lo ≤ R.locals) (hcs : cells ≤ R.cells ∧ slots ≤ R.slots) (hsz : ls.size = nL) (hst : st = As.reverse ++ .ref (G.1 kt) :: rest) (hr8 : (rest.map fun v => v.category).sum ≤ 8) (hdg : decode cc pc = .ok (.invokevirtual index, 3))
    (kk : narrow ty (.int r0) = .int r0 → ∀ (H1 : Heap) (locs1 : List Loc), WS wf G g0 A s.heap H1 locs1 → W p l e R s m args below meth c H1 locs1 cells slots Q (F0 m (pc + 3) ls (.int r0 :: rest))) : W p l e R s m args below meth c H locs cells slots Q (F0 m pc ls st) := by
  subst hst
  have hp := g_pre hs X Z
  refine va_calli (va_runV (As := As) (rest := rest) ⟨X.1, X.2.1, X.2.2.1, X.2.2.2.1, X.2.2.2.2.1⟩ (hM H.size) (cwV n X.2.2.2.2.1 hT hw rfl rfl hd hR) ⟨pC_blind, va_recv X.2.2.2.2.2.1 Z.1 hc (hO.1 G g), fun U hU hW => ⟨rfl, hp.2 U hU hW⟩⟩ rfl hn hsz rfl (lv_room hr8) hdg hcs) Z.2.2 (fun q _ h => hp.1 q h) hp.1 (fun r u t H1 locs1 ht hvm hw2 hB hz1 hk1 hS => ?_)
  obtain ⟨⟨rfl, rfl⟩, hnr⟩ := hw2
  exact kk hnr H1 locs1 (g_behind hs X Z ht hB hS)
theorem g_callVV {y : MethodName} {ws ws' : List Cond} {f lo maxL index n ci kt : Nat} {As st : List Value} {g0 : Mem} {C : String} {bytes : ByteArray} {T : u_T} {N : Nat} {fs : LY → Mem → List Value} (hs : sameAd wf) (X : gC p s m args meth c cc nL Ts own ret G A) (Z : WS wf G g A s.heap H locs) (hM : cV l y ws f lo wf G (.ref (G.1 kt) :: As) g g0) (hO : Ob wf kt ci fs) (hc : vwCl[ci]? = some (C, T, N)) (hT : GoodIn Ts (wsV own index C y ws)) (hw : ws = Cond.code y bytes maxL none :: ws') (hd : y.cls = C ∧ y.cls ≠ "java/lang/invoke/MethodHandle" ∧ y.cls ≠ "java/lang/invoke/VarHandle" ∧ (parseMethodDescriptor y.desc).map (fun d => d.parameters.length) = some n) (hn : As.length = n) (hR : f + 1 ≤ R.frames ∧ 8 + (maxL + 11) + lo ≤ R.locals) (hcs : cells ≤ R.cells ∧ slots ≤ R.slots) (hsz : ls.size = nL) (hst : st = As.reverse ++ .ref (G.1 kt) :: rest) (hr8 : (rest.map fun v => v.category).sum ≤ 8) (hdg : decode cc pc = .ok (.invokevirtual index, 3))
    (kk : ∀ (H1 : Heap) (locs1 : List Loc), WS wf G g0 A s.heap H1 locs1 → W p l e R s m args below meth c H1 locs1 cells slots Q (F0 m (pc + 3) ls rest)) : W p l e R s m args below meth c H locs cells slots Q (F0 m pc ls st) := by
  subst hst
  have hp := g_pre hs X Z
  refine va_callv (va_runV (As := As) (rest := rest) ⟨X.1, X.2.1, X.2.2.1, X.2.2.2.1, X.2.2.2.2.1⟩ (hM H.size) (cwV n X.2.2.2.2.1 hT hw rfl rfl hd hR) ⟨pC_blind, va_recv X.2.2.2.2.2.1 Z.1 hc (hO.1 G g), fun U hU hW => ⟨rfl, hp.2 U hU hW⟩⟩ rfl hn hsz rfl (lv_room hr8) hdg hcs) Z.2.2 (fun q _ h => hp.1 q h) hp.1 (fun u t H1 locs1 ht hvm hw2 hB hz1 hk1 hS => ?_)
  subst hw2
  exact kk H1 locs1 (g_behind hs X Z ht hB hS)
theorem g_callSI {y : MethodName} {ws ws' : List Cond} {f lo maxL index n : Nat} {ty : FieldType} {As st : List Value} {r0 : Int32} {g0 : Mem} {bytes : ByteArray} (hs : sameAd wf) (X : gC p s m args meth c cc nL Ts own ret G A) (Z : WS wf G g A s.heap H locs) (hM : cI l y ws f lo ty wf G As g r0 g0) (hT : GoodIn Ts (va_wsS own index y ws)) (hw : ws = Cond.code y bytes maxL (some ty) :: ws') (hd : y.cls ≠ "java/lang/invoke/MethodHandle" ∧ y.cls ≠ "java/lang/invoke/VarHandle" ∧ (parseMethodDescriptor y.desc).map (fun d => d.parameters.length) = some n) (hn : As.length = n) (hR : f + 1 ≤ R.frames ∧ 8 + (maxL + 11) + lo ≤ R.locals) (hcs : cells ≤ R.cells ∧ slots ≤ R.slots) (hsz : ls.size = nL) (hst : st = As.reverse ++ rest) (hr8 : (rest.map fun v => v.category).sum ≤ 8) (hdg : decode cc pc = .ok (.invokestatic index, 3))
    (kk : narrow ty (.int r0) = .int r0 → ∀ (H1 : Heap) (locs1 : List Loc), WS wf G g0 A s.heap H1 locs1 → W p l e R s m args below meth c H1 locs1 cells slots Q (F0 m (pc + 3) ls (.int r0 :: rest))) : W p l e R s m args below meth c H locs cells slots Q (F0 m pc ls st) := by
  subst hst
  have hp := g_pre hs X Z
  refine va_calli (va_runS (As := As) (rest := rest) ⟨X.1, X.2.1, X.2.2.1, X.2.2.2.1, X.2.2.2.2.1⟩ (hM H.size) (va_cwS n X.2.2.2.2.1 hT hw rfl rfl hd hR) ⟨pC_blind, fun U hU hW => ⟨rfl, hp.2 U hU hW⟩⟩ rfl hn hsz rfl (lv_room hr8) hdg hcs) Z.2.2 (fun q _ h => hp.1 q h) hp.1 (fun r u t H1 locs1 ht hvm hw2 hB hz1 hk1 hS => ?_)
  obtain ⟨⟨rfl, rfl⟩, hnr⟩ := hw2
  exact kk hnr H1 locs1 (g_behind hs X Z ht hB hS)
theorem nb0 : narrow .boolean (.int 0) = .int 0 := rfl
theorem nb1 : narrow .boolean (.int 1) = .int 1 := rfl
theorem g_tbl {dflt lo hi : Int} {offs : Array Int} {len : Nat} {x : Int32} {tgt : Nat} (ks : List Int32) (hexec : p.tables.exec = Jvm.exec) (hb : c.code = cc) (hdg : decode cc pc = .ok (.tableswitch dflt lo hi offs, len)) (ht : (pc : Int) + dflt = (tgt : Int)) (hok : ∀ i, i < (hi - lo + 1).toNat → offs[i]? = some dflt ∨ ∃ k ∈ ks, k.toInt = lo + (i : Int)) (hne : ∀ k ∈ ks, ¬ x = k)
    (kk : W p l e R s m args below meth c H locs cells slots Q (F0 m tgt ls rest)) : W p l e R s m args below meth c H locs cells slots Q (F0 m pc ls (.int x :: rest)) := by
  by_cases h1 : x.toInt < lo
  · exact lv_tableOut hexec hb hdg (Or.inl h1) ht kk
  · by_cases h2 : hi < x.toInt
    · exact lv_tableOut hexec hb hdg (Or.inr h2) ht kk
    · rcases hok (x.toInt - lo).toNat (by omega) with h | ⟨k, hk, hk2⟩
      · exact lv_tableIn hexec hb hdg h1 h2 h ht kk
      · exact absurd (Int32.toInt_inj.mp (by rw [hk2]; omega)) (hne k hk)
end GW

theorem iB0 (c0 : Cond) : ∀ w ∈ u_ws RX0 TX0 3, w ∈ c0 :: wA0 := fun w h => List.mem_cons_of_mem _ (iA0 w h)
theorem iB1 (c0 : Cond) : ∀ w ∈ u_ws RX1 TX1 7, w ∈ c0 :: wA0 := fun w h => List.mem_cons_of_mem _ (iA1 w h)
theorem iB2 (c0 : Cond) : ∀ w ∈ u_ws RX2 TX2 6, w ∈ c0 :: wA0 := fun w h => List.mem_cons_of_mem _ (iA2 w h)
theorem iB3 (c0 : Cond) : ∀ w ∈ u_ws RX3 TX3 5, w ∈ c0 :: wA0 := fun w h => List.mem_cons_of_mem _ (iA3 w h)
theorem iB4 (c0 : Cond) : ∀ w ∈ u_ws RX4 TX4 8, w ∈ c0 :: wA0 := fun w h => List.mem_cons_of_mem _ (iA4 w h)
theorem iB5 (c0 : Cond) : ∀ w ∈ u_ws RX5 TX5 3, w ∈ c0 :: wA0 := fun w h => List.mem_cons_of_mem _ (iA5 w h)
theorem iB6 (c0 : Cond) : ∀ w ∈ u_ws RX6 TX6 5, w ∈ c0 :: wA0 := fun w h => List.mem_cons_of_mem _ (iA6 w h)
