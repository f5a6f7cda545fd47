
/-! methods that may throw: 0 is 'returned', 1 to 3 the exceptions -/
def gExN (ec : Nat) : String := if ec = 1 then "java/lang/IndexOutOfBoundsException" else if ec = 2 then "java/lang/IllegalArgumentException" else "java/lang/IllegalStateException"
def sReq {β : Type} (o : Option Nat) (thr : Nat → Option β) (k : Option β) : Option β := match o with
  | none => none
  | some 0 => k
  | some (n + 1) => thr (n + 1)
theorem sReq_some {β : Type} {o : Option Nat} {thr : Nat → Option β} {k : Option β} {r : β} (h : sReq o thr k = some r) : (o = some 0 ∧ k = some r) ∨ ∃ ec : Nat, ec ≠ 0 ∧ o = some ec ∧ thr ec = some r := by
  match o, h with
  | some 0, h => exact Or.inl ⟨rfl, h⟩
  | some (n + 1), h => exact Or.inr ⟨n + 1, Nat.succ_ne_zero n, rfl, h⟩
def cXI (l : Launch) (y : MethodName) (ws : List Cond) (f lo mc ms : Nat) (ty : FieldType) (wf : WF) (G : LY) (As : List Value) (g : Mem) (ec : Nat) (r0 : Int32) (g0 : Mem) : Prop :=
  ∀ sz : Nat, vx_Met l y ws { frames := f, cells := mc, slots := ms, locals := lo } (va_Pc As (pC wf G g sz)) (va_Qi (fun (r : Int32) (u : Mem) => (ec = 0 ∧ r = r0 ∧ u = g0) ∧ narrow ty (.int r0) = .int r0) (fun u t => wB wf G u (aW wf G sz) t) (aW wf G sz)) (vx_X (fun (u : Mem) => ec ≠ 0 ∧ u = g0) (fun E u t => E = gExN ec ∧ wB wf G u (aW wf G sz) t) (aW wf G sz)) mc ms (aW wf G sz)
def cXV (l : Launch) (y : MethodName) (ws : List Cond) (f lo mc ms : Nat) (wf : WF) (G : LY) (As : List Value) (g : Mem) (ec : Nat) (g0 : Mem) : Prop :=
  ∀ sz : Nat, vx_Met l y ws { frames := f, cells := mc, slots := ms, locals := lo } (va_Pc As (pC wf G g sz)) (va_Qv (fun (u : Mem) => ec = 0 ∧ u = g0) (fun u t => wB wf G u (aW wf G sz) t) (aW wf G sz)) (vx_X (fun (u : Mem) => ec ≠ 0 ∧ u = g0) (fun E u t => E = gExN ec ∧ wB wf G u (aW wf G sz) t) (aW wf G sz)) mc ms (aW wf G sz)
/-- what a throw with the code ec owes at its end -/
def gTh (XC : String → State → State → Prop) (s : State) (wf : WF) (G : LY) (A : Nat → Prop) (ec : Nat) (g0 : Mem) : Prop := ∀ (H : Heap) (locs : List Loc), WS wf G g0 A s.heap H locs → ∀ t : State, s.vm.Alike t.vm → H.size ≤ t.heap.size → (∀ q : Nat, q < H.size → t.heap[q]? = H[q]?) → XC (gExN ec) s t
section GX
variable {p : Program} {l : Launch} {e : Env} {R : Room} {s : State} {m : MethodId} {args : Array Value} {below : List Frame} {meth : Method} {c : Code} {H : Heap} {locs : List Loc} {cells slots : Nat} {cc : ByteArray} {nL : Nat} {Ts : List Cond} {own : String} {ret : Option FieldType} {G : LY} {A : Nat → Prop} {wf : WF} {g : Mem} {ls : Array Slot} {rest : List Value} {pc mc ms : Nat} {Qc : Array Value → State → Outcome → State → Prop} {XC : String → State → State → Prop}
theorem g_keepP {g : Mem} {H1 : Heap} (h : va_P G.2.2 vwCl (wf G g) H) (hq : ∀ q : Nat, q < H.size → H1[q]? = H[q]?) : va_P G.2.2 vwCl (wf G g) H1 := fun k q hk => by
  have h1 := h k q hk
  exact h1.kept (hq q.1 h1.lt)
theorem mk_X (hs : sameAd wf) {g0 : Mem} {ec : Nat} {sz : Nat} (hK : va_K G.2.2 vwCl (tyL G) s) (hec : ec ≠ 0) (hA : A = aW wf G sz) : gTh (vx_X (fun (u : Mem) => ec ≠ 0 ∧ u = g0) (fun E u t => E = gExN ec ∧ wB wf G u (aW wf G sz) t) (aW wf G sz)) s wf G A ec g0 := by
  subst hA
  intro H locs Z t hal hz hq
  refine ⟨g0, ⟨hec, rfl⟩, ⟨rfl, g_keepP Z.1 hq, va_K.moved hal hK, Z.2.1⟩, Nat.le_trans Z.2.2.1 hz, fun q h1 h2 => ?_⟩
  rw [hq q (Nat.lt_of_lt_of_le h1 Z.2.2.1)]
  exact Z.2.2.2.1 q h1 h2
theorem mk_cXI {y : MethodName} {ws ws' : List Cond} {f lo : Nat} {ty : FieldType} {As : List Value} {ec : Nat} {r0 : Int32} {g0 : Mem} {maxL : Nat} (hs : sameAd wf) (hy : plainName y.cls = true) (hw : ws = Cond.code y cc maxL (some ty) :: ws') (hn : (lg_sl As).length ≤ maxL)
    (body : ∀ (p : Program) (e : Env) (s : State) (m : MethodId) (args : Array Value) (below : List Frame) (meth : Method) (c : Code) (A : Nat → Prop) (Qc : Array Value → State → Outcome → State → Prop) (XC : String → State → State → Prop) (ls : Array Slot), gC p s m args meth c cc maxL ws y.cls (some ty) G A → (∀ x ∈ c.exceptionTable.toList, False) → (∀ (pc : Nat) (ls : Array Slot) (H : Heap) (locs : List Loc) (cells slots : Nat), cells ≤ mc → slots ≤ ms → ec = 0 → decode cc pc = .ok (.ireturn, 1) → WS wf G g0 A s.heap H locs → narrow ty (.int r0) = .int r0 → W p l e { frames := f, cells := mc, slots := ms, locals := lo } s m args below meth c H locs cells slots (vx_MQ below Qc XC args s mc ms A) (F0 m pc ls [.int r0])) → (ec ≠ 0 → gTh XC s wf G A ec g0) → lv_has ls maxL (lv_args 0 As) → WS wf G g A s.heap s.heap [] → W p l e { frames := f, cells := mc, slots := ms, locals := lo } s m args below meth c s.heap [] 0 0 (vx_MQ below Qc XC args s mc ms A) (F0 m 0 ls [])) : cXI l y ws f lo mc ms ty wf G As g ec r0 g0 := by
  intro sz
  refine vx_ofW (cc := cc) (maxL := maxL) (ret := some ty) hy hw ?_
  intro p e s m args below meth c s₁ B hml hNX hv
  obtain ⟨rfl, hsz, ⟨hP, hK, hD⟩, hE⟩ := hv
  subst hsz
  have hl := lv_entry As (n := maxL) hn
  rw [lg_entry_eq]
  have hD2 : va_D (aW wf G s.heap.size) (wf G g) := by rw [← aW_eq hs G g]; exact hD.self
  refine body p e s m _ below meth c (aW wf G s.heap.size) _ _ _ ⟨B.exec, B.bytes, hml, findClass_of_methodNamed B.named, atoms_spec (ws := ws) B.pre, hK, fun q h => Or.inr h, B.notSynchronized, B.returns, hE⟩ hNX ?_ (fun hec => mk_X hs hK hec rfl) hl ⟨hP, hD2, va_S.rf⟩
  intro pc ls H locs cells slots hc1 hs1 hec hdg Z hnr
  have hlocks := B.notSynchronized
  refine vx_ret (W.widen hc1 hs1 ?_)
  exact W.zret B.exec B.bytes B.returns hnr (fun t ht hW => ⟨⟨r0, g0, rfl, ⟨⟨hec, rfl, rfl⟩, hnr⟩, by rw [ht]; exact Z.1, va_K.moved hW.alike hK, Z.2.1⟩, Z.2.2.F ht⟩) Z.2.2.2.2 hdg
theorem mk_cXV {y : MethodName} {ws ws' : List Cond} {f lo : Nat} {As : List Value} {ec : Nat} {g0 : Mem} {maxL : Nat} (hs : sameAd wf) (hy : plainName y.cls = true) (hw : ws = Cond.code y cc maxL none :: ws') (hn : (lg_sl As).length ≤ maxL)
    (body : ∀ (p : Program) (e : Env) (s : State) (m : MethodId) (args : Array Value) (below : List Frame) (meth : Method) (c : Code) (A : Nat → Prop) (Qc : Array Value → State → Outcome → State → Prop) (XC : String → State → State → Prop) (ls : Array Slot), gC p s m args meth c cc maxL ws y.cls none G A → (∀ x ∈ c.exceptionTable.toList, False) → (∀ (pc : Nat) (ls : Array Slot) (H : Heap) (locs : List Loc) (cells slots : Nat), cells ≤ mc → slots ≤ ms → ec = 0 → decode cc pc = .ok (.return_, 1) → WS wf G g0 A s.heap H locs → W p l e { frames := f, cells := mc, slots := ms, locals := lo } s m args below meth c H locs cells slots (vx_MQ below Qc XC args s mc ms A) (F0 m pc ls [])) → (ec ≠ 0 → gTh XC s wf G A ec g0) → lv_has ls maxL (lv_args 0 As) → WS wf G g A s.heap s.heap [] → W p l e { frames := f, cells := mc, slots := ms, locals := lo } s m args below meth c s.heap [] 0 0 (vx_MQ below Qc XC args s mc ms A) (F0 m 0 ls [])) : cXV l y ws f lo mc ms wf G As g ec g0 := by
  intro sz
  refine vx_ofW (cc := cc) (maxL := maxL) (ret := none) hy hw ?_
  intro p e s m args below meth c s₁ B hml hNX hv
  obtain ⟨rfl, hsz, ⟨hP, hK, hD⟩, hE⟩ := hv
  subst hsz
  have hl := lv_entry As (n := maxL) hn
  rw [lg_entry_eq]
  have hD2 : va_D (aW wf G s.heap.size) (wf G g) := by rw [← aW_eq hs G g]; exact hD.self
  refine body p e s m _ below meth c (aW wf G s.heap.size) _ _ _ ⟨B.exec, B.bytes, hml, findClass_of_methodNamed B.named, atoms_spec (ws := ws) B.pre, hK, fun q h => Or.inr h, B.notSynchronized, B.returns, hE⟩ hNX ?_ (fun hec => mk_X hs hK hec rfl) hl ⟨hP, hD2, va_S.rf⟩
  intro pc ls H locs cells slots hc1 hs1 hec hdg Z
  have hlocks := B.notSynchronized
  refine vx_ret (W.widen hc1 hs1 ?_)
  exact W.vret B.exec B.bytes B.returns (fun t ht hW => ⟨⟨g0, rfl, ⟨hec, rfl⟩, by rw [ht]; exact Z.1, va_K.moved hW.alike hK, Z.2.1⟩, Z.2.2.F ht⟩) Z.2.2.2.2 hdg
/-- a call of a method that may throw: it returns -/
theorem g_xcall0 {y : MethodName} {ws ws' : List Cond} {f lo maxL index n ci kt mcc msc c1 s1 : Nat} {As st : List Value} {C : String} {bytes : ByteArray} {T : u_T} {N : Nat} {fs : LY → Mem → List Value} (hs : sameAd wf) (X : gC p s m args meth c cc nL Ts own ret G A) (Z : WS wf G g A s.heap H locs) (hM : cXV l y ws f lo mcc msc wf G (.ref (G.1 kt) :: As) g 0 g) (hO : Ob wf kt ci fs) (hc : vwCl[ci]? = some (C, T, N)) (hT : GoodIn Ts (wsV own index C y ws)) (hw : ws = Cond.code y bytes maxL none :: ws') (hd : y.cls = C ∧ y.cls ≠ "java/lang/invoke/MethodHandle" ∧ y.cls ≠ "java/lang/invoke/VarHandle" ∧ (parseMethodDescriptor y.desc).map (fun d => d.parameters.length) = some n) (hn : As.length = n) (hR : f + 1 ≤ R.frames ∧ 8 + (maxL + 11) + lo ≤ R.locals) (hc1 : cells + mcc = c1) (hs1 : slots + msc = s1) (hcs : c1 ≤ R.cells ∧ s1 ≤ R.slots) (hsz : ls.size = nL) (hst : st = As.reverse ++ .ref (G.1 kt) :: rest) (hr8 : (rest.map fun v => v.category).sum ≤ 8) (hdg : decode cc pc = .ok (.invokevirtual index, 3)) {Q : State → Prop}
    (kk : ∀ (H1 : Heap) (locs1 : List Loc), WS wf G g A s.heap H1 locs1 → W p l e R s m args below meth c H1 locs1 c1 s1 Q (F0 m (pc + 3) ls rest)) : W p l e R s m args below meth c H locs cells slots Q (F0 m pc ls st) := by
  subst hst
  subst hc1
  subst hs1
  have hp := g_pre hs X Z
  refine vx_callv (vx_runV (As := As) (rest := rest) ⟨X.1, X.2.1, X.2.2.1, X.2.2.2.1, X.2.2.2.2.1⟩ (hM H.size) (cwV n X.2.2.2.2.1 hT hw rfl rfl hd hR) ⟨pC_blind, va_recv X.2.2.2.2.2.1 Z.1 hc (hO.1 G g), fun U hU hW => ⟨rfl, hp.2 U hU hW⟩⟩ rfl hn hsz rfl (lv_room hr8) hdg hcs) Z.2.2 (fun q _ h => hp.1 q h) hp.1 (fun q _ h => hp.1 q h) (fun E ce q9 u t H1 locs1 ht hvm hw2 hB hz1 hk1 hS hce hcv hcl => absurd rfl hw2.1) (fun u t H1 locs1 ht hvm hw2 hB hz1 hk1 hS => ?_)
  obtain ⟨-, rfl⟩ := hw2
  exact kk H1 locs1 (g_behind hs X Z ht hB hS)
/-- .. it throws, and nothing here catches it -/
theorem g_xcallT {y : MethodName} {ws ws' : List Cond} {f lo maxL index n ci kt mcc msc ec : Nat} {As st : List Value} {C : String} {bytes : ByteArray} {T : u_T} {N : Nat} {fs : LY → Mem → List Value} (hs : sameAd wf) (X : gC p s m args meth c cc nL Ts own ret G A) (hNX : ∀ x ∈ c.exceptionTable.toList, False) (Z : WS wf G g A s.heap H locs) (hec : ec ≠ 0) (hM : cXV l y ws f lo mcc msc wf G (.ref (G.1 kt) :: As) g ec g) (hO : Ob wf kt ci fs) (hc : vwCl[ci]? = some (C, T, N)) (hT : GoodIn Ts (wsV own index C y ws)) (hw : ws = Cond.code y bytes maxL none :: ws') (hd : y.cls = C ∧ y.cls ≠ "java/lang/invoke/MethodHandle" ∧ y.cls ≠ "java/lang/invoke/VarHandle" ∧ (parseMethodDescriptor y.desc).map (fun d => d.parameters.length) = some n) (hn : As.length = n) (hR : f + 1 ≤ R.frames ∧ 8 + (maxL + 11) + lo ≤ R.locals) (hcs : cells + mcc ≤ R.cells ∧ slots + msc ≤ R.slots) (hcm : cells + mcc ≤ mc ∧ slots + msc ≤ ms) (hsz : ls.size = nL) (hst : st = As.reverse ++ .ref (G.1 kt) :: rest) (hr8 : (rest.map fun v => v.category).sum ≤ 8) (hdg : decode cc pc = .ok (.invokevirtual index, 3))
    (kT : gTh XC s wf G A ec g) : W p l e R s m args below meth c H locs cells slots (vx_MQ below Qc XC args s mc ms A) (F0 m pc ls st) := by
  subst hst
  have hp := g_pre hs X Z
  refine vx_callv (vx_runV (As := As) (rest := rest) ⟨X.1, X.2.1, X.2.2.1, X.2.2.2.1, X.2.2.2.2.1⟩ (hM H.size) (cwV n X.2.2.2.2.1 hT hw rfl rfl hd hR) ⟨pC_blind, va_recv X.2.2.2.2.2.1 Z.1 hc (hO.1 G g), fun U hU hW => ⟨rfl, hp.2 U hU hW⟩⟩ rfl hn hsz rfl (lv_room hr8) hdg hcs) Z.2.2 (fun q _ h => hp.1 q h) hp.1 (fun q _ h => hp.1 q h) (fun E ce q9 u t H1 locs1 ht hvm hw2 hB hz1 hk1 hS hce hcv hcl => ?_) (fun u t H1 locs1 ht hvm hw2 hB hz1 hk1 hS => absurd hw2.1 hec)
  obtain ⟨-, rfl⟩ := hw2
  obtain ⟨rfl, hB⟩ := hB
  have Z1 := g_behind hs X Z ht hB hS
  exact vx_out (fun x hx => (hNX x hx).elim) X.2.2.2.2.2.2.2.1 hce hcv hcl (fun t2 ht2 hA2 => kT H1 locs1 Z1 t2 hA2 (by rw [ht2]; exact Nat.le_refl _) (fun q _ => by rw [ht2])) Z1.2.2.2.2 hcm.1 hcm.2
theorem g_throw {cls text : String} {names : List String} {ik is ic ec : Nat} (X : gC p s m args meth c cc nL Ts own ret G A) (hNX : ∀ x ∈ c.exceptionTable.toList, False) (hst : l.stackTraces = false) (Z : WS wf G g A s.heap H locs) (hsz : ls.size = nL) (hec : cls = gExN ec) (hcls : Bundle.fit cls = true) (hnames : ∀ n ∈ names, Bundle.fit n = true) (hk : Cond.classLink own ik cls ∈ Ts) (hini : Cond.initialized cls ∈ Ts) (hstr : (own, is, text) ∈ gStrs) (hat : ∀ w ∈ (vx_atS own ic cls names).filter goodWord, w ∈ Ts) (hgx : cls ∈ gExs) (hbad : ∀ w ∈ (vx_atS own ic cls names).filter (fun w => !goodWord w), w ∈ Cond.castable cls cls :: gDecs.map Cond.declares) (hgood : ∀ w ∈ Cond.classLink own ik cls :: Cond.initialized cls :: vx_atS own ic cls names, vx_ot w = true)
    (d0 : decode cc pc = .ok (.new ik, 3)) (d3 : decode cc (pc + 3) = .ok (.dup, 1)) (d4 : decode cc (pc + 4) = .ok (.ldc is, 2)) (d6 : decode cc (pc + 6) = .ok (.invokespecial ic, 3)) (d9 : decode cc (pc + 9) = .ok (.athrow, 1))
    (hR : names.length + 3 < R.frames ∧ (rest.map fun v => v.category).sum + (13 * (names.length + 1) + 43) ≤ R.locals ∧ cells + 1 ≤ R.cells ∧ slots + 6 ≤ R.slots) (hcm : cells + 1 ≤ mc ∧ slots + 6 ≤ ms) (kT : gTh XC s wf G A ec g) :
    W p l e R s m args below meth c H locs cells slots (vx_MQ below Qc XC args s mc ms A) (F0 m pc ls rest) := by
  obtain ⟨hx, hb, hml, hown, hts, hK, hA, hlk, hr, hE⟩ := id X
  obtain ⟨sa, hsa⟩ := hE.2.2.1 _ hstr
  refine vx_throwS (sa := sa) hx hb hst hown hcls hnames (hts _ hk) (hts _ hini) hsa (vx_hat (B := Cond.castable cls cls :: gDecs.map Cond.declares) (fun w hw => hts w (hat w hw)) hbad (vx_c (va_Nw.use rfl (hE.2.2.2.1 _ hgx)) (fun w hw => by obtain ⟨x, hx9, rfl⟩ := List.mem_map.mp hw; exact va_Nw.use rfl (hE.2.2.2.2.2 x hx9)))) hgood hE.1 hE.2.1 Z.2.2 (hsz.trans hml.symm) d0 d3 d4 d6 d9 (fun x hx => (hNX x hx).elim) hR.1 hR.2.1 hR.2.2.1 hR.2.2.2 hlk ?_ Z.2.2.2.2 hcm.1 hcm.2
  intro t h1 h2 h3
  rw [hec]
  exact kT H locs Z t h1 h2 h3
theorem g_throwW {cls text : String} {names : List String} {ik is ic ec : Nat} (X : gC p s m args meth c cc nL Ts own ret G A) (hNX : ∀ x ∈ c.exceptionTable.toList, False) (hst : l.stackTraces = false) (Z : WS wf G g A s.heap H locs) (hsz : ls.size = nL) (hec : cls = gExN ec) (hcls : Bundle.fit cls = true) (hnames : ∀ n ∈ names, Bundle.fit n = true) (hk : Cond.classLink own ik cls ∈ Ts) (hini : Cond.initialized cls ∈ Ts) (hstr : (own, is, text) ∈ gStrs) (hat : ∀ w ∈ (vx_atS own ic cls names).filter goodWord, w ∈ Ts) (hgx : cls ∈ gExs) (hbad : ∀ w ∈ (vx_atS own ic cls names).filter (fun w => !goodWord w), w ∈ Cond.castable cls cls :: gDecs.map Cond.declares) (hgood : ∀ w ∈ Cond.classLink own ik cls :: Cond.initialized cls :: vx_atS own ic cls names, vx_ot w = true)
    (d0 : decode cc pc = .ok (.new ik, 3)) (d3 : decode cc (pc + 3) = .ok (.dup, 1)) (d4 : decode cc (pc + 4) = .ok (.ldc_w is, 3)) (d6 : decode cc (pc + 7) = .ok (.invokespecial ic, 3)) (d9 : decode cc (pc + 10) = .ok (.athrow, 1))
    (hR : names.length + 3 < R.frames ∧ (rest.map fun v => v.category).sum + (13 * (names.length + 1) + 43) ≤ R.locals ∧ cells + 1 ≤ R.cells ∧ slots + 6 ≤ R.slots) (hcm : cells + 1 ≤ mc ∧ slots + 6 ≤ ms) (kT : gTh XC s wf G A ec g) :
    W p l e R s m args below meth c H locs cells slots (vx_MQ below Qc XC args s mc ms A) (F0 m pc ls rest) := by
  obtain ⟨hx, hb, hml, hown, hts, hK, hA, hlk, hr, hE⟩ := id X
  obtain ⟨sa, hsa⟩ := hE.2.2.1 _ hstr
  refine vx_throwSW (sa := sa) hx hb hst hown hcls hnames (hts _ hk) (hts _ hini) hsa (vx_hat (B := Cond.castable cls cls :: gDecs.map Cond.declares) (fun w hw => hts w (hat w hw)) hbad (vx_c (va_Nw.use rfl (hE.2.2.2.1 _ hgx)) (fun w hw => by obtain ⟨x, hx9, rfl⟩ := List.mem_map.mp hw; exact va_Nw.use rfl (hE.2.2.2.2.2 x hx9)))) hgood hE.1 hE.2.1 Z.2.2 (hsz.trans hml.symm) d0 d3 d4 d6 d9 (fun x hx => (hNX x hx).elim) hR.1 hR.2.1 hR.2.2.1 hR.2.2.2 hlk ?_ Z.2.2.2.2 hcm.1 hcm.2
  intro t h1 h2 h3
  rw [hec]
  exact kT H locs Z t h1 h2 h3
end GX

set_option maxRecDepth 100000 in
theorem thbI : ∀ w ∈ (vx_atS RX6 258 "java/lang/IndexOutOfBoundsException" ["java/lang/RuntimeException", "java/lang/Exception"]).filter (fun w => !goodWord w), w ∈ Cond.castable "java/lang/IndexOutOfBoundsException" "java/lang/IndexOutOfBoundsException" :: gDecs.map Cond.declares := by decide +kernel
theorem thfI : Bundle.fit "java/lang/IndexOutOfBoundsException" = true := by decide +kernel
set_option maxRecDepth 100000 in
theorem thbA : ∀ w ∈ (vx_atS RX6 295 "java/lang/IllegalArgumentException" ["java/lang/RuntimeException", "java/lang/Exception"]).filter (fun w => !goodWord w), w ∈ Cond.castable "java/lang/IllegalArgumentException" "java/lang/IllegalArgumentException" :: gDecs.map Cond.declares := by decide +kernel
theorem thfA : Bundle.fit "java/lang/IllegalArgumentException" = true := by decide +kernel
set_option maxRecDepth 100000 in
theorem thbS : ∀ w ∈ (vx_atS RX6 50 "java/lang/IllegalStateException" ["java/lang/RuntimeException", "java/lang/Exception"]).filter (fun w => !goodWord w), w ∈ Cond.castable "java/lang/IllegalStateException" "java/lang/IllegalStateException" :: gDecs.map Cond.declares := by decide +kernel
theorem thfS : Bundle.fit "java/lang/IllegalStateException" = true := by decide +kernel
theorem th1 : (1 : Nat) ≠ 0 := by decide
theorem th2 : (2 : Nat) ≠ 0 := by decide
theorem th3 : (3 : Nat) ≠ 0 := by decide
theorem thn : ∀ n ∈ ["java/lang/RuntimeException", "java/lang/Exception"], Bundle.fit n = true := by decide +kernel
set_option maxRecDepth 100000 in
theorem thgI_254 : ∀ w ∈ Cond.classLink RX6 254 "java/lang/IndexOutOfBoundsException" :: Cond.initialized "java/lang/IndexOutOfBoundsException" :: vx_atS RX6 258 "java/lang/IndexOutOfBoundsException" ["java/lang/RuntimeException", "java/lang/Exception"], vx_ot w = true := by decide +kernel
set_option maxRecDepth 100000 in
theorem thgA_291 : ∀ w ∈ Cond.classLink RX6 291 "java/lang/IllegalArgumentException" :: Cond.initialized "java/lang/IllegalArgumentException" :: vx_atS RX6 295 "java/lang/IllegalArgumentException" ["java/lang/RuntimeException", "java/lang/Exception"], vx_ot w = true := by decide +kernel
set_option maxRecDepth 100000 in
theorem thgS_46 : ∀ w ∈ Cond.classLink RX6 46 "java/lang/IllegalStateException" :: Cond.initialized "java/lang/IllegalStateException" :: vx_atS RX6 50 "java/lang/IllegalStateException" ["java/lang/RuntimeException", "java/lang/Exception"], vx_ot w = true := by decide +kernel
