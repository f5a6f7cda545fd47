
/-! constructors: worlds as lists that grow -/
def nEnv (U : State) : Prop := va_Nw (.methodLinkNest RX2 26 yX4_init RX6) U ∧ va_Nw (.methodLinkNest RX2 31 yX1_init RX6) U ∧ va_Nw (.methodLinkNest RX6 33 yX3_init RX6) U ∧ va_AO RX1 U ∧ va_AO RX2 U
theorem nEnv.warm {s U : State} (hW : s.WarmedH U.vm) (h : nEnv s) : nEnv U := ⟨va_Nw.warmM hW h.1, va_Nw.warmM hW h.2.1, va_Nw.warmM hW h.2.2.1, va_AO.moved hW.alike h.2.2.2.1, va_AO.moved hW.alike h.2.2.2.2⟩
theorem nEnv.same {u U : State} (hv : U.vm = u.vm) (h : nEnv u) : nEnv U := by
  have hA : u.vm.Alike U.vm := by rw [hv]; exact Vm.Alike.refl u.vm
  exact ⟨va_Nw.same rfl hv.symm h.1, va_Nw.same rfl hv.symm h.2.1, va_Nw.same rfl hv.symm h.2.2.1, va_AO.moved hA h.2.2.2.1, va_AO.moved hA h.2.2.2.2⟩
theorem ra_uniq {U : State} {cA cB : ClassId} {ty : FieldType} (h1 : va_RA U cA ty) (h2 : va_RA U cB ty) : cA = cB := by
  cases ty with
  | object C =>
    obtain ⟨_, _, _, _, _, h⟩ := h1
    obtain ⟨_, _, _, _, _, h'⟩ := h2
    exact Option.some.inj (h.symm.trans h')
  | _ => exact Option.some.inj (Eq.trans (Eq.symm h1) h2)
theorem ty_uniq {G : LY} {s : State} {cA : ClassId} {ty : FieldType} {t : Nat} (ht : (tyL G)[t]? = some (G.2.1 t, ty)) (hK : va_K G.2.2 vwCl (tyL G ++ [(cA, ty)]) s) : cA = G.2.1 t := by
  have h1 := (hK.2 5 (cA, ty) rfl).2
  have h2 := (hK.2 t (G.2.1 t, ty) (ap_l ht)).2
  exact ra_uniq h1 h2
def nC (p : Program) (s : State) (m : MethodId) (args : Array Value) (meth : Method) (c : Code) (cc : ByteArray) (nL : Nat) (Ts : List Cond) (own : String) (G : LY) (A : Nat → Prop) : Prop :=
  p.tables.exec = Jvm.exec ∧ c.code = cc ∧ c.maxLocals = nL ∧ s.vm.findClass own = some m.cls ∧ (∀ w ∈ Ts, w.before args s = true) ∧ va_K G.2.2 vwCl (tyL G) s ∧ (∀ q, s.heap.size ≤ q → A q) ∧ nEnv s
def cN (l : Launch) (y : MethodName) (ws : List Cond) (f lo mc ms : Nat) (G : LY) (As : List Value) (w0 : va_W) (post : va_W → Prop) : Prop :=
  ∀ sz : Nat, Met l y ws { frames := f, cells := mc, slots := ms, locals := lo } (va_Pc As (fun U => U.heap.size = sz ∧ (va_P G.2.2 vwCl w0 U.heap ∧ va_K G.2.2 vwCl (tyL G) U ∧ va_D (fun _ => True) w0) ∧ nEnv U)) (va_Qv (fun (w : va_W) => post w) (fun w t => va_P G.2.2 vwCl w t.heap ∧ va_K G.2.2 vwCl (tyL G) t ∧ va_D (va_A w0 sz) w) (va_A w0 sz)) mc ms (va_A w0 sz)
theorem ls_frame2 {G : LY} {A : Nat → Prop} {H0 H H1 : Heap} {locs locs1 : List Loc} {a wc wc1 : va_W} (Z : LSt G (a ++ wc) A H0 H locs) (hA : ∀ q, va_A wc H.size q → A q) (hP1 : va_P G.2.2 vwCl wc1 H1) (hD1 : va_D (va_A wc H.size) wc1) (hk : ∀ q : Nat, q < H.size → ¬ va_A wc H.size q → H1[q]? = H[q]?) (hS : va_S A H0 H1 locs1) : LSt G (a ++ wc1) A H0 H1 locs1 := by
  obtain ⟨hP, hD, -⟩ := Z
  have hPa := (va_P_app.mp hP).1
  have hno : ∀ (k : Nat) (q : Nat × va_E), a[k]? = some q → ¬ va_A wc H.size q.1 := by
    intro k q hq z
    rcases z with ⟨i, e, hi⟩ | z
    · have := hD.1 _ _ q (q.1, e) (ap_l hq) (ap_r (a := a) hi) rfl
      have h9 := (List.getElem?_eq_some_iff.mp hq).1
      omega
    · exact absurd (hPa k q hq).lt (Nat.not_lt.mpr z)
  refine ⟨va_P_app.mpr ⟨hPa.kept fun k q hq => hk _ (hPa k q hq).lt (hno k q hq), hP1⟩, ⟨fun i j p q hi hj he => ?_, fun k q hq => ?_⟩, hS⟩
  · rcases ap_c hi with ⟨h1, h2⟩ | ⟨h1, h2⟩ <;> rcases ap_c hj with ⟨h3, h4⟩ | ⟨h3, h4⟩
    · exact hD.1 i j p q (ap_l h2) (ap_l h4) he
    · exact absurd (by rw [he]; exact hD1.2 _ _ h4) (hno _ _ h2)
    · exact absurd (by rw [← he]; exact hD1.2 _ _ h2) (hno _ _ h4)
    · have := hD1.1 _ _ p q h2 h4 he
      omega
  · rcases ap_c hq with ⟨h1, h2⟩ | ⟨h1, h2⟩
    · exact hD.2 _ _ (ap_l h2)
    · exact hA _ (hD1.2 _ _ h2)
theorem ls_sub2 {G : LY} {A : Nat → Prop} {H0 H : Heap} {locs : List Loc} {a wc : va_W} (Z : LSt G (a ++ wc) A H0 H locs) (hA : ∀ q, H0.size ≤ q → A q) : va_P G.2.2 vwCl wc H ∧ va_D (fun _ => True) wc ∧ ∀ q, va_A wc H.size q → A q := by
  have Z2 : LSt G (a ++ (wc ++ [])) A H0 H locs := by rw [List.append_nil]; exact Z
  exact ls_sub Z2 hA
section GN
variable {p : Program} {l : Launch} {e : Env} {R : Room} {s : State} {m : MethodId} {args : Array Value} {below : List Frame} {meth : Method} {c : Code} {H : Heap} {locs : List Loc} {cells slots c1 s1 : Nat} {Q : State → Prop} {cc : ByteArray} {nL : Nat} {Ts : List Cond} {own : String} {G : LY} {A : Nat → Prop} {ls : Array Slot} {rest : List Value} {pc : Nat} {ws : va_W} {a : Nat}
theorem n_obj {k : Nat} {h0 : Nat} (X : nC p s m args meth c cc nL Ts own G A) (hl : Cond.methodLink own k objectInit ∈ Ts) (hl2 : Cond.instanceMethod objectInit ∈ Ts) (hl3 : Cond.code objectInit ⟨#[0xb1]⟩ 1 none ∈ Ts) (hsz : ls.size = nL) (hR : 1 ≤ R.frames ∧ 12 ≤ R.locals) (hdg : decode cc pc = .ok (.invokespecial k, 3))
    (kk : W p l e R s m args below meth c H locs cells slots Q (F0 m (pc + 3) ls [])) : W p l e R s m args below meth c H locs cells slots Q (F0 m pc ls [.ref h0]) :=
  W.objInit X.1 X.2.1 X.2.2.2.1 (X.2.2.2.2.1 _ hl) (X.2.2.2.2.1 _ hl2) (X.2.2.2.2.1 _ hl3) rfl (by rw [X.2.2.1]; exact hsz) rfl hdg hR.1 hR.2 kk
theorem n_new {C : String} {T : u_T} {N ci index : Nat} {fs : List Value} (X : nC p s m args meth c cc nL Ts own G A) (Z : LSt G ws A s.heap H locs) (hin : ∀ w ∈ u_ws C T N, w ∈ Ts) (ty : Nat → FieldType) (hty : ∀ k, k < N → parseFieldDescriptor (T k).2.2.1 = some (ty k)) (hcl : Cond.classLink own index C ∈ Ts) (hinst : Cond.instantiable C N ∈ Ts) (hini : Cond.initialized C ∈ Ts) (hc : vwCl[ci]? = some (C, T, N)) (hfs : ∀ j, j < N → defaultValue (ty j) = vp_V fs j) (hc1 : cells + 1 = c1) (hs1 : slots + N = s1) (hcs : c1 ≤ R.cells ∧ s1 ≤ R.slots) (hdg : decode cc pc = .ok (.new index, 3))
    (kk : ∀ (q : Nat) (H1 : Heap), LSt G (ws ++ [(q, .inr (ci, fs))]) A s.heap H1 locs → W p l e R s m args below meth c H1 locs c1 s1 Q (F0 m (pc + 3) ls (.ref q :: rest))) : W p l e R s m args below meth c H locs cells slots Q (F0 m pc ls rest) := by
  subst hc1
  subst hs1
  exact va_new (D := G.2.2) X.1 X.2.1 X.2.2.2.2.1 hin ty hty X.2.2.2.1 (X.2.2.2.2.1 _ hcl) (X.2.2.2.2.1 _ hinst) (X.2.2.2.2.1 _ hini) X.2.2.2.2.2.1 Z.1 Z.2.1 Z.2.2 X.2.2.2.2.2.2.1 hc hfs hcs.1 hcs.2 hdg (fun q H1 hP hD hS => kk q H1 ⟨hP, hD, hS⟩)
theorem n_newa {atype : ArrayType} {ty : FieldType} {t N' : Nat} {n : Int32} (X : nC p s m args meth c cc nL Ts own G A) (Z : LSt G ws A s.heap H locs) (harr : Cond.arrayClass (newarray.typeOf atype) ∈ Ts) (hty : newarray.typeOf atype = ty) (ht : (tyL G)[t]? = some (G.2.1 t, ty)) (ha : ∀ cA : ClassId, vp_cell cA (N', .inl (fun _ => 0)) = arrV cA N' (fun _ => defaultValue ty)) (hn : ¬ n < 0) (hN : n.toNatClampNeg = N') (hbytes : N' * componentBytes ty ≤ 536870912) (hc1 : cells + 1 = c1) (hs1 : slots + N' = s1) (hcs : c1 ≤ R.cells ∧ s1 ≤ R.slots) (hdg : decode cc pc = .ok (.newarray atype, 2))
    (kk : ∀ (q : Nat) (H1 : Heap), LSt G (ws ++ [(q, .inl (G.2.1 t, N', .inl (fun _ => 0)))]) A s.heap H1 locs → W p l e R s m args below meth c H1 locs c1 s1 Q (F0 m (pc + 2) ls (.ref q :: rest))) : W p l e R s m args below meth c H locs cells slots Q (F0 m pc ls (.int n :: rest)) := by
  subst hc1
  subst hs1
  refine va_newa (D := G.2.2) (atype := atype) (a0 := (N', .inl (fun _ => 0))) X.1 X.2.1 (X.2.2.2.2.1 _ harr) hty X.2.2.2.2.2.1 Z.1 Z.2.1 Z.2.2 X.2.2.2.2.2.2.1 ha hn hN hbytes hcs.1 hcs.2 hdg (fun q cA H1 hK hP hD hS => ?_)
  have e1 := ty_uniq ht hK
  subst e1
  exact kk q H1 ⟨hP, hD, hS⟩
theorem n_newq {C : String} {t N' index : Nat} {n : Int32} (X : nC p s m args meth c cc nL Ts own G A) (Z : LSt G ws A s.heap H locs) (hcl : Cond.classLink own index C ∈ Ts) (hover : va_AO C s) (ht : (tyL G)[t]? = some (G.2.1 t, .object C)) (hn : ¬ n < 0) (hN : n.toNatClampNeg = N') (hbytes : N' * 4 ≤ 536870912) (hc1 : cells + 1 = c1) (hs1 : slots + N' = s1) (hcs : c1 ≤ R.cells ∧ s1 ≤ R.slots) (hdg : decode cc pc = .ok (.anewarray index, 3))
    (kk : ∀ (q : Nat) (H1 : Heap), LSt G (ws ++ [(q, .inl (G.2.1 t, N', .inr (.inr (.inr (.inr (fun _ => none))))))]) A s.heap H1 locs → W p l e R s m args below meth c H1 locs c1 s1 Q (F0 m (pc + 3) ls (.ref q :: rest))) : W p l e R s m args below meth c H locs cells slots Q (F0 m pc ls (.int n :: rest)) := by
  subst hc1
  subst hs1
  refine va_newq (D := G.2.2) X.1 X.2.1 X.2.2.2.1 (X.2.2.2.2.1 _ hcl) hover X.2.2.2.2.2.1 Z.1 Z.2.1 Z.2.2 X.2.2.2.2.2.2.1 hn hN hbytes hcs.1 hcs.2 hdg (fun q cA H1 hK hP hD hS => ?_)
  have e1 := ty_uniq ht hK
  subst e1
  exact kk q H1 ⟨hP, hD, hS⟩
theorem n_putF {C ref : String} {T : u_T} {N ci index j q0 : Nat} {fs : List Value} {ty : FieldType} {v : Value} {ty0 : Nat → FieldType} (X : nC p s m args meth c cc nL Ts own G A) (hin2 : meth.name = "<init>") (Z : LSt G ws A s.heap H locs) (hin : ∀ w ∈ u_ws C T N, w ∈ Ts) (hty : ∀ k, k < N → parseFieldDescriptor (T k).2.2.1 = some (ty0 k)) (hnm : ∀ a, a < N → ∀ b, b < N → a ≠ b → (T a).2.1 ≠ (T b).2.1) (he : ws[q0]? = some (a, .inr (ci, fs))) (hc : vwCl[ci]? = some (C, T, N)) (hj : j < N) (href : ref = (T j).1) (hl : Cond.fieldLink own index ref (T j).2.1 (T j).2.2.1 ∈ Ts) (hfin : (T j).2.2.2 = true) (hdecl : (T j).1 = own) (hd : parseFieldDescriptor (T j).2.2.1 = some ty) (hn : narrow ty v = v) (hfit : fits ty v = true) (hlen : j < fs.length) (hdg : decode cc pc = .ok (.putfield index, 3))
    (kk : ∀ (H1 : Heap) (locs1 : List Loc), LSt G (ws.set q0 (a, .inr (ci, fs.set j v))) A s.heap H1 locs1 → W p l e R s m args below meth c H1 locs1 cells slots Q (F0 m (pc + 3) ls rest)) : W p l e R s m args below meth c H locs cells slots Q (F0 m pc ls (v :: .ref a :: rest)) :=
  va_putF (D := G.2.2) X.1 X.2.1 X.2.2.2.2.1 hin ty0 hty hnm X.2.2.2.1 X.2.2.2.2.2.1 Z.1 Z.2.1 Z.2.2 q0 he hc j hj (X.2.2.2.2.1 _ hl) (fun _ h => by rw [href]; exact h) hfin hin2 hdecl hd hn hfit hlen hdg (fun H1 locs1 hP hD hS => kk H1 locs1 ⟨hP, hD, hS⟩)
theorem n_put {C ref : String} {T : u_T} {N ci index j q0 : Nat} {fs : List Value} {x : Int32} {ty0 : Nat → FieldType} (X : nC p s m args meth c cc nL Ts own G A) (Z : LSt G ws A s.heap H locs) (hin : ∀ w ∈ u_ws C T N, w ∈ Ts) (hty : ∀ k, k < N → parseFieldDescriptor (T k).2.2.1 = some (ty0 k)) (hnm : ∀ a, a < N → ∀ b, b < N → a ≠ b → (T a).2.1 ≠ (T b).2.1) (he : ws[q0]? = some (a, .inr (ci, fs))) (hc : vwCl[ci]? = some (C, T, N)) (hj : j < N) (href : ref = (T j).1) (hl : Cond.fieldLink own index ref (T j).2.1 (T j).2.2.1 ∈ Ts) (hfin : (T j).2.2.2 = false) (hd : parseFieldDescriptor (T j).2.2.1 = some .int) (hlen : j < fs.length) (hdg : decode cc pc = .ok (.putfield index, 3))
    (kk : ∀ (H1 : Heap) (locs1 : List Loc), LSt G (ws.set q0 (a, .inr (ci, fs.set j (.int x)))) A s.heap H1 locs1 → W p l e R s m args below meth c H1 locs1 cells slots Q (F0 m (pc + 3) ls rest)) : W p l e R s m args below meth c H locs cells slots Q (F0 m pc ls (.int x :: .ref a :: rest)) :=
  va_put (D := G.2.2) (v := .int x) (ty := .int) X.1 X.2.1 X.2.2.2.2.1 hin ty0 hty hnm X.2.2.2.1 X.2.2.2.2.2.1 Z.1 Z.2.1 Z.2.2 q0 he hc j hj (X.2.2.2.2.1 _ hl) (fun _ h => by rw [href]; exact h) hfin hd (vp_nar_int x) rfl hlen hdg (fun H1 locs1 hP hD hS => kk H1 locs1 ⟨hP, hD, hS⟩)
theorem n_get {C ref : String} {T : u_T} {N ci index j q0 : Nat} {fs : List Value} {v : Value} (X : nC p s m args meth c cc nL Ts own G A) (Z : LSt G ws A s.heap H locs) (hin : ∀ w ∈ u_ws C T N, w ∈ Ts) (he : ws[q0]? = some (a, .inr (ci, fs))) (hc : vwCl[ci]? = some (C, T, N)) (hj : j < N) (href : ref = (T j).1) (hl : Cond.fieldLink own index ref (T j).2.1 (T j).2.2.1 ∈ Ts) (hv : fs[j]? = some v) (hdg : decode cc pc = .ok (.getfield index, 3))
    (kk : W p l e R s m args below meth c H locs cells slots Q (F0 m (pc + 3) ls (v :: rest))) : W p l e R s m args below meth c H locs cells slots Q (F0 m pc ls (.ref a :: rest)) :=
  va_get (D := G.2.2) X.1 X.2.1 X.2.2.2.2.1 hin X.2.2.2.1 X.2.2.2.2.2.1 Z.1 q0 he hc j hj (X.2.2.2.2.1 _ hl) (fun _ h => by rw [href]; exact h) hv hdg kk
theorem n_iast {q0 n : Nat} {f : Nat → Int32} {i x : Int32} (X : nC p s m args meth c cc nL Ts own G A) (Z : LSt G ws A s.heap H locs) (he : ws[q0]? = some (a, .inl (G.2.1 0, n, .inl f))) (hin : vp_in i n) (hdg : decode cc pc = .ok (.iastore, 1))
    (kk : ∀ (H1 : Heap) (locs1 : List Loc), LSt G (ws.set q0 (a, .inl (G.2.1 0, n, .inl (upd f i.toNatClampNeg x)))) A s.heap H1 locs1 → W p l e R s m args below meth c H1 locs1 cells slots Q (F0 m (pc + 1) ls rest)) : W p l e R s m args below meth c H locs cells slots Q (F0 m pc ls (.int x :: .int i :: .ref a :: rest)) :=
  va_iast (D := G.2.2) X.1 X.2.1 X.2.2.2.2.2.1 Z.1 Z.2.1 Z.2.2 q0 0 he rfl hin hdg (fun H1 locs1 hP hD hS => kk H1 locs1 ⟨hP, hD, hS⟩)
theorem n_astq {q0 qk n t ci v : Nat} {r : vw_C} {vs : List Value} {f : Nat → Option Nat} {i : Int32} (X : nC p s m args meth c cc nL Ts own G A) (Z : LSt G ws A s.heap H locs) (he : ws[q0]? = some (a, .inl (G.2.1 t, n, .inr (.inr (.inr (.inr f)))))) (ht : (tyL G)[t]? = some (G.2.1 t, .object r.1)) (hv : ws[qk]? = some (v, .inr (ci, vs))) (hc : vwCl[ci]? = some r) (hin : vp_in i n) (hdg : decode cc pc = .ok (.aastore, 1))
    (kk : ∀ (H1 : Heap) (locs1 : List Loc), LSt G (ws.set q0 (a, .inl (G.2.1 t, n, .inr (.inr (.inr (.inr (va_up f i.toNatClampNeg (some v)))))))) A s.heap H1 locs1 → W p l e R s m args below meth c H1 locs1 cells slots Q (F0 m (pc + 1) ls rest)) : W p l e R s m args below meth c H locs cells slots Q (F0 m pc ls (.ref v :: .int i :: .ref a :: rest)) :=
  va_astq (D := G.2.2) X.1 X.2.1 X.2.2.2.2.2.1 Z.1 Z.2.1 Z.2.2 q0 t qk ci he ht hv hc hin hdg (fun H1 locs1 hP hD hS => kk H1 locs1 ⟨hP, hD, hS⟩)
theorem mk_cN {y : MethodName} {w w' : List Cond} {f lo mc ms maxL : Nat} {As : List Value} {w0 : va_W} {post : va_W → Prop} (hy : plainFor y = true) (hyn : y.name = "<init>") (hw : w = Cond.code y cc maxL none :: w') (hn : (lg_sl As).length ≤ maxL)
    (body : ∀ (p : Program) (e : Env) (s : State) (m : MethodId) (args : Array Value) (below : List Frame) (meth : Method) (c : Code) (A : Nat → Prop) (Q : State → Prop) (ls : Array Slot), nC p s m args meth c cc maxL w y.cls G A → meth.name = "<init>" → (∀ (pc : Nat) (ls : Array Slot) (H : Heap) (locs : List Loc) (w1 : va_W), decode cc pc = .ok (.return_, 1) → post w1 → LSt G w1 A s.heap H locs → W p l e { frames := f, cells := mc, slots := ms, locals := lo } s m args below meth c H locs mc ms Q (F0 m pc ls [])) → lv_has ls maxL (lv_args 0 As) → LSt G w0 A s.heap s.heap [] → W p l e { frames := f, cells := mc, slots := ms, locals := lo } s m args below meth c s.heap [] 0 0 Q (F0 m 0 ls [])) : cN l y w f lo mc ms G As w0 post := by
  intro sz
  refine va_MetF (cc := cc) (maxL := maxL) (ret := none) hy hw ?_
  intro p e s m args below meth c s₁ B hml hv
  obtain ⟨rfl, hsz, ⟨hP, hK, hD⟩, hE⟩ := hv
  subst hsz
  have hl := lv_entry As (n := maxL) hn
  rw [lg_entry_eq]
  have hin : meth.name = "<init>" := (name_of_methodNamed B.named B.method).1.trans hyn
  refine body p e s m _ below meth c (va_A w0 s.heap.size) _ _ ⟨B.exec, B.bytes, hml, findClass_of_methodNamed B.named, atoms_spec (ws := w) B.pre, hK, fun q h => Or.inr h, hE⟩ hin ?_ hl ⟨hP, hD.self, va_S.rf⟩
  intro pc ls H locs w1 hdg hpost Z
  have hlocks := B.notSynchronized
  exact W.vret B.exec B.bytes B.returns (fun t ht hW => ⟨⟨w1, rfl, hpost, by rw [ht]; exact Z.1, va_K.moved hW.alike hK, Z.2.1⟩, Z.2.2.F ht⟩) Z.2.2.2.2 hdg
theorem n_blind {w0 : va_W} {As : List Value} {sz : Nat} : FrameBlind (va_Pc As (fun U => U.heap.size = sz ∧ (va_P G.2.2 vwCl w0 U.heap ∧ va_K G.2.2 vwCl (tyL G) U ∧ va_D (fun _ => True) w0) ∧ nEnv U)) := fun a U g9 mk q => by
  obtain ⟨q0, q1, ⟨qP, qK, qD⟩, qE⟩ := q
  exact ⟨q0, q1, ⟨qP, va_K.moved (u := U) (U := U.calling g9 mk a) (Vm.Alike.refl U.vm) qK, qD⟩, nEnv.same (u := U) (U := U.calling g9 mk a) rfl qE⟩
theorem n_ctorI {y : MethodName} {w w' : List Cond} {f lo mc ms maxL index q : Nat} {bytes : ByteArray} {wc b : va_W} {post : va_W → Prop} (X : nC p s m args meth c cc nL Ts own G A) (Z : LSt G (b ++ wc) A s.heap H locs) (hM : cN l y w f lo mc ms G [.ref q] wc post) (hG : GoodIn Ts w) (hw : w = Cond.code y bytes maxL none :: w') (hini : Cond.initialized y.cls ∈ Ts) (hlk : Cond.methodLink own index y ∈ Ts) (him : Cond.instanceMethod y ∈ Ts) (hyn : y.name = "<init>") (hd : y.cls ≠ "java/lang/invoke/MethodHandle" ∧ y.cls ≠ "java/lang/invoke/VarHandle" ∧ (parseMethodDescriptor y.desc).map (fun d => d.parameters.length) = some 0) (hR : f + 1 ≤ R.frames ∧ 8 + (maxL + 11) + lo ≤ R.locals) (hc1 : cells + mc = c1) (hs1 : slots + ms = s1) (hcs : c1 ≤ R.cells ∧ s1 ≤ R.slots) (hsz : ls.size = nL) (hr8 : (rest.map fun v => v.category).sum ≤ 8) (hdg : decode cc pc = .ok (.invokespecial index, 3))
    (kk : ∀ (w1 : va_W), post w1 → ∀ (H1 : Heap) (locs1 : List Loc), LSt G (b ++ w1) A s.heap H1 locs1 → W p l e R s m args below meth c H1 locs1 c1 s1 Q (F0 m (pc + 3) ls rest)) : W p l e R s m args below meth c H locs cells slots Q (F0 m pc ls (.ref q :: rest)) := by
  subst hc1
  subst hs1
  obtain ⟨h1, h2, h3⟩ := ls_sub2 Z X.2.2.2.2.2.2.1
  refine va_callv (va_runI (As := []) (rest := rest) ⟨X.1, X.2.1, X.2.2.1, X.2.2.2.1, X.2.2.2.2.1⟩ (hM H.size) (cwI 0 X.2.2.2.2.1 hG hw rfl rfl (X.2.2.2.2.1 _ hini) (X.2.2.2.2.1 _ hlk) (X.2.2.2.2.1 _ him) hyn hd hR) ⟨n_blind, fun U hU hW => ⟨rfl, by rw [hU], ⟨by rw [hU]; exact h1, va_K.moved hW.alike X.2.2.2.2.2.1, h2⟩, X.2.2.2.2.2.2.2.warm hW⟩⟩ rfl rfl hsz rfl (lv_room hr8) hdg hcs) Z.2.2 (fun q _ h => h3 q h) h3 (fun u t H1 locs1 ht hvm hw2 hB hz1 hk1 hS => ?_)
  obtain ⟨hP1, -, hD1⟩ := hB
  rw [ht] at hP1
  exact kk u hw2 H1 locs1 (ls_frame2 Z h3 hP1 hD1 hk1 hS)
theorem n_ctorN {y : MethodName} {w w' : List Cond} {f lo mc ms maxL index q : Nat} {bytes : ByteArray} {wc b : va_W} {post : va_W → Prop} (X : nC p s m args meth c cc nL Ts own G A) (Z : LSt G (b ++ wc) A s.heap H locs) (hM : cN l y w f lo mc ms G [.ref q] wc post) (hG : GoodIn Ts w) (hw : w = Cond.code y bytes maxL none :: w') (hini : Cond.initialized y.cls ∈ Ts) (hlk : va_Nw (.methodLinkNest own index y RX6) s) (him : Cond.instanceMethod y ∈ Ts) (hyn : y.name = "<init>") (hd : y.cls ≠ "java/lang/invoke/MethodHandle" ∧ y.cls ≠ "java/lang/invoke/VarHandle" ∧ (parseMethodDescriptor y.desc).map (fun d => d.parameters.length) = some 0) (hR : f + 1 ≤ R.frames ∧ 8 + (maxL + 11) + lo ≤ R.locals) (hc1 : cells + mc = c1) (hs1 : slots + ms = s1) (hcs : c1 ≤ R.cells ∧ s1 ≤ R.slots) (hsz : ls.size = nL) (hr8 : (rest.map fun v => v.category).sum ≤ 8) (hdg : decode cc pc = .ok (.invokespecial index, 3))
    (kk : ∀ (w1 : va_W), post w1 → ∀ (H1 : Heap) (locs1 : List Loc), LSt G (b ++ w1) A s.heap H1 locs1 → W p l e R s m args below meth c H1 locs1 c1 s1 Q (F0 m (pc + 3) ls rest)) : W p l e R s m args below meth c H locs cells slots Q (F0 m pc ls (.ref q :: rest)) := by
  subst hc1
  subst hs1
  obtain ⟨h1, h2, h3⟩ := ls_sub2 Z X.2.2.2.2.2.2.1
  refine va_callv (va_runIN (As := []) (rest := rest) ⟨X.1, X.2.1, X.2.2.1, X.2.2.2.1, X.2.2.2.2.1⟩ (hM H.size) ⟨va_cnB 0 X.2.2.2.2.1 hG hw rfl rfl hlk (X.2.2.2.2.1 _ hini) hd hR, hyn, X.2.2.2.2.1 _ him⟩ ⟨n_blind, fun U hU hW => ⟨rfl, by rw [hU], ⟨by rw [hU]; exact h1, va_K.moved hW.alike X.2.2.2.2.2.1, h2⟩, X.2.2.2.2.2.2.2.warm hW⟩⟩ rfl rfl hsz rfl (lv_room hr8) hdg hcs) Z.2.2 (fun q _ h => h3 q h) h3 (fun u t H1 locs1 ht hvm hw2 hB hz1 hk1 hS => ?_)
  obtain ⟨hP1, -, hD1⟩ := hB
  rw [ht] at hP1
  exact kk u hw2 H1 locs1 (ls_frame2 Z h3 hP1 hD1 hk1 hS)
end GN
theorem goo0 {c0 c1 : Cond} (h : c1 ∈ wA0) : GoodIn (c0 :: wA0) (c1 :: wA0) := by
  intro w hw
  have hm : w ∈ wA0 := by
    rcases List.mem_cons.mp hw with h' | h'
    · rw [h']; exact h
    · exact h'
  exact ⟨List.mem_cons_of_mem _ hm, good_of_word (oA0 w hm)⟩
