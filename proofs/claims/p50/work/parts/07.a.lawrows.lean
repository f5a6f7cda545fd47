/-! the law's world: the class's cells, and the row of three ints at place 161 -/
def LSt (G : LY) (ws : va_W) (A : Nat → Prop) (H0 H : Heap) (locs : List Loc) : Prop := va_P G.2.2 vwCl ws H ∧ va_D A ws ∧ va_S A H0 H locs
theorem ap_l {α : Type} {a b : List α} {k : Nat} {q : α} (h : a[k]? = some q) : (a ++ b)[k]? = some q := by
  rw [List.getElem?_append_left (List.getElem?_eq_some_iff.mp h).1]
  exact h
theorem ap_r {α : Type} {a b : List α} {k : Nat} {q : α} (h : b[k]? = some q) : (a ++ b)[a.length + k]? = some q := by
  rw [List.getElem?_append_right (Nat.le_add_right _ _), Nat.add_sub_cancel_left]
  exact h
theorem ap_c {α : Type} {a b : List α} {k : Nat} {q : α} (h : (a ++ b)[k]? = some q) : (k < a.length ∧ a[k]? = some q) ∨ (a.length ≤ k ∧ b[k - a.length]? = some q) := by
  rcases Nat.lt_or_ge k a.length with z | z
  · exact Or.inl ⟨z, (List.getElem?_append_left z).symm.trans h⟩
  · exact Or.inr ⟨z, (List.getElem?_append_right z).symm.trans h⟩
theorem va_P_app {D : va_G} {cl : List vw_C} {a b : va_W} {H : Heap} : va_P D cl (a ++ b) H ↔ va_P D cl a H ∧ va_P D cl b H := by
  refine ⟨fun h => ⟨fun k q hk => h k q (ap_l hk), fun k q hk => h _ q (ap_r hk)⟩, fun h k q hk => ?_⟩
  rcases ap_c hk with z | z
  · exact h.1 _ q z.2
  · exact h.2 _ q z.2
theorem va_D_ad {A : Nat → Prop} {ws ws' : va_W} (h : va_D A ws) (e : ws.map Prod.fst = ws'.map Prod.fst) : va_D A ws' := by
  have key : ∀ (k : Nat) (q : Nat × va_E), ws'[k]? = some q → ∃ q' : Nat × va_E, ws[k]? = some q' ∧ q'.1 = q.1 := by
    intro k q hk
    have h1 : (ws'.map Prod.fst)[k]? = some q.1 := by rw [List.getElem?_map, hk]; rfl
    rw [← e, List.getElem?_map] at h1
    cases hw : ws[k]? with
    | none => rw [hw] at h1; cases h1
    | some q' => rw [hw] at h1; exact ⟨q', rfl, Option.some.inj h1⟩
  refine ⟨fun i j p q hi hj he => ?_, fun k q hk => ?_⟩
  · obtain ⟨p', h1, h2⟩ := key i p hi
    obtain ⟨q', h3, h4⟩ := key j q hj
    exact h.1 i j p' q' h1 h3 (by rw [h2, h4]; exact he)
  · obtain ⟨q', h1, h2⟩ := key k q hk
    rw [← h2]
    exact h.2 k q' h1
theorem va_A_ad {ws ws' : va_W} {sz : Nat} (e : ws.map Prod.fst = ws'.map Prod.fst) : va_A ws sz = va_A ws' sz := by
  have key : ∀ (u v : va_W), u.map Prod.fst = v.map Prod.fst → ∀ q, va_A u sz q → va_A v sz q := by
    intro u v e q h
    rcases h with ⟨k, x, hk⟩ | h
    · have h1 : (u.map Prod.fst)[k]? = some q := by rw [List.getElem?_map, hk]; rfl
      rw [e, List.getElem?_map] at h1
      cases hw : v[k]? with
      | none => rw [hw] at h1; cases h1
      | some q' =>
        rw [hw] at h1
        have h2 : q'.1 = q := Option.some.inj h1
        exact Or.inl ⟨k, q'.2, by rw [hw, ← h2]⟩
    · exact Or.inr h
  funext q
  exact propext ⟨key ws ws' e q, key ws' ws e.symm q⟩
theorem adC (G : LY) (g g' : Mem) : (wC G g).map Prod.fst = (wC G g').map Prod.fst := by
  unfold wC
  rw [List.map_map, List.map_map]
  rfl
theorem ls_sub {G : LY} {A : Nat → Prop} {H0 H : Heap} {locs : List Loc} {a wc b : va_W} (Z : LSt G (a ++ (wc ++ b)) A H0 H locs) (hA : ∀ q, H0.size ≤ q → A q) : va_P G.2.2 vwCl wc H ∧ va_D (fun _ => True) wc ∧ ∀ q, va_A wc H.size q → A q := by
  obtain ⟨hP, hD, hS⟩ := Z
  have h1 := (va_P_app.mp (va_P_app.mp hP).2).1
  refine ⟨h1, ⟨fun i j p q hi hj he => ?_, fun _ _ _ => trivial⟩, fun q h => ?_⟩
  · have := hD.1 _ _ p q (ap_r (a := a) (ap_l (b := b) hi)) (ap_r (a := a) (ap_l (b := b) hj)) he
    omega
  · rcases h with ⟨k, e, hk⟩ | h
    · exact hD.2 _ _ (ap_r (a := a) (ap_l (b := b) hk))
    · exact hA q (Nat.le_trans hS.1 h)
theorem ls_frame {G : LY} {A : Nat → Prop} {H0 H H1 : Heap} {locs locs1 : List Loc} {a wc wc1 b : va_W} (Z : LSt G (a ++ (wc ++ b)) A H0 H locs) (had : wc.map Prod.fst = wc1.map Prod.fst) (hP1 : va_P G.2.2 vwCl wc1 H1) (hk : ∀ q : Nat, q < H.size → ¬ va_A wc H.size q → H1[q]? = H[q]?) (hS : va_S A H0 H1 locs1) : LSt G (a ++ (wc1 ++ b)) A H0 H1 locs1 := by
  obtain ⟨hP, hD, -⟩ := Z
  have hlen : wc1.length = wc.length := by
    have := congrArg List.length had
    simpa using this.symm
  refine ⟨va_P_app.mpr ⟨?_, va_P_app.mpr ⟨hP1, ?_⟩⟩, va_D_ad hD (by simp only [List.map_append, had]), hS⟩
  · refine (va_P_app.mp hP).1.kept fun k q hq => ?_
    refine hk _ ((va_P_app.mp hP).1 k q hq).lt fun z => ?_
    rcases z with ⟨i, e, hi⟩ | z
    · have := hD.1 _ _ q (q.1, e) (ap_l hq) (ap_r (a := a) (ap_l (b := b) hi)) rfl
      have h9 := (List.getElem?_eq_some_iff.mp hq).1
      omega
    · exact absurd ((va_P_app.mp hP).1 k q hq).lt (Nat.not_lt.mpr z)
  · have hPb := (va_P_app.mp (va_P_app.mp hP).2).2
    refine hPb.kept fun k q hq => ?_
    refine hk _ (hPb k q hq).lt fun z => ?_
    rcases z with ⟨i, e, hi⟩ | z
    · have := hD.1 _ _ q (q.1, e) (ap_r (a := a) (ap_r (a := wc) hq)) (ap_r (a := a) (ap_l (b := b) hi)) rfl
      have h9 := (List.getElem?_eq_some_iff.mp hi).1
      omega
    · exact absurd (hPb k q hq).lt (Nat.not_lt.mpr z)
def hE (G : LY) (g : Mem) : Nat × va_E := (G.1 161, .inl (G.2.1 0, 3, .inl (g 161)))
def wD : WF := fun G g => wC G g ++ [hE G g]
def m161 (g0 g : Mem) : Mem := fun k => if k = 161 then g 161 else g0 k
theorem m161_ne {g0 g : Mem} {k : Nat} (h : k ≠ 161) : m161 g0 g k = g0 k := if_neg h
theorem m161_at {g0 g : Mem} : m161 g0 g 161 = g 161 := if_pos rfl
theorem m161_self (g : Mem) : m161 g g = g := by
  funext k
  by_cases h : k = 161
  · rw [h, m161_at]
  · rw [m161_ne h]
theorem wC_m (G : LY) (g0 g : Mem) : wC G (m161 g0 g) = wC G g0 := by
  unfold wC
  apply List.map_congr_left
  intro k hk
  have h := List.mem_range.mp hk
  rw [eC_ne (m161_ne (by omega))]
theorem wD_m (G : LY) (g0 g : Mem) : wD G (m161 g0 g) = wC G g0 ++ [hE G g] := by
  unfold wD hE
  rw [wC_m, m161_at]
theorem adD (G : LY) (g g' : Mem) : (wD G g).map Prod.fst = (wD G g').map Prod.fst := by
  unfold wD
  rw [List.map_append, List.map_append, adC G g g']
  rfl
theorem sameD : sameAd wD := by
  rintro G g g' q ⟨k, e, hk⟩
  have h1 : ((wD G g).map Prod.fst)[k]? = some q := by rw [List.getElem?_map, hk]; rfl
  rw [adD G g g', List.getElem?_map] at h1
  cases hw : (wD G g')[k]? with
  | none => rw [hw] at h1; cases h1
  | some q' =>
    rw [hw] at h1
    have h2 : q'.1 = q := Option.some.inj h1
    exact ⟨k, q'.2, by rw [hw, ← h2]⟩
theorem wC_len (G : LY) (g : Mem) : (wC G g).length = 161 := by
  unfold wC
  rw [List.length_map, List.length_range]
theorem heldD : Ar wD 161 0 3 := by
  refine ⟨fun G g => ?_, fun G g g' hj => ?_⟩
  · have h2 := ap_r (a := wC G g) (b := [hE G g]) (k := 0) (q := hE G g) rfl
    rw [wC_len] at h2
    exact h2
  · show (wC G g ++ [hE G g]).set 161 (hE G g') = wC G g' ++ [hE G g']
    have e : wC G g' = wC G g := by
      unfold wC
      apply List.map_congr_left
      intro k hk
      have h := List.mem_range.mp hk
      rw [eC_ne (hj k (by omega))]
    rw [List.set_append_right _ _ (by rw [wC_len]; exact Nat.le_refl 161), wC_len, e]
    rfl
def sOk1 {β : Type} (o : Option (Nat × Int32)) (f : Int32 → Option β) : Option β := match o with
  | some (0, v) => f v
  | _ => none
theorem sOk1_some {β : Type} {o : Option (Nat × Int32)} {f : Int32 → Option β} {r : β} (h : sOk1 o f = some r) : ∃ v, o = some (0, v) ∧ f v = some r := by
  match o, h with
  | some (0, v), h => exact ⟨v, rfl, h⟩
def sOk2 {β : Type} (o : Option (Nat × Int32 × Mem)) (f : Int32 → Mem → Option β) : Option β := match o with
  | some (0, v, g) => f v g
  | _ => none
theorem sOk2_some {β : Type} {o : Option (Nat × Int32 × Mem)} {f : Int32 → Mem → Option β} {r : β} (h : sOk2 o f = some r) : ∃ v g, o = some (0, v, g) ∧ f v g = some r := by
  match o, h with
  | some (0, v, g), h => exact ⟨v, g, rfl, h⟩
theorem hcM {a b c d x y a' b' : Nat} (h : a + c ≤ x ∧ b + d ≤ y) (h1 : Nat.ble a' c = true) (h2 : Nat.ble b' d = true) : a + a' ≤ x ∧ b + b' ≤ y := ⟨Nat.le_trans (Nat.add_le_add_left (Nat.le_of_ble_eq_true h1) _) h.1, Nat.le_trans (Nat.add_le_add_left (Nat.le_of_ble_eq_true h2) _) h.2⟩
theorem hcL {a b c d x y : Nat} (h : a + c ≤ x ∧ b + d ≤ y) : a ≤ x ∧ b ≤ y := ⟨Nat.le_trans (Nat.le_add_right _ _) h.1, Nat.le_trans (Nat.le_add_right _ _) h.2⟩
section GL
variable {p : Program} {l : Launch} {e : Env} {R : Room} {s : State} {m : MethodId} {args : Array Value} {below : List Frame} {meth : Method} {c : Code} {H : Heap} {locs : List Loc} {cells slots : Nat} {Q : State → Prop} {cc : ByteArray} {nL : Nat} {Ts : List Cond} {own : String} {ret : Option FieldType} {G G' : LY} {A : Nat → Prop} {wf : WF} {g : Mem} {ls : Array Slot} {rest : List Value} {pc : Nat} {a b : va_W}
def sG (G' G : LY) : Prop := G'.2 = G.2 ∧ G'.1 200 = G.1 200 ∧ G'.1 201 = G.1 201
theorem sG_r (G : LY) : sG G G := ⟨rfl, rfl, rfl⟩
theorem gEnv.sG {U : State} (h : sG G' G) (hE : gEnv G A U H) : gEnv G' A U H := by
  exact hE
/-- what a call needs of a part of the world -/
theorem l_pre {g0 : Mem} (hs : sameAd wf) (hG : sG G' G) (X : gC p s m args meth c cc nL Ts own ret G A) (Z : LSt G (a ++ (wf G' g ++ b)) A s.heap H locs) : (∀ q, aW wf G' H.size q → A q) ∧ ∀ U : State, U.heap = H → s.WarmedH U.vm → pC wf G' g H.size U := by
  obtain ⟨h1, h2, h3⟩ := ls_sub Z X.2.2.2.2.2.2.1
  have hA : ∀ q, aW wf G' H.size q → A q := fun q h => h3 q (by rw [aW_eq hs G' g]; exact h)
  refine ⟨hA, fun U hU hW => ⟨by rw [hU], ⟨by rw [hU, hG.1]; exact h1, ?_, h2⟩, ?_⟩⟩
  · have hk := va_K.moved hW.alike X.2.2.2.2.2.1
    unfold tyL
    rw [hG.1]
    exact hk
  · rw [hU]
    exact (((X.env Z.2.2).narrow hA).warm hW).sG hG
theorem l_behind {g0 : Mem} {H1 : Heap} {locs1 : List Loc} (hs : sameAd wf) (had : ∀ (G : LY) (g g' : Mem), (wf G g).map Prod.fst = (wf G g').map Prod.fst) (hG : sG G' G) (Z : LSt G (a ++ (wf G' g ++ b)) A s.heap H locs) {t : State} (ht : t.heap = H1) (hB : wB wf G' g0 (aW wf G' H.size) t) (hk : ∀ q : Nat, q < H.size → ¬ aW wf G' H.size q → H1[q]? = H[q]?) (hS : va_S A s.heap H1 locs1) : LSt G (a ++ (wf G' g0 ++ b)) A s.heap H1 locs1 := by
  obtain ⟨hP, -, -⟩ := hB
  rw [ht, hG.1] at hP
  exact ls_frame Z (had G' g g0) hP (fun q h1 h2 => hk q h1 (by rw [← aW_eq hs G' g]; exact h2)) hS
/-- a virtual call that doesn't throw, of the class or of the reference -/
theorem l_callI {y : MethodName} {ws ws' : List Cond} {f lo maxL index n ci kt : Nat} {ty : FieldType} {As st : List Value} {r0 : Int32} {g0 : Mem} {C : String} {bytes : ByteArray} {T : u_T} {N : Nat} {fs : LY → Mem → List Value} (hs : sameAd wf) (had : ∀ (G : LY) (g g' : Mem), (wf G g).map Prod.fst = (wf G g').map Prod.fst) (hG : sG G' G) (X : gC p s m args meth c cc nL Ts own ret G A) (Z : LSt G (a ++ (wf G' g ++ b)) A s.heap H locs) (hM : cI l y ws f lo ty wf G' (.ref (G'.1 kt) :: As) g r0 g0) (hO : Ob wf kt ci fs) (hc : vwCl[ci]? = some (C, T, N)) (hT : GoodIn Ts (wsV own index C y ws)) (hw : ws = Cond.code y bytes maxL (some ty) :: ws') (hd : y.cls = C ∧ y.cls ≠ "java/lang/invoke/MethodHandle" ∧ y.cls ≠ "java/lang/invoke/VarHandle" ∧ (parseMethodDescriptor y.desc).map (fun d => d.parameters.length) = some n) (hn : As.length = n) (hR : f + 1 ≤ R.frames ∧ 8 + (maxL + 11) + lo ≤ R.locals) (hcs : cells ≤ R.cells ∧ slots ≤ R.slots) (hsz : ls.size = nL) (hst : st = As.reverse ++ .ref (G'.1 kt) :: rest) (hr8 : (rest.map fun v => v.category).sum ≤ 8) (hdg : decode cc pc = .ok (.invokevirtual index, 3))
    (kk : narrow ty (.int r0) = .int r0 → ∀ (H1 : Heap) (locs1 : List Loc), LSt G (a ++ (wf G' g0 ++ b)) A s.heap H1 locs1 → W p l e R s m args below meth c H1 locs1 cells slots Q (F0 m (pc + 3) ls (.int r0 :: rest))) : W p l e R s m args below meth c H locs cells slots Q (F0 m pc ls st) := by
  subst hst
  have hp := l_pre (g0 := g) hs hG X Z
  have hP := (ls_sub Z X.2.2.2.2.2.2.1).1
  refine va_calli (va_runV (As := As) (rest := rest) ⟨X.1, X.2.1, X.2.2.1, X.2.2.2.1, X.2.2.2.2.1⟩ (hM H.size) (cwV n X.2.2.2.2.1 hT hw rfl rfl hd hR) ⟨pC_blind, va_recv X.2.2.2.2.2.1 hP hc (hO.1 G' g), fun U hU hW => ⟨rfl, hp.2 U hU hW⟩⟩ rfl hn hsz rfl (lv_room hr8) hdg hcs) Z.2.2 (fun q _ h => hp.1 q h) hp.1 (fun r u t H1 locs1 ht hvm hw2 hB hz1 hk1 hS => ?_)
  obtain ⟨⟨rfl, rfl⟩, hnr⟩ := hw2
  exact kk hnr H1 locs1 (l_behind hs had hG Z ht hB hk1 hS)
/-- a virtual call of the class that may throw -/
theorem l_callX {y : MethodName} {ws ws' : List Cond} {f lo mcc msc maxL index n ci kt ec c1 s1 : Nat} {ty : FieldType} {As st : List Value} {r0 : Int32} {g0 : Mem} {C : String} {bytes : ByteArray} {T : u_T} {N : Nat} {fs : LY → Mem → List Value} (hs : sameAd wf) (had : ∀ (G : LY) (g g' : Mem), (wf G g).map Prod.fst = (wf G g').map Prod.fst) (hG : sG G' G) (X : gC p s m args meth c cc nL Ts own ret G A) (Z : LSt G (a ++ (wf G' g ++ b)) A s.heap H locs) (hM : cXI l y ws f lo mcc msc ty wf G' (.ref (G'.1 kt) :: As) g ec r0 g0) (hO : Ob wf kt ci fs) (hc : vwCl[ci]? = some (C, T, N)) (hT : GoodIn Ts (wsV own index C y ws)) (hw : ws = Cond.code y bytes maxL (some ty) :: ws') (hd : y.cls = C ∧ y.cls ≠ "java/lang/invoke/MethodHandle" ∧ y.cls ≠ "java/lang/invoke/VarHandle" ∧ (parseMethodDescriptor y.desc).map (fun d => d.parameters.length) = some n) (hn : As.length = n) (hR : f + 1 ≤ R.frames ∧ 8 + (maxL + 11) + lo ≤ R.locals) (hc1 : cells + mcc = c1) (hs1 : slots + msc = s1) (hcs : c1 ≤ R.cells ∧ s1 ≤ R.slots) (hsz : ls.size = nL) (hst : st = As.reverse ++ .ref (G'.1 kt) :: rest) (hr8 : (rest.map fun v => v.category).sum ≤ 8) (hdg : decode cc pc = .ok (.invokevirtual index, 3))
    (kx : ec ≠ 0 → ∀ (H1 : Heap) (locs1 : List Loc) (q9 : Addr) (ce : Cell), LSt G (a ++ (wf G' g0 ++ b)) A s.heap H1 locs1 → H1[q9]? = some ce → ce.vm = .none → s.vm.findClass (gExN ec) = some ce.cls → vx_W p l e R s m args below meth c H1 locs1 c1 s1 Q (F0 m pc ls rest) q9)
    (kk : ec = 0 → narrow ty (.int r0) = .int r0 → ∀ (H1 : Heap) (locs1 : List Loc), LSt G (a ++ (wf G' g0 ++ b)) A s.heap H1 locs1 → W p l e R s m args below meth c H1 locs1 c1 s1 Q (F0 m (pc + 3) ls (.int r0 :: rest))) : W p l e R s m args below meth c H locs cells slots Q (F0 m pc ls st) := by
  subst hst
  subst hc1
  subst hs1
  have hp := l_pre (g0 := g) hs hG X Z
  have hP := (ls_sub Z X.2.2.2.2.2.2.1).1
  refine vx_calli (vx_runV (As := As) (rest := rest) ⟨X.1, X.2.1, X.2.2.1, X.2.2.2.1, X.2.2.2.2.1⟩ (hM H.size) (cwV n X.2.2.2.2.1 hT hw rfl rfl hd hR) ⟨pC_blind, va_recv X.2.2.2.2.2.1 hP hc (hO.1 G' g), fun U hU hW => ⟨rfl, hp.2 U hU hW⟩⟩ rfl hn hsz rfl (lv_room hr8) hdg hcs) Z.2.2 (fun q _ h => hp.1 q h) hp.1 (fun q _ h => hp.1 q h) (fun E ce q9 u t H1 locs1 ht hvm hw2 hB hz1 hk1 hS hce hcv hcl => ?_) (fun r u t H1 locs1 ht hvm hw2 hB hz1 hk1 hS => ?_)
  · obtain ⟨hec, rfl⟩ := hw2
    obtain ⟨rfl, hB⟩ := hB
    exact kx hec H1 locs1 q9 ce (l_behind hs had hG Z ht hB hk1 hS) hce hcv hcl
  · obtain ⟨⟨hec, rfl, rfl⟩, hnr⟩ := hw2
    exact kk hec hnr H1 locs1 (l_behind hs had hG Z ht hB hk1 hS)
/-- a wrapper of the law: it answers k, never throws; its world: the class and the row -/
def cLw (l : Launch) (y : MethodName) (ws : List Cond) (f lo mc ms : Nat) (G : LY) (As : List Value) (w0 w1 : va_W) (r0 : Int32) : Prop := ∀ sz : Nat, vx_Met l y ws { frames := f, cells := mc, slots := ms, locals := lo } (va_Pc As (fun U => U.heap.size = sz ∧ (va_P G.2.2 vwCl w0 U.heap ∧ va_K G.2.2 vwCl (tyL G) U ∧ va_D (fun _ => True) w0) ∧ gEnv G (va_A w0 sz) U U.heap)) (va_Qi (fun (r : Int32) (_ : Unit) => r = r0) (fun _ t => va_P G.2.2 vwCl w1 t.heap ∧ va_K G.2.2 vwCl (tyL G) t ∧ va_D (va_A w0 sz) w1) (va_A w0 sz)) (vx_X (fun (_ : Unit) => False) (fun _ _ _ => True) (va_A w0 sz)) mc ms (va_A w0 sz)
theorem mk_cLw {y : MethodName} {ws ws' : List Cond} {f lo mc ms maxL : Nat} {r0 : Int32} {As : List Value} {w0 w1 : va_W} {hh : List (Nat × Nat × Nat × Nat)} (hy : plainName y.cls = true) (hw : ws = Cond.codeWith y cc maxL (some .int) hh :: ws') (hn : (lg_sl As).length ≤ maxL)
    (body : ∀ (p : Program) (e : Env) (s : State) (m : MethodId) (args : Array Value) (below : List Frame) (meth : Method) (c : Code) (A : Nat → Prop) (Q : State → Prop) (ls : Array Slot), gC p s m args meth c cc maxL ws y.cls (some .int) G A → c.exceptionTable.toList = tableOf hh → (∀ (pc : Nat) (ls : Array Slot) (H : Heap) (locs : List Loc) (cells slots : Nat), cells ≤ mc → slots ≤ ms → decode cc pc = .ok (.ireturn, 1) → LSt G w1 A s.heap H locs → W p l e { frames := f, cells := mc, slots := ms, locals := lo } s m args below meth c H locs cells slots Q (F0 m pc ls [.int r0])) → lv_has ls maxL (lv_args 0 As) → LSt G w0 A s.heap s.heap [] → W p l e { frames := f, cells := mc, slots := ms, locals := lo } s m args below meth c s.heap [] 0 0 Q (F0 m 0 ls [])) : cLw l y ws f lo mc ms G As w0 w1 r0 := by
  intro sz
  refine vx_ofWH (cc := cc) (maxL := maxL) (ret := some .int) (hh := hh) hy hw ?_
  intro p e s m args below meth c s₁ B hml hv
  obtain ⟨rfl, hsz, ⟨hP, hK, hD⟩, hE⟩ := hv
  subst hsz
  have hl := lv_entry As (n := maxL) hn
  rw [lg_entry_eq]
  have hts := atoms_spec (ws := ws) B.pre
  have ht := vx_table (x := y) B (hts _ (by rw [hw]; exact List.mem_cons_self))
  refine body p e s m _ below meth c (va_A w0 s.heap.size) _ _ ⟨B.exec, B.bytes, hml, findClass_of_methodNamed B.named, hts, hK, fun q h => Or.inr h, B.notSynchronized, B.returns, hE⟩ ht ?_ hl ⟨hP, hD.self, va_S.rf⟩
  intro pc ls H locs cells slots hc1 hs1 hdg Z
  have hlocks := B.notSynchronized
  refine vx_ret (W.widen hc1 hs1 ?_)
  exact W.zret B.exec B.bytes B.returns (vp_nar_int _) (fun t ht hW => ⟨⟨r0, (), rfl, rfl, by rw [ht]; exact Z.1, va_K.moved hW.alike hK, Z.2.1⟩, Z.2.2.F ht⟩) Z.2.2.2.2 hdg
/-- the law's call of a wrapper -/
theorem l_callW {y : MethodName} {ws ws' : List Cond} {f lo mcc msc maxL index n c1 s1 : Nat} {r0 : Int32} {As st : List Value} {w0 w1 b : va_W} {bytes : ByteArray} {hh : List (Nat × Nat × Nat × Nat)} (X : gC p s m args meth c cc nL Ts own ret G A) (Z : LSt G ([] ++ (w0 ++ b)) A s.heap H locs) (had : w0.map Prod.fst = w1.map Prod.fst) (hM : cLw l y ws f lo mcc msc G As w0 w1 r0) (hT : GoodIn Ts (va_wsS own index y ws)) (hw : ws = Cond.codeWith y bytes maxL (some .int) hh :: ws') (hd : y.cls ≠ "java/lang/invoke/MethodHandle" ∧ y.cls ≠ "java/lang/invoke/VarHandle" ∧ (parseMethodDescriptor y.desc).map (fun d => d.parameters.length) = some n) (hn : As.length = n) (hR : f + 1 ≤ R.frames ∧ 8 + (maxL + 11) + lo ≤ R.locals) (hc1 : cells + mcc = c1) (hs1 : slots + msc = s1) (hcs : c1 ≤ R.cells ∧ s1 ≤ R.slots) (hsz : ls.size = nL) (hst : st = As.reverse ++ rest) (hr8 : (rest.map fun v => v.category).sum ≤ 8) (hdg : decode cc pc = .ok (.invokestatic index, 3))
    (kk : ∀ (H1 : Heap) (locs1 : List Loc), LSt G ([] ++ (w1 ++ b)) A s.heap H1 locs1 → W p l e R s m args below meth c H1 locs1 c1 s1 Q (F0 m (pc + 3) ls (.int r0 :: rest))) : W p l e R s m args below meth c H locs cells slots Q (F0 m pc ls st) := by
  subst hst
  subst hc1
  subst hs1
  obtain ⟨h1, h2, h3⟩ := ls_sub Z X.2.2.2.2.2.2.1
  have hbl : FrameBlind (va_Pc As (fun U => U.heap.size = H.size ∧ (va_P G.2.2 vwCl w0 U.heap ∧ va_K G.2.2 vwCl (tyL G) U ∧ va_D (fun _ => True) w0) ∧ gEnv G (va_A w0 H.size) U U.heap)) := fun a U g9 mk q => by
    obtain ⟨q0, q1, ⟨qP, qK, qD⟩, qE⟩ := q
    exact ⟨q0, q1, ⟨qP, va_K.moved (u := U) (U := U.calling g9 mk a) (Vm.Alike.refl U.vm) qK, qD⟩, gEnv.same (u := U) (U := U.calling g9 mk a) rfl qE⟩
  refine vx_calli (vx_runSX (As := As) (rest := rest) ⟨X.1, X.2.1, X.2.2.1, X.2.2.2.1, X.2.2.2.2.1⟩ (hM H.size) (vx_cwSW n X.2.2.2.2.1 hT hw rfl rfl hd hR) ⟨hbl, fun U hU hW => ⟨rfl, by rw [hU], ⟨by rw [hU]; exact h1, va_K.moved hW.alike X.2.2.2.2.2.1, h2⟩, by rw [hU]; exact ((X.env Z.2.2).narrow h3).warm hW⟩⟩ rfl hn hsz rfl (lv_room hr8) hdg hcs) Z.2.2 (fun q _ h => h3 q h) h3 (fun q _ h => h3 q h) (fun E ce q9 u t H1 locs1 ht hvm hw2 hB hz1 hk1 hS hce hcv hcl => hw2.elim) (fun r u t H1 locs1 ht hvm hw2 hB hz1 hk1 hS => ?_)
  subst hw2
  obtain ⟨hP1, -, -⟩ := hB
  rw [ht] at hP1
  exact kk H1 locs1 (ls_frame Z had hP1 hk1 hS)
/-- caught: the j-th row of the table -/
theorem l_catch {hh pre suf : List (Nat × Nat × Nat × Nat)} {x : Nat × Nat × Nat × Nat} {ec : Nat} {q : Addr} {ce : Cell} {pcx : Nat} (X : gC p s m args meth c cc nL Ts own ret G A) (hS : va_S A s.heap H locs) (ht : c.exceptionTable.toList = tableOf hh) (hsp : hh = pre ++ x :: suf) (hpass : ∀ z ∈ pre, z.2.2.2 ≠ 0 ∧ ∃ nm : String, Cond.classLink own z.2.2.2 nm ∈ Ts ∧ (gExN ec, nm) ∈ gNcs) (hcv : covers ⟨x.1, x.2.1, x.2.2.1, x.2.2.2⟩ pc = true) (h0 : x.2.2.2 ≠ 0) (hl : Cond.classLink own x.2.2.2 (gExN ec) ∈ Ts) (hE : gExN ec ∈ gExs) (hce : H[q]? = some ce) (hv : ce.vm = .none) (hcl : s.vm.findClass (gExN ec) = some ce.cls) (hpx : x.2.2.1 = pcx)
    (kk : W p l e R s m args below meth c H locs cells slots Q (F0 m pcx ls [.ref q])) : vx_W p l e R s m args below meth c H locs cells slots Q (F0 m pc ls rest) q := by
  subst hpx
  have hEn := X.2.2.2.2.2.2.2.2.2
  refine vx_catch X.2.2.2.1 (tableOf pre) ⟨x.1, x.2.1, x.2.2.1, x.2.2.2⟩ (tableOf suf) (by rw [ht, hsp]; simp [tableOf]) ?_ hcv h0 (X.2.2.2.2.1 _ hl) (va_Nw.use rfl (hEn.2.2.2.1 _ hE)) hce hv hcl kk
  intro z hz
  obtain ⟨z', hz', rfl⟩ := List.mem_map.mp hz
  obtain ⟨h1, nm, h2, h3⟩ := hpass z' hz'
  exact Or.inr ⟨h1, nm, X.2.2.2.2.1 _ h2, hEn.2.2.2.2.1 _ h3⟩
/-- a static call that doesn't throw, of the class's world -/
theorem l_callS {y : MethodName} {ws ws' : List Cond} {f lo maxL index n : Nat} {ty : FieldType} {As st : List Value} {r0 : Int32} {g0 : Mem} {bytes : ByteArray} (hs : sameAd wf) (had : ∀ (G : LY) (g g' : Mem), (wf G g).map Prod.fst = (wf G g').map Prod.fst) (hG : sG G' G) (X : gC p s m args meth c cc nL Ts own ret G A) (Z : LSt G (a ++ (wf G' g ++ b)) A s.heap H locs) (hM : cI l y ws f lo ty wf G' As g r0 g0) (hT : GoodIn Ts (va_wsS own index y ws)) (hw : ws = Cond.code y bytes maxL (some ty) :: ws') (hd : y.cls ≠ "java/lang/invoke/MethodHandle" ∧ y.cls ≠ "java/lang/invoke/VarHandle" ∧ (parseMethodDescriptor y.desc).map (fun d => d.parameters.length) = some n) (hn : As.length = n) (hR : f + 1 ≤ R.frames ∧ 8 + (maxL + 11) + lo ≤ R.locals) (hcs : cells ≤ R.cells ∧ slots ≤ R.slots) (hsz : ls.size = nL) (hst : st = As.reverse ++ rest) (hr8 : (rest.map fun v => v.category).sum ≤ 8) (hdg : decode cc pc = .ok (.invokestatic index, 3))
    (kk : narrow ty (.int r0) = .int r0 → ∀ (H1 : Heap) (locs1 : List Loc), LSt G (a ++ (wf G' g0 ++ b)) A s.heap H1 locs1 → W p l e R s m args below meth c H1 locs1 cells slots Q (F0 m (pc + 3) ls (.int r0 :: rest))) : W p l e R s m args below meth c H locs cells slots Q (F0 m pc ls st) := by
  subst hst
  have hp := l_pre (g0 := g) hs hG X Z
  refine va_calli (va_runS (As := As) (rest := rest) ⟨X.1, X.2.1, X.2.2.1, X.2.2.2.1, X.2.2.2.2.1⟩ (hM H.size) (va_cwS n X.2.2.2.2.1 hT hw rfl rfl hd hR) ⟨pC_blind, fun U hU hW => ⟨rfl, hp.2 U hU hW⟩⟩ rfl hn hsz rfl (lv_room hr8) hdg hcs) Z.2.2 (fun q _ h => hp.1 q h) hp.1 (fun r u t H1 locs1 ht hvm hw2 hB hz1 hk1 hS => ?_)
  obtain ⟨⟨rfl, rfl⟩, hnr⟩ := hw2
  exact kk hnr H1 locs1 (l_behind hs had hG Z ht hB hk1 hS)
/-- the rows again, over the law's world: a call of the class that changes nothing -/
theorem d_callVI {y : MethodName} {ws ws' : List Cond} {f lo maxL index n ci kt : Nat} {ty : FieldType} {As st : List Value} {r0 : Int32} {C : String} {bytes : ByteArray} {T : u_T} {N : Nat} {fs : LY → Mem → List Value} (hs : sameAd wC) (X : gC p s m args meth c cc nL Ts own ret G A) (Z : WS wD G g A s.heap H locs) (hM : cI l y ws f lo ty wC G (.ref (G.1 kt) :: As) g r0 g) (hO : Ob wC kt ci fs) (hc : vwCl[ci]? = some (C, T, N)) (hT : GoodIn Ts (wsV own index C y ws)) (hw : ws = Cond.code y bytes maxL (some ty) :: ws') (hd : y.cls = C ∧ y.cls ≠ "java/lang/invoke/MethodHandle" ∧ y.cls ≠ "java/lang/invoke/VarHandle" ∧ (parseMethodDescriptor y.desc).map (fun d => d.parameters.length) = some n) (hn : As.length = n) (hR : f + 1 ≤ R.frames ∧ 8 + (maxL + 11) + lo ≤ R.locals) (hcs : cells ≤ R.cells ∧ slots ≤ R.slots) (hsz : ls.size = nL) (hst : st = As.reverse ++ .ref (G.1 kt) :: rest) (hr8 : (rest.map fun v => v.category).sum ≤ 8) (hdg : decode cc pc = .ok (.invokevirtual index, 3))
    (kk : narrow ty (.int r0) = .int r0 → ∀ (H1 : Heap) (locs1 : List Loc), WS wD G g A s.heap H1 locs1 → W p l e R s m args below meth c H1 locs1 cells slots Q (F0 m (pc + 3) ls (.int r0 :: rest))) : W p l e R s m args below meth c H locs cells slots Q (F0 m pc ls st) :=
  l_callI (a := []) (b := [hE G g]) hs adC (sG_r G) X Z hM hO hc hT hw hd hn hR hcs hsz hst hr8 hdg kk
theorem d_callSI {y : MethodName} {ws ws' : List Cond} {f lo maxL index n : Nat} {ty : FieldType} {As st : List Value} {r0 : Int32} {bytes : ByteArray} (hs : sameAd wC) (X : gC p s m args meth c cc nL Ts own ret G A) (Z : WS wD G g A s.heap H locs) (hM : cI l y ws f lo ty wC G As g r0 g) (hT : GoodIn Ts (va_wsS own index y ws)) (hw : ws = Cond.code y bytes maxL (some ty) :: ws') (hd : y.cls ≠ "java/lang/invoke/MethodHandle" ∧ y.cls ≠ "java/lang/invoke/VarHandle" ∧ (parseMethodDescriptor y.desc).map (fun d => d.parameters.length) = some n) (hn : As.length = n) (hR : f + 1 ≤ R.frames ∧ 8 + (maxL + 11) + lo ≤ R.locals) (hcs : cells ≤ R.cells ∧ slots ≤ R.slots) (hsz : ls.size = nL) (hst : st = As.reverse ++ rest) (hr8 : (rest.map fun v => v.category).sum ≤ 8) (hdg : decode cc pc = .ok (.invokestatic index, 3))
    (kk : narrow ty (.int r0) = .int r0 → ∀ (H1 : Heap) (locs1 : List Loc), WS wD G g A s.heap H1 locs1 → W p l e R s m args below meth c H1 locs1 cells slots Q (F0 m (pc + 3) ls (.int r0 :: rest))) : W p l e R s m args below meth c H locs cells slots Q (F0 m pc ls st) :=
  l_callS (a := []) (b := [hE G g]) hs adC (sG_r G) X Z hM hT hw hd hn hR hcs hsz hst hr8 hdg kk
/-- .. a static call over the class's cells that changes them -/
theorem d_callSM {y : MethodName} {ws ws' : List Cond} {f lo maxL index n : Nat} {ty : FieldType} {As st : List Value} {r0 : Int32} {g0 : Mem} {bytes : ByteArray} (X : gC p s m args meth c cc nL Ts own ret G A) (Z : WS wD G g A s.heap H locs) (hM : cI l y ws f lo ty wC G As g r0 g0) (hT : GoodIn Ts (va_wsS own index y ws)) (hw : ws = Cond.code y bytes maxL (some ty) :: ws') (hd : y.cls ≠ "java/lang/invoke/MethodHandle" ∧ y.cls ≠ "java/lang/invoke/VarHandle" ∧ (parseMethodDescriptor y.desc).map (fun d => d.parameters.length) = some n) (hn : As.length = n) (hR : f + 1 ≤ R.frames ∧ 8 + (maxL + 11) + lo ≤ R.locals) (hcs : cells ≤ R.cells ∧ slots ≤ R.slots) (hsz : ls.size = nL) (hst : st = As.reverse ++ rest) (hr8 : (rest.map fun v => v.category).sum ≤ 8) (hdg : decode cc pc = .ok (.invokestatic index, 3))
    (kk : narrow ty (.int r0) = .int r0 → ∀ (H1 : Heap) (locs1 : List Loc), WS wD G (m161 g0 g) A s.heap H1 locs1 → W p l e R s m args below meth c H1 locs1 cells slots Q (F0 m (pc + 3) ls (.int r0 :: rest))) : W p l e R s m args below meth c H locs cells slots Q (F0 m pc ls st) :=
  l_callS (a := []) (b := [hE G g]) sameC adC (sG_r G) X Z hM hT hw hd hn hR hcs hsz hst hr8 hdg (fun hn H1 locs1 Z1 => kk hn H1 locs1 (by unfold WS; rw [wD_m]; exact Z1))
/-- a call of a wrapper, over either world -/
theorem g_callW {y : MethodName} {ws ws' : List Cond} {f lo mcc msc maxL index n c1 s1 : Nat} {r0 : Int32} {As st : List Value} {g0 : Mem} {bytes : ByteArray} {hh : List (Nat × Nat × Nat × Nat)} (X : gC p s m args meth c cc nL Ts own ret G A) (Z : WS wC G g A s.heap H locs) (hM : cLw l y ws f lo mcc msc G As (wC G g) (wC G g0) r0) (hT : GoodIn Ts (va_wsS own index y ws)) (hw : ws = Cond.codeWith y bytes maxL (some .int) hh :: ws') (hd : y.cls ≠ "java/lang/invoke/MethodHandle" ∧ y.cls ≠ "java/lang/invoke/VarHandle" ∧ (parseMethodDescriptor y.desc).map (fun d => d.parameters.length) = some n) (hn : As.length = n) (hR : f + 1 ≤ R.frames ∧ 8 + (maxL + 11) + lo ≤ R.locals) (hc1 : cells + mcc = c1) (hs1 : slots + msc = s1) (hcs : c1 ≤ R.cells ∧ s1 ≤ R.slots) (hsz : ls.size = nL) (hst : st = As.reverse ++ rest) (hr8 : (rest.map fun v => v.category).sum ≤ 8) (hdg : decode cc pc = .ok (.invokestatic index, 3))
    (kk : ∀ (H1 : Heap) (locs1 : List Loc), WS wC G g0 A s.heap H1 locs1 → W p l e R s m args below meth c H1 locs1 c1 s1 Q (F0 m (pc + 3) ls (.int r0 :: rest))) : W p l e R s m args below meth c H locs cells slots Q (F0 m pc ls st) :=
  l_callW (b := []) X (by rw [List.nil_append, List.append_nil]; exact Z) (adC G g g0) hM hT hw hd hn hR hc1 hs1 hcs hsz hst hr8 hdg (fun H1 locs1 Z1 => kk H1 locs1 (by rw [List.nil_append, List.append_nil] at Z1; exact Z1))
theorem d_callW {y : MethodName} {ws ws' : List Cond} {f lo mcc msc maxL index n c1 s1 : Nat} {r0 : Int32} {As st : List Value} {g0 g1 : Mem} {bytes : ByteArray} {hh : List (Nat × Nat × Nat × Nat)} (e1 : g1 = m161 g0 g) (X : gC p s m args meth c cc nL Ts own ret G A) (Z : WS wD G g A s.heap H locs) (hM : cLw l y ws f lo mcc msc G As (wC G g) (wC G g0) r0) (hT : GoodIn Ts (va_wsS own index y ws)) (hw : ws = Cond.codeWith y bytes maxL (some .int) hh :: ws') (hd : y.cls ≠ "java/lang/invoke/MethodHandle" ∧ y.cls ≠ "java/lang/invoke/VarHandle" ∧ (parseMethodDescriptor y.desc).map (fun d => d.parameters.length) = some n) (hn : As.length = n) (hR : f + 1 ≤ R.frames ∧ 8 + (maxL + 11) + lo ≤ R.locals) (hc1 : cells + mcc = c1) (hs1 : slots + msc = s1) (hcs : c1 ≤ R.cells ∧ s1 ≤ R.slots) (hsz : ls.size = nL) (hst : st = As.reverse ++ rest) (hr8 : (rest.map fun v => v.category).sum ≤ 8) (hdg : decode cc pc = .ok (.invokestatic index, 3))
    (kk : ∀ (H1 : Heap) (locs1 : List Loc), WS wD G g1 A s.heap H1 locs1 → W p l e R s m args below meth c H1 locs1 c1 s1 Q (F0 m (pc + 3) ls (.int r0 :: rest))) : W p l e R s m args below meth c H locs cells slots Q (F0 m pc ls st) := by
  subst e1
  exact l_callW (w0 := wC G g) (w1 := wC G g0) (b := [hE G g]) X Z (adC G g g0) hM hT hw hd hn hR hc1 hs1 hcs hsz hst hr8 hdg (fun H1 locs1 Z1 => kk H1 locs1 (by unfold WS; rw [wD_m]; exact Z1))
/-- contracts of methods that call wrappers: they may make cells -/
def cJ (l : Launch) (y : MethodName) (ws : List Cond) (f lo mc ms : Nat) (ty : FieldType) (wf : WF) (G : LY) (As : List Value) (g : Mem) (r0 : Int32) (g0 : Mem) : Prop :=
  ∀ sz : Nat, Met l y ws { frames := f, cells := mc, slots := ms, locals := lo } (va_Pc As (pC wf G g sz)) (va_Qi (fun (r : Int32) (u : Mem) => (r = r0 ∧ u = g0) ∧ narrow ty (.int r0) = .int r0) (fun u t => wB wf G u (aW wf G sz) t) (aW wf G sz)) mc ms (aW wf G sz)
theorem mk_cJ {y : MethodName} {ws ws' : List Cond} {f lo mc ms : Nat} {ty : FieldType} {As : List Value} {r0 : Int32} {g0 : Mem} {maxL : Nat} (hs : sameAd wf) (hy : plainFor y = true) (hw : ws = Cond.code y cc maxL (some ty) :: ws') (hn : (lg_sl As).length ≤ maxL)
    (body : ∀ (p : Program) (e : Env) (s : State) (m : MethodId) (args : Array Value) (below : List Frame) (meth : Method) (c : Code) (A : Nat → Prop) (Q : State → Prop) (ls : Array Slot), gC p s m args meth c cc maxL ws y.cls (some ty) G A → (∀ (pc : Nat) (ls : Array Slot) (H : Heap) (locs : List Loc) (cells slots : Nat), cells ≤ mc ∧ slots ≤ ms → decode cc pc = .ok (.ireturn, 1) → WS wf G g0 A s.heap H locs → narrow ty (.int r0) = .int r0 → W p l e { frames := f, cells := mc, slots := ms, locals := lo } s m args below meth c H locs cells slots Q (F0 m pc ls [.int r0])) → lv_has ls maxL (lv_args 0 As) → WS wf G g A s.heap s.heap [] → W p l e { frames := f, cells := mc, slots := ms, locals := lo } s m args below meth c s.heap [] 0 0 Q (F0 m 0 ls [])) : cJ l y ws f lo mc ms ty wf G As g r0 g0 := by
  intro sz
  refine va_MetF (cc := cc) (maxL := maxL) (ret := some ty) hy hw ?_
  intro p e s m args below meth c s₁ B hml hv
  obtain ⟨rfl, hsz, ⟨hP, hK, hD⟩, hE⟩ := hv
  subst hsz
  have hl := lv_entry As (n := maxL) hn
  rw [lg_entry_eq]
  have hD2 : va_D (aW wf G s.heap.size) (wf G g) := by rw [← aW_eq hs G g]; exact hD.self
  refine body p e s m _ below meth c (aW wf G s.heap.size) _ _ ⟨B.exec, B.bytes, hml, findClass_of_methodNamed B.named, atoms_spec (ws := ws) B.pre, hK, fun q h => Or.inr h, B.notSynchronized, B.returns, hE⟩ ?_ hl ⟨hP, hD2, va_S.rf⟩
  intro pc ls H locs cells slots hcs hdg Z hnr
  have hlocks := B.notSynchronized
  refine W.widen hcs.1 hcs.2 ?_
  exact W.zret B.exec B.bytes B.returns hnr (fun t ht hW => ⟨⟨r0, g0, rfl, ⟨⟨rfl, rfl⟩, hnr⟩, by rw [ht]; exact Z.1, va_K.moved hW.alike hK, Z.2.1⟩, Z.2.2.F ht⟩) Z.2.2.2.2 hdg
theorem l_callJ {y : MethodName} {ws ws' : List Cond} {f lo mcc msc maxL index n c1 s1 : Nat} {ty : FieldType} {As st : List Value} {r0 : Int32} {g0 : Mem} {bytes : ByteArray} (hs : sameAd wf) (had : ∀ (G : LY) (g g' : Mem), (wf G g).map Prod.fst = (wf G g').map Prod.fst) (hG : sG G' G) (X : gC p s m args meth c cc nL Ts own ret G A) (Z : LSt G (a ++ (wf G' g ++ b)) A s.heap H locs) (hM : cJ l y ws f lo mcc msc ty wf G' As g r0 g0) (hT : GoodIn Ts (va_wsS own index y ws)) (hw : ws = Cond.code y bytes maxL (some ty) :: ws') (hd : y.cls ≠ "java/lang/invoke/MethodHandle" ∧ y.cls ≠ "java/lang/invoke/VarHandle" ∧ (parseMethodDescriptor y.desc).map (fun d => d.parameters.length) = some n) (hn : As.length = n) (hR : f + 1 ≤ R.frames ∧ 8 + (maxL + 11) + lo ≤ R.locals) (hc1 : cells + mcc = c1) (hs1 : slots + msc = s1) (hcs : c1 ≤ R.cells ∧ s1 ≤ R.slots) (hsz : ls.size = nL) (hst : st = As.reverse ++ rest) (hr8 : (rest.map fun v => v.category).sum ≤ 8) (hdg : decode cc pc = .ok (.invokestatic index, 3))
    (kk : narrow ty (.int r0) = .int r0 → ∀ (H1 : Heap) (locs1 : List Loc), LSt G (a ++ (wf G' g0 ++ b)) A s.heap H1 locs1 → W p l e R s m args below meth c H1 locs1 c1 s1 Q (F0 m (pc + 3) ls (.int r0 :: rest))) : W p l e R s m args below meth c H locs cells slots Q (F0 m pc ls st) := by
  subst hst
  subst hc1
  subst hs1
  have hp := l_pre (g0 := g) hs hG X Z
  refine va_calli (va_runS (As := As) (rest := rest) ⟨X.1, X.2.1, X.2.2.1, X.2.2.2.1, X.2.2.2.2.1⟩ (hM H.size) (va_cwS n X.2.2.2.2.1 hT hw rfl rfl hd hR) ⟨pC_blind, fun U hU hW => ⟨rfl, hp.2 U hU hW⟩⟩ rfl hn hsz rfl (lv_room hr8) hdg hcs) Z.2.2 (fun q _ h => hp.1 q h) hp.1 (fun r u t H1 locs1 ht hvm hw2 hB hz1 hk1 hS => ?_)
  obtain ⟨⟨rfl, rfl⟩, hnr⟩ := hw2
  exact kk hnr H1 locs1 (l_behind hs had hG Z ht hB hk1 hS)
/-- the law's calls: over the class's cells, and over its own world -/
theorem d_callJ {y : MethodName} {ws ws' : List Cond} {f lo mcc msc maxL index n c1 s1 : Nat} {ty : FieldType} {As st : List Value} {r0 : Int32} {g0 : Mem} {bytes : ByteArray} (X : gC p s m args meth c cc nL Ts own ret G A) (Z : WS wD G g A s.heap H locs) (hM : cJ l y ws f lo mcc msc ty wC G As g r0 g0) (hT : GoodIn Ts (va_wsS own index y ws)) (hw : ws = Cond.code y bytes maxL (some ty) :: ws') (hd : y.cls ≠ "java/lang/invoke/MethodHandle" ∧ y.cls ≠ "java/lang/invoke/VarHandle" ∧ (parseMethodDescriptor y.desc).map (fun d => d.parameters.length) = some n) (hn : As.length = n) (hR : f + 1 ≤ R.frames ∧ 8 + (maxL + 11) + lo ≤ R.locals) (hc1 : cells + mcc = c1) (hs1 : slots + msc = s1) (hcs : c1 ≤ R.cells ∧ s1 ≤ R.slots) (hsz : ls.size = nL) (hst : st = As.reverse ++ rest) (hr8 : (rest.map fun v => v.category).sum ≤ 8) (hdg : decode cc pc = .ok (.invokestatic index, 3))
    (kk : narrow ty (.int r0) = .int r0 → ∀ (H1 : Heap) (locs1 : List Loc), WS wD G (m161 g0 g) A s.heap H1 locs1 → W p l e R s m args below meth c H1 locs1 c1 s1 Q (F0 m (pc + 3) ls (.int r0 :: rest))) : W p l e R s m args below meth c H locs cells slots Q (F0 m pc ls st) :=
  l_callJ (a := []) (b := [hE G g]) sameC adC (sG_r G) X Z hM hT hw hd hn hR hc1 hs1 hcs hsz hst hr8 hdg (fun hn H1 locs1 Z1 => kk hn H1 locs1 (by unfold WS; rw [wD_m]; exact Z1))
theorem d_callJD {y : MethodName} {ws ws' : List Cond} {f lo mcc msc maxL index n c1 s1 : Nat} {ty : FieldType} {As st : List Value} {r0 : Int32} {g0 : Mem} {bytes : ByteArray} (X : gC p s m args meth c cc nL Ts own ret G A) (Z : WS wD G g A s.heap H locs) (hM : cJ l y ws f lo mcc msc ty wD G As g r0 g0) (hT : GoodIn Ts (va_wsS own index y ws)) (hw : ws = Cond.code y bytes maxL (some ty) :: ws') (hd : y.cls ≠ "java/lang/invoke/MethodHandle" ∧ y.cls ≠ "java/lang/invoke/VarHandle" ∧ (parseMethodDescriptor y.desc).map (fun d => d.parameters.length) = some n) (hn : As.length = n) (hR : f + 1 ≤ R.frames ∧ 8 + (maxL + 11) + lo ≤ R.locals) (hc1 : cells + mcc = c1) (hs1 : slots + msc = s1) (hcs : c1 ≤ R.cells ∧ s1 ≤ R.slots) (hsz : ls.size = nL) (hst : st = As.reverse ++ rest) (hr8 : (rest.map fun v => v.category).sum ≤ 8) (hdg : decode cc pc = .ok (.invokestatic index, 3))
    (kk : narrow ty (.int r0) = .int r0 → ∀ (H1 : Heap) (locs1 : List Loc), WS wD G g0 A s.heap H1 locs1 → W p l e R s m args below meth c H1 locs1 c1 s1 Q (F0 m (pc + 3) ls (.int r0 :: rest))) : W p l e R s m args below meth c H locs cells slots Q (F0 m pc ls st) :=
  l_callJ (a := []) (b := []) sameD adD (sG_r G) X (by rw [List.nil_append, List.append_nil]; exact Z) hM hT hw hd hn hR hc1 hs1 hcs hsz hst hr8 hdg (fun hn H1 locs1 Z1 => kk hn H1 locs1 (by rw [List.nil_append, List.append_nil] at Z1; exact Z1))
end GL
theorem l_sld {p : Program} {l : Launch} {e : Env} {R : Room} {s : State} {m : MethodId} {args : Array Value} {below : List Frame} {meth : Method} {c : Code} {H : Heap} {locs : List Loc} {cells slots : Nat} {Q : State → Prop} {cc : ByteArray} {A : Nat → Prop} {ls : Array Slot} {rest : List Value} {pc : Nat} (hexec : p.tables.exec = Jvm.exec) (hb : c.code = cc) {b L : Nat} {xs : Nat → Int32} (hX : va_X b L xs s s.heap) (hbl : b < s.heap.size) (hbA : ¬ A b) (hS : va_S A s.heap H locs) {i v : Int32} (hin : vp_in i L) (hv : xs i.toNatClampNeg = v) (hdg : decode cc pc = .ok (.iaload, 1))
    (kk : W p l e R s m args below meth c H locs cells slots Q (F0 m (pc + 1) ls (.int v :: rest))) : W p l e R s m args below meth c H locs cells slots Q (F0 m pc ls (.int i :: .ref b :: rest)) := by
  subst hv
  exact va_sld hexec hb hX hbl hbA hS hin hdg kk
