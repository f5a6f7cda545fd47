/-! the pure part: words about numbers, loops and the row of the reference -/
theorem bi_s {α β : Type} {x : α} {f : α → Option β} : sBi (some x) f = f x := rfl
theorem bi2_s {α β γ : Type} {x : α} {y : β} {f : α → β → Option γ} : sBi2 (some (x, y)) f = f x y := rfl
theorem let_s {α β : Type} {x : α} {f : α → Option β} : sLet x f = f x := rfl
theorem rq_0 {β : Type} {thr : Nat → Option β} {k : Option β} : sReq (some 0) thr k = k := rfl
theorem rq_1 {β : Type} {thr : Nat → Option β} {k : Option β} : sReq (some 1) thr k = thr 1 := rfl
theorem rq_2 {β : Type} {thr : Nat → Option β} {k : Option β} : sReq (some 2) thr k = thr 2 := rfl
theorem rq_3 {β : Type} {thr : Nat → Option β} {k : Option β} : sReq (some 3) thr k = thr 3 := rfl
theorem ix_v {α : Type} {i : Int32} {n : Nat} {f : Nat → Option α} (h0 : 0 ≤ i.toInt) (h : i.toInt < (n : Int)) : sIdx i n f = f i.toNatClampNeg := if_pos ⟨h0, h⟩
theorem ix_n {α : Type} {i n : Nat} {f : Nat → Option α} (h : i < n) (hn : n < 2147483648) : sIdx (nI i) n f = f i := by
  have e := nI_toInt (n := i) (by omega)
  rw [ix_v (by omega) (by omega), nI_clamp (by omega)]
theorem ix_l {α : Type} {i : Int32} {n : Nat} {f : Nat → Option α} (k : Nat) (hi : i = nI k) (h : k < n) (hn : n < 2147483648) : sIdx i n f = f k := by
  rw [hi, ix_n h hn]
theorem ix_e {α : Type} {i : Int32} {n : Nat} {x : Option α} (k : Nat) (hi : i = nI k) (h : k < n) (hn : n < 2147483648) : (sIdx i n fun _ => x) = x := ix_l k hi h hn
def b2 (b : Bool) : Int32 := if b = true then 1 else 0
theorem b2_t : b2 true = 1 := rfl
theorem b2_f : b2 false = 0 := rfl
theorem b2_0 {b : Bool} : b2 b = 0 ↔ b = false := by cases b <;> decide
theorem b2_1 {b : Bool} : b2 b = 1 ↔ b = true := by cases b <;> decide
theorem b2_ite {α : Type} {b : Bool} {x y : α} : (if b2 b = 0 then x else y) = if b = true then y else x := by cases b <;> rfl
theorem ite_b2 {p : Prop} [Decidable p] : (if p then some (1 : Int32) else some (0 : Int32)) = some (b2 (decide p)) := by
  by_cases h : p <;> simp [h, b2]
theorem ite_b2' {p : Prop} [Decidable p] : (if p then some (0 : Int32) else some (1 : Int32)) = some (b2 (!decide p)) := by
  by_cases h : p <;> simp [h, b2]
theorem i_le {x y : Int32} : x ≤ y ↔ x.toInt ≤ y.toInt := Int32.le_iff_toInt_le
theorem i_lt {x y : Int32} : x < y ↔ x.toInt < y.toInt := Int32.lt_iff_toInt_lt
theorem i_eq {x y : Int32} : x = y ↔ x.toInt = y.toInt := Int32.toInt_inj.symm
theorem i_lo (x : Int32) : -2147483648 ≤ x.toInt := Int32.le_toInt x
theorem i_hi (x : Int32) : x.toInt < 2147483648 := Int32.toInt_lt x
theorem bm {z : Int} (h : -2147483648 ≤ z) (h2 : z < 2147483648) : z.bmod (2 ^ 32) = z := Int.bmod_eq_of_le (by omega) (by omega)
theorem i_add {x y : Int32} (h : -2147483648 ≤ x.toInt + y.toInt) (h2 : x.toInt + y.toInt < 2147483648) : (x + y).toInt = x.toInt + y.toInt := by
  rw [Int32.toInt_add, bm h h2]
theorem i_sub {x y : Int32} (h : -2147483648 ≤ x.toInt - y.toInt) (h2 : x.toInt - y.toInt < 2147483648) : (x - y).toInt = x.toInt - y.toInt := by
  rw [Int32.toInt_sub, bm h h2]
theorem i_mul {x y : Int32} (h : -2147483648 ≤ x.toInt * y.toInt) (h2 : x.toInt * y.toInt < 2147483648) : (x * y).toInt = x.toInt * y.toInt := by
  rw [Int32.toInt_mul, bm h h2]
theorem i_neg {x : Int32} (h : -2147483648 < x.toInt) : (-x).toInt = -x.toInt := by
  have := i_hi x
  rw [Int32.toInt_neg, bm (by omega) (by omega)]
theorem tdiv_b {z : Int} {d : Int} (hd : 0 < d) (h : -2147483648 ≤ z) (h2 : z < 2147483648) : -2147483648 ≤ z.tdiv d ∧ z.tdiv d < 2147483648 := by
  rcases Int.lt_or_le z 0 with q | q
  · have e : z.tdiv d = -((-z).tdiv d) := by rw [Int.neg_tdiv, Int.neg_neg]
    have e2 : (-z).tdiv d = (-z) / d := Int.tdiv_eq_ediv_of_nonneg (by omega)
    have h3 : 0 ≤ (-z) / d := Int.ediv_nonneg (by omega) (by omega)
    have h4 : (-z) / d ≤ -z := Int.ediv_le_self _ (by omega)
    omega
  · have e2 : z.tdiv d = z / d := Int.tdiv_eq_ediv_of_nonneg q
    have h3 : 0 ≤ z / d := Int.ediv_nonneg (by omega) (by omega)
    have h4 : z / d ≤ z := Int.ediv_le_self _ (by omega)
    omega
theorem i_div {x y : Int32} (hd : 0 < y.toInt) : (x / y).toInt = x.toInt.tdiv y.toInt := by
  have h := tdiv_b hd (i_lo x) (i_hi x)
  rw [Int32.toInt_div, bm h.1 h.2]
/-- counting -/
def cnt (p : Nat → Bool) : Nat → Nat
  | 0 => 0
  | n + 1 => cnt p n + (if p n = true then 1 else 0)
theorem cnt_le (p : Nat → Bool) : ∀ n, cnt p n ≤ n
  | 0 => Nat.le_refl 0
  | n + 1 => by
    have := cnt_le p n
    unfold cnt
    split <;> omega
theorem cnt_cg {p q : Nat → Bool} : ∀ n, (∀ i, i < n → p i = q i) → cnt p n = cnt q n
  | 0, _ => rfl
  | n + 1, h => by
    unfold cnt
    rw [cnt_cg n (fun i hi => h i (by omega)), h n (by omega)]
theorem cnt_set {p q : Nat → Bool} {t : Nat} (ht : p t = false) (hq : q t = true) : ∀ n, t < n → (∀ i, i < n → i ≠ t → p i = q i) → cnt q n = cnt p n + 1
  | 0, h, _ => by omega
  | n + 1, h, hh => by
    unfold cnt
    by_cases e : t = n
    · subst e
      rw [ht, hq, cnt_cg t (fun i hi => (hh i (by omega) (by omega)).symm)]
      simp
    · rw [cnt_set ht hq n (by omega) (fun i hi hne => hh i (by omega) hne), hh n (by omega) (fun z => e z.symm)]
      omega
theorem cnt_mono {p q : Nat → Bool} : ∀ n, (∀ i, i < n → p i = true → q i = true) → cnt p n ≤ cnt q n
  | 0, _ => Nat.le_refl 0
  | n + 1, h => by
    have h1 := cnt_mono n (fun i hi => h i (by omega))
    have h2 := h n (by omega)
    unfold cnt
    by_cases e : p n = true
    · rw [if_pos e, if_pos (h2 e)]
      omega
    · rw [if_neg e]
      split <;> omega
theorem cnt_all {p q : Nat → Bool} : ∀ n, (∀ i, i < n → p i = true → q i = true) → cnt q n = cnt p n → ∀ i, i < n → q i = true → p i = true
  | 0, _, _ => fun i hi => by omega
  | n + 1, h, e => fun i hi hq => by
    have h1 := cnt_mono n (fun i hi => h i (by omega))
    have h2 := h n (by omega)
    unfold cnt at e
    have e1 : cnt q n = cnt p n ∧ (q n = true → p n = true) := by
      by_cases z : p n = true
      · rw [if_pos z, if_pos (h2 z)] at e
        exact ⟨by omega, fun _ => z⟩
      · rw [if_neg z] at e
        by_cases y : q n = true
        · rw [if_pos y] at e
          omega
        · rw [if_neg y] at e
          exact ⟨by omega, fun y' => absurd y' y⟩
    by_cases z : i = n
    · rw [z] at hq ⊢
      exact e1.2 hq
    · exact cnt_all n (fun i hi => h i (by omega)) e1.1 i (by omega) hq
/-- loops that count up -/
def itr {σ : Type} (st : Nat → σ → σ) : Nat → Nat → σ → σ
  | _, 0, s => s
  | i, d + 1, s => itr st (i + 1) d (st i s)
theorem lp_up {σ α : Type} (L : Nat → σ → Int32 → Option α) (B : Nat) (st : Nat → σ → σ) (fin : σ → Option α) (h1 : ∀ f i s, i < B → L (f + 1) s (nI i) = L f (st i s) (nI (i + 1))) (h2 : ∀ f s, L (f + 1) s (nI B) = fin s) : ∀ d i, i + d = B → ∀ f, d < f → ∀ s, L f s (nI i) = fin (itr st i d s)
  | 0, i, h, f + 1, _, s => by
    have e : i = B := by omega
    rw [e, h2]
    rfl
  | d + 1, i, h, f + 1, hf, s => by
    rw [h1 f i s (by omega), lp_up L B st fin h1 h2 d (i + 1) (by omega) f (by omega)]
    rfl
theorem lp_ex {α : Type} (L : Nat → Int32 → Option α) (B : Nat) (c : Nat → Prop) (ret : Nat → Option α) (fin : Option α) (hc : ∀ i, c i ∨ ¬ c i) (h1 : ∀ f i, i < B → ¬ c i → L (f + 1) (nI i) = L f (nI (i + 1))) (h2 : ∀ f i, i < B → c i → L (f + 1) (nI i) = ret i) (h3 : ∀ f, L (f + 1) (nI B) = fin) : ∀ d i, i + d = B → ∀ f, d < f → (∃ j, i ≤ j ∧ j < B ∧ c j ∧ (∀ u, i ≤ u → u < j → ¬ c u) ∧ L f (nI i) = ret j) ∨ ((∀ j, i ≤ j → j < B → ¬ c j) ∧ L f (nI i) = fin)
  | 0, i, h, f + 1, _ => by
    have e : i = B := by omega
    exact Or.inr ⟨fun j h1 h2 => by omega, by rw [e, h3]⟩
  | d + 1, i, h, f + 1, hf => by
    rcases hc i with q | q
    · exact Or.inl ⟨i, Nat.le_refl i, by omega, q, fun u h1 h2 => by omega, h2 f i (by omega) q⟩
    · rcases lp_ex L B c ret fin hc h1 h2 h3 d (i + 1) (by omega) f (by omega) with ⟨j, g1, g2, g3, g4, g5⟩ | ⟨g1, g2⟩
      · refine Or.inl ⟨j, by omega, g2, g3, fun u u1 u2 => ?_, by rw [h1 f i (by omega) q, g5]⟩
        by_cases z : u = i
        · rw [z]; exact q
        · exact g4 u (by omega) u2
      · refine Or.inr ⟨fun j j1 j2 => ?_, by rw [h1 f i (by omega) q, g2]⟩
        by_cases z : j = i
        · rw [z]; exact q
        · exact g1 j (by omega) j2
/-- some place below n has it -/
def anyB (c : Nat → Bool) : Nat → Bool
  | 0 => false
  | n + 1 => anyB c n || c n
theorem anyB_iff {c : Nat → Bool} : ∀ {n}, anyB c n = true ↔ ∃ i, i < n ∧ c i = true
  | 0 => by simp [anyB]
  | n + 1 => by
    unfold anyB
    rw [Bool.or_eq_true, anyB_iff]
    constructor
    · rintro (⟨i, h1, h2⟩ | h)
      · exact ⟨i, by omega, h2⟩
      · exact ⟨n, by omega, h⟩
    · rintro ⟨i, h1, h2⟩
      by_cases z : i = n
      · rw [z] at h2; exact Or.inr h2
      · exact Or.inl ⟨i, by omega, h2⟩
theorem anyB_cg {p q : Nat → Bool} : ∀ n, (∀ i, i < n → p i = q i) → anyB p n = anyB q n
  | 0, _ => rfl
  | n + 1, h => by
    unfold anyB
    rw [anyB_cg n (fun i hi => h i (by omega)), h n (by omega)]
theorem lp_any (L : Nat → Int32 → Option Int32) (B : Nat) (c : Nat → Bool) (h1 : ∀ f i, i < B → c i = false → L (f + 1) (nI i) = L f (nI (i + 1))) (h2 : ∀ f i, i < B → c i = true → L (f + 1) (nI i) = some 1) (h3 : ∀ f, L (f + 1) (nI B) = some 0) (f : Nat) (hf : B < f) : L f (nI 0) = some (b2 (anyB c B)) := by
  rcases lp_ex L B (fun i => c i = true) (fun _ => some 1) (some 0) (fun i => by cases c i <;> simp) (fun f i hi q => h1 f i hi (by simpa using q)) h2 h3 B 0 (by omega) f hf with ⟨j, -, g2, g3, -, g5⟩ | ⟨g1, g2⟩
  · rw [g5, anyB_iff.mpr ⟨j, g2, g3⟩]; rfl
  · have : anyB c B = false := by
      cases e : anyB c B with
      | false => rfl
      | true =>
        obtain ⟨i, i1, i2⟩ := anyB_iff.mp e
        exact absurd i2 (g1 i (by omega) i1)
    rw [g2, this]; rfl
theorem lp_or (L : Nat → Int32 → Int32 → Option Int32) (B : Nat) (c : Nat → Bool) (h1 : ∀ f i b, i < B → L (f + 1) (b2 b) (nI i) = L f (b2 (b || c i)) (nI (i + 1))) (h2 : ∀ f b, L (f + 1) (b2 b) (nI B) = some (b2 b)) (f : Nat) (hf : B < f) : L f 0 (nI 0) = some (b2 (anyB c B)) := by
  have key : ∀ d i b, i + d = B → ∀ f, d < f → L f (b2 b) (nI i) = some (b2 (b || (List.range d).any (fun u => c (i + u)))) := by
    intro d
    induction d with
    | zero =>
      intro i b h f hf
      obtain ⟨f, rfl⟩ : ∃ k, f = k + 1 := ⟨f - 1, by omega⟩
      have e : i = B := by omega
      rw [e, h2]; simp
    | succ d ih =>
      intro i b h f hf
      obtain ⟨f, rfl⟩ : ∃ k, f = k + 1 := ⟨f - 1, by omega⟩
      rw [h1 f i b (by omega), ih (i + 1) _ (by omega) f (by omega), List.range_succ_eq_map]
      simp [List.any_map, Function.comp_def, Bool.or_assoc, Nat.add_assoc, Nat.add_comm 1]
  have e := key B 0 false (by omega) f hf
  rw [b2_f] at e
  rw [e]
  congr 2
  rw [Bool.eq_iff_iff, anyB_iff]
  simp
