/-! the row of the reference, the class's cells, and what holds of them -/
def TX (r : Nat → Int32) (t f : Nat) : Int32 := r (25 + 21 * t + f)
def CK (r : Nat → Int32) (s f : Nat) : Int32 := r (7 + 6 * s + f)
def nB (r : Nat → Int32) : Nat := (r 3).toNatClampNeg
def wr (r : Nat → Int32) (t k : Nat) : Bool := !decide (TX r t (5 + k) = -1)
def rd (r : Nat → Int32) (t k : Nat) : Bool := !decide (TX r t (13 + k) = -1)
def ver (r : Nat → Int32) (t k : Nat) : Bool := decide (TX r t 1 = 2) && wr r t k
def cv (r : Nat → Int32) (k : Nat) : Nat := cnt (fun t => ver r t k) (nB r)
def ckok (r : Nat → Int32) (s : Nat) : Prop := -(500 + (CK r s 1).toInt) ≤ (CK r s 0).toInt ∧ (CK r s 0).toInt ≤ 500 + (CK r s 1).toInt ∧ 0 ≤ (CK r s 1).toInt ∧ (CK r s 1).toInt ≤ (r 0).toInt ∧ -100 ≤ (CK r s 2).toInt ∧ (CK r s 2).toInt ≤ 100 ∧ 0 ≤ (CK r s 3).toInt ∧ (CK r s 3).toInt ≤ 500 ∧ 0 ≤ (CK r s 4).toInt ∧ (CK r s 4).toInt ≤ 100 ∧ 0 ≤ (CK r s 5).toInt ∧ (CK r s 5).toInt ≤ (r 0).toInt
def txok (bd : Int) (r : Nat → Int32) (t : Nat) : Prop := (∃ s, s < 3 ∧ TX r t 0 = nI s) ∧ (TX r t 1 = 0 ∨ TX r t 1 = 1 ∨ TX r t 1 = 2 ∨ TX r t 1 = 3) ∧ ((TX r t 1 = 1 ∨ TX r t 1 = 2) → 1 ≤ (TX r t 2).toInt ∧ (TX r t 2).toInt ≤ bd) ∧ ((TX r t 1 = 0 ∨ TX r t 1 = 3) → TX r t 2 = -1 ∧ TX r t 3 = -1) ∧ (TX r t 1 ≠ 2 → TX r t 4 = -1) ∧ ∀ k, k < 8 → (TX r t (5 + k) = -1 ∨ 0 ≤ (TX r t (5 + k)).toInt) ∧ (TX r t (13 + k) = -1 ∨ 0 ≤ (TX r t (13 + k)).toInt)
def lkok (r : Nat → Int32) : Prop := ∀ t, t < nB r → TX r t 1 = 1 → ∀ k, k < 8 → wr r t k = true → ∀ u, u < nB r → (TX r u 1 = 1 → wr r u k = true → u = t) ∧ (ver r u k = true → (TX r u 2).toInt < (TX r t 2).toInt)
def Inv (bd : Int) (r : Nat → Int32) : Prop := (r 3 = nI (nB r) ∧ nB r ≤ 40) ∧ (0 ≤ (r 0).toInt ∧ (r 0).toInt ≤ 1000000) ∧ (0 ≤ (r 1).toInt ∧ (r 1).toInt ≤ bd) ∧ (∀ s, s < 3 → 0 ≤ (r (4 + s)).toInt ∧ (r (4 + s)).toInt ≤ bd) ∧ (∀ s, s < 3 → ckok r s) ∧ (∀ t, t < nB r → txok bd r t) ∧ lkok r ∧ bd ≤ 4000000
def ClA (g : Mem) (K : Nat) (r : Nat → Int32) : Prop := g K 0 = r 0 ∧ g K 1 = r 1 ∧ g K 2 = r 2 ∧ (∀ s, s < 3 → ∀ f, f < 6 → g (K + 2 + s) f = CK r s f) ∧ (∀ s, s < 3 → g (K + 2 + s) 6 = r (4 + s))
def ClB (g : Mem) (K : Nat) (r : Nat → Int32) : Prop := g (K + 9) 0 = r 3 ∧ (∀ t, t < nB r → g (K + 10) t = TX r t 0 ∧ g (K + 11) t = TX r t 1 ∧ g (K + 12) t = TX r t 2 ∧ g (K + 13) t = TX r t 3 ∧ g (K + 14) t = TX r t 4 ∧ ∀ k, k < 8 → g (K + 15) (t * 8 + k) = TX r t (5 + k))
def ClV (g : Mem) (K : Nat) (r : Nat → Int32) (k : Nat) : Prop := g (K + 6) k = nI (cv r k + 1) ∧ g (K + 7) (k * 41) = 0 ∧ g (K + 8) (k * 41) = 0 ∧ (∀ i, 1 ≤ i → i ≤ cv r k → ∃ t, t < nB r ∧ ver r t k = true ∧ g (K + 7) (k * 41 + i) = TX r t 2 ∧ g (K + 8) (k * 41 + i) = TX r t (5 + k)) ∧ (∀ t, t < nB r → ver r t k = true → ∃ i, 1 ≤ i ∧ i ≤ cv r k ∧ g (K + 7) (k * 41 + i) = TX r t 2 ∧ g (K + 8) (k * 41 + i) = TX r t (5 + k)) ∧ (∀ i j, i < j → j ≤ cv r k → (g (K + 7) (k * 41 + i)).toInt < (g (K + 7) (k * 41 + j)).toInt) ∧ (∀ i, 1 ≤ i → i ≤ cv r k → cnt (fun u => ver r u k && decide (TX r u 2 < g (K + 7) (k * 41 + i))) (nB r) + 1 = i)
def ClR (g : Mem) (K : Nat) (r : Nat → Int32) : Prop := ∀ t, t < nB r → ∀ k, k < 8 → (g (K + 16) (t * 8 + k) = -1 ∧ TX r t (13 + k) = -1) ∨ ∃ i, i ≤ cv r k ∧ g (K + 16) (t * 8 + k) = nI i ∧ TX r t (13 + k) = g (K + 7) (k * 41 + i)
def Cls (g : Mem) (K : Nat) (r : Nat → Int32) : Prop := ClA g K r ∧ ClB g K r ∧ (∀ k, k < 8 → ClV g K r k) ∧ ClR g K r
theorem nI_sml {b : Nat} (h : b ≤ 40) : (nI b).toInt = (b : Int) := nI_toInt (by omega)
theorem wr_iff {r : Nat → Int32} {t k : Nat} : wr r t k = true ↔ ¬ TX r t (5 + k) = -1 := by unfold wr; simp
theorem rd_iff {r : Nat → Int32} {t k : Nat} : rd r t k = true ↔ ¬ TX r t (13 + k) = -1 := by unfold rd; simp
theorem ver_iff {r : Nat → Int32} {t k : Nat} : ver r t k = true ↔ TX r t 1 = 2 ∧ wr r t k = true := by unfold ver; simp
section PI
variable {bd : Int} {r : Nat → Int32} {g : Mem} {n t k s : Nat}
theorem Inv.r3 (h : Inv bd r) : r 3 = nI (nB r) := h.1.1
theorem Inv.b40 (h : Inv bd r) : nB r ≤ 40 := h.1.2
theorem Inv.tm (h : Inv bd r) : 0 ≤ (r 0).toInt ∧ (r 0).toInt ≤ 1000000 := h.2.1
theorem Inv.fl (h : Inv bd r) : 0 ≤ (r 1).toInt ∧ (r 1).toInt ≤ bd := h.2.2.1
theorem Inv.asg (h : Inv bd r) (hs : s < 3) : 0 ≤ (r (4 + s)).toInt ∧ (r (4 + s)).toInt ≤ bd := h.2.2.2.1 s hs
theorem Inv.ck (h : Inv bd r) (hs : s < 3) : ckok r s := h.2.2.2.2.1 s hs
theorem Inv.tx (h : Inv bd r) (ht : t < nB r) : txok bd r t := h.2.2.2.2.2.1 t ht
theorem Inv.lk (h : Inv bd r) : lkok r := h.2.2.2.2.2.2.1
theorem Inv.bdl (h : Inv bd r) : bd ≤ 4000000 := h.2.2.2.2.2.2.2
theorem wr_neg (h : Inv bd r) (ht : t < nB r) (hk : k < 8) : (if TX r t (5 + k) < 0 then some (0 : Int32) else some 1) = some (b2 (wr r t k)) := by
  rcases ((h.tx ht).2.2.2.2.2 k hk).1 with q | q
  · rw [q]; unfold wr; rw [q]; decide
  · have e : ¬ TX r t (5 + k) = -1 := fun z => by rw [z] at q; revert q; decide
    rw [if_neg (by rw [i_lt]; exact Int.not_lt.mpr q)]
    unfold wr; simp [e, b2]
theorem rd_neg (h : Inv bd r) (ht : t < nB r) (hk : k < 8) : (if TX r t (13 + k) < 0 then some (0 : Int32) else some 1) = some (b2 (rd r t k)) := by
  rcases ((h.tx ht).2.2.2.2.2 k hk).2 with q | q
  · rw [q]; unfold rd; rw [q]; decide
  · have e : ¬ TX r t (13 + k) = -1 := fun z => by rw [z] at q; revert q; decide
    rw [if_neg (by rw [i_lt]; exact Int.not_lt.mpr q)]
    unfold rd; simp [e, b2]
/-! the reference's words -/
theorem r_ofx {x y : Int32} (t f : Nat) (hx : x = nI t) (hy : y = nI f) (ht : t < 40) (hf : f < 21) : sX7_of g x y = some (TX (g 1) t f) := by
  unfold sX7_of TX
  have e : ((25 : Int32) + ((21 : Int32) * x)) + y = nI (25 + 21 * t + f) := by
    rw [hx, hy]
    show nI 25 + nI 21 * nI t + nI f = _
    rw [pk_mul, nI_add, nI_add]
  rw [e, ix_n (by omega) (by omega), nI_clamp (by omega)]
theorem r_of0 (ht : t < 40) : sX7_of g (nI t) (0 : Int32) = some (TX (g 1) t 0) := r_ofx t 0 rfl rfl ht (by decide)
theorem r_of1 (ht : t < 40) : sX7_of g (nI t) (1 : Int32) = some (TX (g 1) t 1) := r_ofx t 1 rfl rfl ht (by decide)
theorem r_of2 (ht : t < 40) : sX7_of g (nI t) (2 : Int32) = some (TX (g 1) t 2) := r_ofx t 2 rfl rfl ht (by decide)
theorem r_of3 (ht : t < 40) : sX7_of g (nI t) (3 : Int32) = some (TX (g 1) t 3) := r_ofx t 3 rfl rfl ht (by decide)
theorem r_of4 (ht : t < 40) : sX7_of g (nI t) (4 : Int32) = some (TX (g 1) t 4) := r_ofx t 4 rfl rfl ht (by decide)
theorem r_of5 (ht : t < 40) (hk : k < 8) : sX7_of g (nI t) ((5 : Int32) + nI k) = some (TX (g 1) t (5 + k)) := r_ofx t (5 + k) rfl (nI_add 5 k) ht (by omega)
theorem r_of13 (ht : t < 40) (hk : k < 8) : sX7_of g (nI t) ((13 : Int32) + nI k) = some (TX (g 1) t (13 + k)) := r_ofx t (13 + k) rfl (nI_add 13 k) ht (by omega)
theorem r_wr (h : Inv bd (g 1)) (ht : t < nB (g 1)) (hk : k < 8) : sX7_hasWritten g (nI t) (nI k) = some (b2 (wr (g 1) t k)) := by
  have := h.b40
  unfold sX7_hasWritten
  rw [r_of5 (by omega) hk, bi_s, wr_neg h ht hk]
theorem r_rd (h : Inv bd (g 1)) (ht : t < nB (g 1)) (hk : k < 8) : sX7_hasRead g (nI t) (nI k) = some (b2 (rd (g 1) t k)) := by
  have := h.b40
  unfold sX7_hasRead
  rw [r_of13 (by omega) hk, bi_s, rd_neg h ht hk]
theorem r_ver (h : Inv bd (g 1)) (ht : t < nB (g 1)) (hk : k < 8) : sX7_isVersion g (nI t) (nI k) = some (b2 (ver (g 1) t k)) := by
  have := h.b40
  unfold sX7_isVersion ver
  rw [r_of1 (by omega), bi_s]
  by_cases e : TX (g 1) t 1 = 2
  · rw [if_pos e, r_wr h ht hk, bi_s]
    cases wr (g 1) t k <;> simp [e, b2]
  · rw [if_neg e]
    simp [e, b2]
theorem r_i (j : Nat) {α : Type} {i : Int32} {f : Nat → Option α} (hi : i = nI j) (hj : j < 865) : sIdx i 865 f = f j := ix_l j hi hj (by decide)
theorem r_i0 {α : Type} {f : Nat → Option α} : sIdx (0 : Int32) 865 f = f 0 := r_i 0 rfl (by decide)
theorem r_i1 {α : Type} {f : Nat → Option α} : sIdx (1 : Int32) 865 f = f 1 := r_i 1 rfl (by decide)
theorem r_i2 {α : Type} {f : Nat → Option α} : sIdx (2 : Int32) 865 f = f 2 := r_i 2 rfl (by decide)
theorem r_i3 {α : Type} {f : Nat → Option α} : sIdx (3 : Int32) 865 f = f 3 := r_i 3 rfl (by decide)
theorem c_0 : (0 : Int32).toNatClampNeg = 0 := rfl
theorem c_1 : (1 : Int32).toNatClampNeg = 1 := rfl
theorem c_2 : (2 : Int32).toNatClampNeg = 2 := rfl
theorem c_3 : (3 : Int32).toNatClampNeg = 3 := rfl
theorem r_gt {x y : Int32} : sX7_greater g x y = some (sMax x y) := by
  unfold sX7_greater sMax
  by_cases e : x ≤ y
  · rw [if_pos e]
    by_cases q : x < y
    · rw [if_pos q]
    · rw [if_neg q]
      rw [i_le] at e
      rw [i_lt] at q
      exact congrArg some (i_eq.mpr (by omega))
  · rw [if_neg e, if_neg (by rw [i_lt]; rw [i_le] at e; omega)]
theorem r_in {x a b : Int32} : sX7_in g x a b = some (b2 (decide (a.toInt ≤ x.toInt ∧ x.toInt ≤ b.toInt))) := by
  unfold sX7_in
  simp only [i_lt]
  by_cases e : x.toInt < a.toInt
  · rw [if_pos e, decide_eq_false (by omega)]; rfl
  · rw [if_neg e]
    by_cases q : b.toInt < x.toInt
    · rw [if_pos q, decide_eq_false (by omega)]; rfl
    · rw [if_neg q, decide_eq_true (by omega)]; rfl
/-! the class's words, of the state in the first place -/
theorem k_wr {r : Nat → Int32} (h : Inv bd r) (hC : Cls g 0 r) (ht : t < nB r) (hk : k < 8) : sX4_hasWritten g 9 (nI t) (nI k) = some (b2 (wr r t k)) := by
  have := h.b40
  have e : (nI t * (8 : Int32)) + nI k = nI (t * 8 + k) := by
    show nI t * nI 8 + nI k = _
    rw [pk_mul, nI_add]
  unfold sX4_hasWritten
  rw [e, ix_n (by omega) (by omega), nI_clamp (by omega)]
  have e2 : g (9 + 6) (t * 8 + k) = TX r t (5 + k) := ((hC.2.1.2 t ht).2.2.2.2.2 k hk)
  rw [e2]
  unfold wr
  rw [ite_b2']
theorem k_bf {r : Nat → Int32} (h : Inv bd r) (hC : Cls g 0 r) (ht : t < nB r) (hk : k < 8) : sX4_bufferOf g 9 (nI t) (nI k) = some (TX r t (5 + k)) := by
  have := h.b40
  have e : (nI t * (8 : Int32)) + nI k = nI (t * 8 + k) := by
    show nI t * nI 8 + nI k = _
    rw [pk_mul, nI_add]
  unfold sX4_bufferOf
  rw [e, ix_n (by omega) (by omega), nI_clamp (by omega)]
  exact congrArg some ((hC.2.1.2 t ht).2.2.2.2.2 k hk)
theorem k_rc {r : Nat → Int32} (h : Inv bd r) (ht : t < nB r) (hk : k < 8) : sX4_recordedVersion g 9 (nI t) (nI k) = some (g 16 (t * 8 + k)) := by
  have := h.b40
  have e : (nI t * (8 : Int32)) + nI k = nI (t * 8 + k) := by
    show nI t * nI 8 + nI k = _
    rw [pk_mul, nI_add]
  unfold sX4_recordedVersion
  rw [e, ix_n (by omega) (by omega), nI_clamp (by omega)]
theorem nI_nm1 {i : Nat} (h : i < 2147483648) : ¬ nI i = -1 := fun z => by
  have e := nI_toInt (n := i) (by omega)
  rw [z] at e
  have : ((-1 : Int32)).toInt = -1 := by decide
  omega
theorem cv_le (h : Inv bd r) : cv r k ≤ 40 := Nat.le_trans (cnt_le _ _) h.b40
/-- timestamps of versions are not below 0 -/
theorem vt_nn (hC : ClV g 0 r k) {i : Nat} (hi : i ≤ cv r k) : 0 ≤ (g 7 (k * 41 + i)).toInt := by
  obtain ⟨-, h2, -, -, -, h6, -⟩ := hC
  have e0 : (g 7 (k * 41)).toInt = 0 := by
    rw [show g 7 (k * 41) = 0 from h2]; rfl
  by_cases z : i = 0
  · rw [z, Nat.add_zero, e0]
    exact Int.le_refl 0
  · have q : (g 7 (k * 41)).toInt < (g 7 (k * 41 + i)).toInt := h6 0 i (by omega) hi
    omega
theorem k_rd {r : Nat → Int32} (h : Inv bd r) (hC : Cls g 0 r) (ht : t < nB r) (hk : k < 8) : sX4_hasRead g 9 (nI t) (nI k) = some (b2 (rd r t k)) := by
  have := h.b40
  have e : (nI t * (8 : Int32)) + nI k = nI (t * 8 + k) := by
    show nI t * nI 8 + nI k = _
    rw [pk_mul, nI_add]
  unfold sX4_hasRead
  rw [e, ix_n (by omega) (by omega), nI_clamp (by omega)]
  have hR := hC.2.2.2 t ht k hk
  rw [Nat.zero_add] at hR
  rcases hR with ⟨e1, e2⟩ | ⟨i, i1, i2, i3⟩
  · show (if g 16 (t * 8 + k) = -1 then some (0 : Int32) else some 1) = _
    rw [e1]; unfold rd; rw [e2]; decide
  · show (if g 16 (t * 8 + k) = -1 then some (0 : Int32) else some 1) = _
    have h40 := cv_le (k := k) h
    have h3 := vt_nn (hC.2.2.1 k hk) i1
    have h4 : ¬ TX r t (13 + k) = -1 := fun z => by
      rw [i3] at z
      rw [Nat.zero_add] at z
      rw [z] at h3
      revert h3; decide
    rw [i2, if_neg (nI_nm1 (by omega))]
    unfold rd
    simp [h4, b2]
theorem k_tc {r : Nat → Int32} (h : Inv bd r) (hC : Cls g 0 r) (ht : t < nB r) (hk : k < 8) : sX4_hasTouched g 9 (nI t) (nI k) = some (b2 (rd r t k || wr r t k)) := by
  unfold sX4_hasTouched
  rw [k_rd h hC ht hk, bi_s, b2_ite]
  cases rd r t k with
  | true => rfl
  | false =>
    rw [if_neg (by decide), k_wr h hC ht hk, bi_s, b2_ite]
    cases wr r t k <;> rfl
theorem k_b (hC : Cls g 0 r) (h : Inv bd r) : g 9 0 = nI (nB r) := hC.2.1.1.trans h.r3
theorem k_f0 (hC : Cls g 0 r) (ht : t < nB r) : g 10 t = TX r t 0 := (hC.2.1.2 t ht).1
theorem k_f1 (hC : Cls g 0 r) (ht : t < nB r) : g 11 t = TX r t 1 := (hC.2.1.2 t ht).2.1
theorem k_f2 (hC : Cls g 0 r) (ht : t < nB r) : g 12 t = TX r t 2 := (hC.2.1.2 t ht).2.2.1
theorem k_f3 (hC : Cls g 0 r) (ht : t < nB r) : g 13 t = TX r t 3 := (hC.2.1.2 t ht).2.2.2.1
theorem k_f4 (hC : Cls g 0 r) (ht : t < nB r) : g 14 t = TX r t 4 := (hC.2.1.2 t ht).2.2.2.2.1
theorem k_t0 (hC : Cls g 0 r) : g 0 0 = r 0 := hC.1.1
theorem k_t1 (hC : Cls g 0 r) : g 0 1 = r 1 := hC.1.2.1
theorem k_t2 (hC : Cls g 0 r) : g 0 2 = r 2 := hC.1.2.2.1
theorem k_ck (hC : Cls g 0 r) (hs : s < 3) {f : Nat} (hf : f < 6) : g (2 + s) f = CK r s f := by
  have := hC.1.2.2.2.1 s hs f hf
  rwa [Nat.zero_add] at this
theorem k_as (hC : Cls g 0 r) (hs : s < 3) : g (2 + s) 6 = r (4 + s) := by
  have := hC.1.2.2.2.2 s hs
  rwa [Nat.zero_add] at this
end PI
