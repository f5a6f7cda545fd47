/-! the pure part: what holds of both memories -/
def bdj (j : Nat) : Int := 3200000 + 100 * j
def pst (m : Mem) (i : Nat) : Nat → Int32 := fun k => m 2 (865 * i + k)
def slt (m : Mem) (s : Nat) : Nat → Int32 := fun k => m 3 (865 * s + k)
def SvR (bd : Int) (g m : Mem) : Prop := ∃ c p : Nat, c ≤ 6 ∧ p < 6 ∧ m 0 2 = nI c ∧ g 153 0 = nI c ∧ g 153 1 = nI p ∧ ∀ i, i < c → Cls g (17 * ((p + 6 - c + i) % 6 + 1)) (pst m i) ∧ Inv bd (pst m i)
def SlR (bd : Int) (g m : Mem) : Prop := ∀ s, s < 2 → (g 156 s = 0 ∧ m 4 s = 0) ∨ (g 156 s = 1 ∧ m 4 s = 1 ∧ Cls g (17 * (s + 7)) (slt m s) ∧ Inv bd (slt m s))
def TxR (g m : Mem) (L : Nat) : Prop := L ≤ 80 ∧ g 157 0 = nI L ∧ m 0 6 = nI L ∧ ∀ i, i < L → g 159 i = m 5 i ∧ 32 ≤ (m 5 i).toInt ∧ (m 5 i).toInt ≤ 126
def RelB (bd : Int) (g m : Mem) : Prop := Cls g 0 (m 1) ∧ Inv bd (m 1) ∧ SvR bd g m ∧ SlR bd g m ∧ ∃ L, TxR g m L
def Rel (j : Nat) (g m : Mem) : Prop := RelB (bdj j) g m ∧ j ≤ 513
theorem i10 : ((1 : Int32) = 0) ↔ False := by decide
theorem i00 : ((0 : Int32) = 0) ↔ True := by decide
theorem i20 : ((2 : Int32) = 0) ↔ False := by decide
theorem i30 : ((3 : Int32) = 0) ↔ False := by decide
theorem th_0 {m : Mem} : sX7_throwsAt m 0 = some (0, mput m 0 7 0) := rfl
theorem th_1 {m : Mem} : sX7_throwsAt m 1 = some (1, mput m 0 7 1) := rfl
theorem th_2 {m : Mem} : sX7_throwsAt m 2 = some (1, mput m 0 7 2) := rfl
theorem th_3 {m : Mem} : sX7_throwsAt m 3 = some (1, mput m 0 7 3) := rfl
theorem th_q {m : Mem} {v : Int32} : mput m 0 7 v 0 7 = v := by simp [mput]
theorem mp_ne {m : Mem} {k a j : Nat} {v : Int32} (h : a ≠ k) : mput m k j v a = m a := mput_ne h
theorem mp_at {m : Mem} {k j b : Nat} {v : Int32} (h : b ≠ j) : mput m k j v k b = m k b := by simp [mput, h]
theorem th_m {m : Mem} {v : Int32} {a : Nat} (h : a ≠ 0) : mput m 0 7 v a = m a := mput_ne h
theorem th_n {m : Mem} {v : Int32} {b : Nat} (h : b ≠ 7) : mput m 0 7 v 0 b = m 0 b := mp_at h
theorem txok_mono {bd bd' : Int} {r : Nat → Int32} {t : Nat} (hb : bd ≤ bd') (h : txok bd r t) : txok bd' r t := by
  obtain ⟨h1, h2, h3, h4, h5, h6⟩ := h
  exact ⟨h1, h2, fun z => ⟨(h3 z).1, Int.le_trans (h3 z).2 hb⟩, h4, h5, h6⟩
theorem Inv.mono {bd bd' : Int} {r : Nat → Int32} (h : Inv bd r) (hb : bd ≤ bd') (hh : bd' ≤ 4000000) : Inv bd' r := by
  obtain ⟨h1, h2, h3, h4, h5, h6, h7, h8⟩ := h
  exact ⟨h1, h2, ⟨h3.1, Int.le_trans h3.2 hb⟩, fun s hs => ⟨(h4 s hs).1, Int.le_trans (h4 s hs).2 hb⟩, h5, fun t ht => txok_mono hb (h6 t ht), h7, hh⟩
theorem SvR.mono {bd bd' : Int} {g m : Mem} (h : SvR bd g m) (hb : bd ≤ bd') (hh : bd' ≤ 4000000) : SvR bd' g m := by
  obtain ⟨c, p, h1, h2, h3, h4, h5, h6⟩ := h
  exact ⟨c, p, h1, h2, h3, h4, h5, fun i hi => ⟨(h6 i hi).1, (h6 i hi).2.mono hb hh⟩⟩
theorem SlR.mono {bd bd' : Int} {g m : Mem} (h : SlR bd g m) (hb : bd ≤ bd') (hh : bd' ≤ 4000000) : SlR bd' g m := by
  intro s hs
  rcases h s hs with z | ⟨z1, z2, z3, z4⟩
  · exact Or.inl z
  · exact Or.inr ⟨z1, z2, z3, z4.mono hb hh⟩
theorem RelB.mono {bd bd' : Int} {g m : Mem} (h : RelB bd g m) (hb : bd ≤ bd') (hh : bd' ≤ 4000000) : RelB bd' g m := ⟨h.1, h.2.1.mono hb hh, h.2.2.1.mono hb hh, h.2.2.2.1.mono hb hh, h.2.2.2.2⟩
theorem bdj_le {j : Nat} (h : j ≤ 513) : bdj j ≤ 4000000 := by unfold bdj; omega
theorem bdj_s {j : Nat} : bdj j ≤ bdj (j + 1) := by unfold bdj; omega
theorem SvR.cg {bd : Int} {g m m' : Mem} (h : SvR bd g m) (e1 : m' 0 2 = m 0 2) (e2 : m' 2 = m 2) : SvR bd g m' := by
  obtain ⟨c, p, h1, h2, h3, h4, h5, h6⟩ := h
  refine ⟨c, p, h1, h2, e1.trans h3, h4, h5, fun i hi => ?_⟩
  have e : pst m' i = pst m i := by unfold pst; rw [e2]
  rw [e]
  exact h6 i hi
theorem SlR.cg {bd : Int} {g m m' : Mem} (h : SlR bd g m) (e1 : m' 4 = m 4) (e2 : m' 3 = m 3) : SlR bd g m' := by
  intro s hs
  have e : slt m' s = slt m s := by unfold slt; rw [e2]
  rw [e, e1]
  exact h s hs
theorem TxR.cg {g m m' : Mem} {L : Nat} (h : TxR g m L) (e1 : m' 0 6 = m 0 6) (e2 : m' 5 = m 5) : TxR g m' L := by
  obtain ⟨h1, h2, h3, h4⟩ := h
  exact ⟨h1, h2, e1.trans h3, by rw [e2]; exact h4⟩
theorem RelB.thr {bd : Int} {g m : Mem} {v : Int32} (h : RelB bd g m) : RelB bd g (mput m 0 7 v) := by
  obtain ⟨h1, h2, h3, h4, L, h5⟩ := h
  refine ⟨by rw [th_m (by decide)]; exact h1, by rw [th_m (by decide)]; exact h2, h3.cg (th_n (by decide)) (th_m (by decide)), h4.cg (th_m (by decide)) (th_m (by decide)), L, h5.cg (th_n (by decide)) (th_m (by decide))⟩
theorem Rel.up {j : Nat} {g m : Mem} (h : Rel j g m) (hj : j ≤ 512) : Rel (j + 1) g m := ⟨h.1.mono bdj_s (bdj_le (by omega)), by omega⟩
theorem Rel.thr {j : Nat} {g m : Mem} {v : Int32} (h : Rel j g m) : Rel j g (mput m 0 7 v) := ⟨h.1.thr, h.2⟩
theorem Rel.mono {j : Nat} {g m : Mem} (h : Rel j g m) (hj : j ≤ 512) (v : Int32) : Rel (j + 1) g (mput m 0 7 v) := (h.up hj).thr
/-! tests of arguments -/
theorem i3 : ((3 : Int32)).toInt = 3 := by decide
theorem i8 : ((8 : Int32)).toInt = 8 := by decide
theorem ofN {x : Int32} {n : Nat} (h0 : 0 ≤ x.toInt) (h : x.toInt < n) : ∃ s, s < n ∧ x = nI s := by
  have hh := i_hi x
  refine ⟨x.toInt.toNat, by omega, ?_⟩
  rw [i_eq, nI_toInt (by omega)]
  omega
section RQ
variable {bd : Int} {g m : Mem} {r : Nat → Int32} {n t k s : Nat} (x : Int32)
theorem srv_c (g m : Mem) : (∃ s, s < 3 ∧ x = nI s ∧ sX6_requireServer g x = some 0 ∧ sX7_isServer m x = some 1) ∨ (sX6_requireServer g x = some 1 ∧ sX7_isServer m x = some 0) := by
  unfold sX6_requireServer sX7_isServer
  rw [r_in, bi_s, l_0, show ((2 : Int32)).toInt = 2 by decide]
  simp only [i_lt, l_0, i3]
  by_cases h0 : x.toInt < 0
  · right
    rw [if_pos h0, decide_eq_false (by omega)]
    exact ⟨rfl, rfl⟩
  · by_cases h1 : x.toInt < 3
    · left
      obtain ⟨s, s1, s2⟩ := ofN (x := x) (n := 3) (by omega) h1
      rw [if_neg h0, if_pos h1, decide_eq_true (by omega)]
      exact ⟨s, s1, s2, rfl, rfl⟩
    · right
      rw [if_neg h0, if_neg h1, decide_eq_false (by omega)]
      exact ⟨rfl, rfl⟩
theorem key_c (g m : Mem) : (∃ k, k < 8 ∧ x = nI k ∧ sX6_requireKey g x = some 0 ∧ sX7_isKey m x = some 1) ∨ (sX6_requireKey g x = some 1 ∧ sX7_isKey m x = some 0) := by
  unfold sX6_requireKey sX7_isKey
  rw [r_in, bi_s, l_0, show ((7 : Int32)).toInt = 7 by decide]
  simp only [i_lt, l_0, i8]
  by_cases h0 : x.toInt < 0
  · right
    rw [if_pos h0, decide_eq_false (by omega)]
    exact ⟨rfl, rfl⟩
  · by_cases h1 : x.toInt < 8
    · left
      obtain ⟨s, s1, s2⟩ := ofN (x := x) (n := 8) (by omega) h1
      rw [if_neg h0, if_pos h1, decide_eq_true (by omega)]
      exact ⟨s, s1, s2, rfl, rfl⟩
    · right
      rw [if_neg h0, if_neg h1, decide_eq_false (by omega)]
      exact ⟨rfl, rfl⟩
theorem slot_c (g m : Mem) : (∃ k, k < 2 ∧ x = nI k ∧ sX6_requireSlot g x = some 0 ∧ sX7_in m x 0 1 = some 1) ∨ (sX6_requireSlot g x = some 1 ∧ sX7_in m x 0 1 = some 0) := by
  unfold sX6_requireSlot
  rw [r_in, l_0, l_1]
  simp only [i_lt, l_0, show ((2 : Int32)).toInt = 2 by decide]
  by_cases h0 : x.toInt < 0
  · right
    rw [if_pos h0, decide_eq_false (by omega)]
    exact ⟨rfl, rfl⟩
  · by_cases h1 : x.toInt < 2
    · left
      obtain ⟨s, s1, s2⟩ := ofN (x := x) (n := 2) (by omega) h1
      rw [if_neg h0, if_pos h1, decide_eq_true (by omega)]
      exact ⟨s, s1, s2, rfl, rfl⟩
    · right
      rw [if_neg h0, if_neg h1, decide_eq_false (by omega)]
      exact ⟨rfl, rfl⟩
theorem rng_c (g m : Mem) (a b : Int32) : (a.toInt ≤ x.toInt ∧ x.toInt ≤ b.toInt ∧ sX6_requireRange g x a b = some 0 ∧ sX7_in m x a b = some 1) ∨ (¬ (a.toInt ≤ x.toInt ∧ x.toInt ≤ b.toInt) ∧ sX6_requireRange g x a b = some 2 ∧ sX7_in m x a b = some 0) := by
  unfold sX6_requireRange
  rw [r_in]
  simp only [i_lt, i_le]
  by_cases h0 : x.toInt < a.toInt
  · right
    rw [if_pos h0, decide_eq_false (by omega)]
    exact ⟨by omega, rfl, rfl⟩
  · by_cases h1 : x.toInt ≤ b.toInt
    · left
      rw [if_neg h0, if_pos h1, decide_eq_true (by omega)]
      exact ⟨by omega, h1, rfl, rfl⟩
    · right
      rw [if_neg h0, if_neg h1, decide_eq_false (by omega)]
      exact ⟨by omega, rfl, rfl⟩
theorem nn_c (g : Mem) : (0 ≤ x.toInt ∧ (0 ≤ x ↔ True) ∧ sX6_requireNotNegative g x = some 0) ∨ ((0 ≤ x ↔ False) ∧ sX6_requireNotNegative g x = some 2) := by
  unfold sX6_requireNotNegative
  simp only [i_le, l_0]
  by_cases h0 : 0 ≤ x.toInt
  · left
    rw [if_pos h0]
    exact ⟨h0, ⟨fun _ => trivial, fun _ => h0⟩, rfl⟩
  · right
    rw [if_neg h0]
    exact ⟨⟨fun z => h0 z, False.elim⟩, rfl⟩
theorem tr_c (h : Inv bd (m 1)) (hC : Cls g 0 (m 1)) : (∃ t, t < nB (m 1) ∧ x = nI t ∧ sX6_requireTransaction g x = some 0 ∧ sX7_isTransaction m x = some 1) ∨ (sX6_requireTransaction g x = some 1 ∧ sX7_isTransaction m x = some 0) := by
  have hb := h.b40
  unfold sX6_requireTransaction sX7_isTransaction
  have e3 := nI_toInt (n := nB (m 1)) (by omega)
  have e4 : (nI (nB (m 1)) - 1).toInt = (nB (m 1) : Int) - 1 := by rw [i_sub (by rw [e3, l_1]; omega) (by rw [e3, l_1]; omega), e3, l_1]
  rw [r_i3, c_3, r_in, bi_s, l_0, h.r3, e4]
  simp only [i_lt, l_0, Nat.zero_add, k_b hC h, e3]
  by_cases h0 : x.toInt < 0
  · right
    rw [if_pos h0, decide_eq_false (by omega)]
    exact ⟨rfl, rfl⟩
  · by_cases h1 : x.toInt < nB (m 1)
    · left
      obtain ⟨s, s1, s2⟩ := ofN (x := x) (n := nB (m 1)) (by omega) h1
      rw [if_neg h0, if_pos h1, decide_eq_true (by omega)]
      exact ⟨s, s1, s2, rfl, rfl⟩
    · right
      rw [if_neg h0, if_neg h1, decide_eq_false (by omega)]
      exact ⟨rfl, rfl⟩
theorem k_open (h : Inv bd r) (hC : Cls g 0 r) (ht : t < nB r) : sX4_isOpen g 9 (nI t) = some (b2 (decide (TX r t 1 = 0))) := by
  have hb := h.b40
  have hle : ¬ nI (nB r) ≤ nI t := nI_ge ht (by omega)
  have hp : ¬ nI t < 0 := nI_pos (by omega)
  have hcl : (nI t).toNatClampNeg = t := nI_clamp (by omega)
  simp only [sX4_isOpen, hp, if_false, k_b hC h, hle, ix40 (show t < 40 by omega), hcl, k_f1 hC ht]
  by_cases e : TX r t 1 = 0 <;> simp [e, b2]
end RQ
