/-! the pure part: loops that both sides make alike -/
theorem ix40 {α : Type} {i : Nat} {x : Option α} (h : i < 40) : (sIdx (nI i) 40 fun _ => x) = x := ix_e i rfl h (by decide)
theorem ix8 {α : Type} {i : Nat} {x : Option α} (h : i < 8) : (sIdx (nI i) 8 fun _ => x) = x := ix_e i rfl h (by decide)
theorem ix3 {α : Type} {i : Nat} {x : Option α} (h : i < 3) : (sIdx (nI i) 3 fun _ => x) = x := ix_e i rfl h (by decide)
def mkS (r : Nat → Int32) (k : Nat) : Nat → Int32 → Int32 := fun t s => if TX r t 1 = 2 then (if rd r t k = true then sMax s (TX r t 2) else s) else s
def mk (r : Nat → Int32) (k : Nat) : Int32 := itr (mkS r k) 0 (nB r) 0
def ctS (r : Nat → Int32) (x : Int32) : Nat → Int32 → Int32 := fun t s => if TX r t 1 = x then s + 1 else s
def ct (r : Nat → Int32) (x : Int32) : Int32 := itr (ctS r x) 0 (nB r) 0
def swS (r : Nat → Int32) : Nat → Int32 → Int32 := fun t s => if TX r t 1 = 2 then s + (TX r t 4 - TX r t 3) else s
def sw (r : Nat → Int32) : Int32 := itr (swS r) 0 (nB r) 0
def inv2 (r : Nat → Int32) (a b : Nat) : Bool := decide (TX r a 1 = 2) && (decide (TX r b 1 = 1) || decide (TX r b 1 = 2)) && !decide (TX r b 3 < TX r a 4) && !decide (TX r a 2 < TX r b 2)
def ivS (r : Nat → Int32) (a : Nat) : Nat → Int32 → Int32 := fun b s => if inv2 r a b = true then s + 1 else s
def iv (r : Nat → Int32) : Int32 := itr (fun a s => itr (ivS r a) 0 (nB r) s) 0 (nB r) 0
def wkS (r : Nat → Int32) (t : Nat) : Nat → Int32 → Int32 := fun k s => if wr r t k = true then s + 1 else s
def wk (r : Nat → Int32) (t : Nat) : Int32 := itr (wkS r t) 0 8 0
def lkB (r : Nat → Int32) (w t k : Nat) : Bool := (wr r w k && (rd r t k || wr r t k)) || (rd r w k && wr r t k)
def lkA (r : Nat → Int32) (w t : Nat) : Bool := anyB (lkB r w t) 8
def lkd (r : Nat → Int32) (t : Nat) : Bool := anyB (fun w => decide (TX r w 1 = 1) && lkA r w t) (nB r)
section PQ
variable {bd : Int} {g m : Mem} {r : Nat → Int32} {n t k s : Nat}

theorem k_mark (hn : 10010 ≤ n) (h : Inv bd r) (hC : Cls g 0 r) (hk : k < 8) : sX4_greatestReaderTimestamp n g 9 (nI k) = some (mk r k) := by
  have hb := h.b40
  unfold sX4_greatestReaderTimestamp mk
  refine lp_up (fun f s i => sX4_greatestReaderTimestamp_4 n g f 9 (nI k) s i) (nB r) (mkS r k) (some) (fun f i s hi => ?_) (fun f s => ?_) (nB r) 0 (by omega) n (by omega) 0
  · have hle : ¬ (nI (nB r)) ≤ nI i := nI_ge (b := nB r) hi (by omega)
    have hcl : (nI i).toNatClampNeg = i := nI_clamp (by omega)
    simp only [sX4_greatestReaderTimestamp_4, hle, if_false, hcl, nI_1, bi_s, b2_ite, k_b hC h, ix40 (show i < 40 by omega), k_f1 hC hi, k_f2 hC hi, k_rd h hC hi hk, mkS]
    (repeat' split) <;> first | rfl | simp_all
  · have hle : (nI (nB r)) ≤ nI (nB r) := nI_le (a := nB r) (Nat.le_refl _) (by omega)
    simp only [sX4_greatestReaderTimestamp_4, hle, if_true, k_b hC h]
theorem r_mark (hn : 10010 ≤ n) (h : Inv bd (m 1)) (hk : k < 8) : sX7_mark n m (nI k) = some (mk (m 1) k) := by
  have hb := h.b40
  unfold sX7_mark mk
  refine lp_up (fun f s i => sX7_mark_4 n m f (nI k) s i) (nB (m 1)) (mkS (m 1) k) (some) (fun f i s hi => ?_) (fun f s => ?_) (nB (m 1)) 0 (by omega) n (by omega) 0
  · have hle : ¬ (nI (nB (m 1))) ≤ nI i := nI_ge (b := nB (m 1)) hi (by omega)
    have hcl : (nI i).toNatClampNeg = i := nI_clamp (by omega)
    simp only [sX7_mark_4, hle, if_false, hcl, nI_1, bi_s, b2_ite, r_i3, c_3, h.r3, r_of1 (show i < 40 by omega), r_of2 (show i < 40 by omega), r_rd h hi hk, r_gt, mkS]
    (repeat' split) <;> first | rfl | simp_all
  · have hle : (nI (nB (m 1))) ≤ nI (nB (m 1)) := nI_le (a := nB (m 1)) (Nat.le_refl _) (by omega)
    simp only [sX7_mark_4, hle, if_true, r_i3, c_3, h.r3]
theorem k_ct (hn : 10010 ≤ n) (h : Inv bd r) (hC : Cls g 0 r) (x : Int32) : sX4_countWithStatus n g 9 x = some (ct r x) := by
  have hb := h.b40
  unfold sX4_countWithStatus ct
  refine lp_up (fun f s i => sX4_countWithStatus_4 n g f 9 x s i) (nB r) (ctS r x) (some) (fun f i s hi => ?_) (fun f s => ?_) (nB r) 0 (by omega) n (by omega) 0
  · have hle : ¬ (nI (nB r)) ≤ nI i := nI_ge (b := nB r) hi (by omega)
    have hcl : (nI i).toNatClampNeg = i := nI_clamp (by omega)
    simp only [sX4_countWithStatus_4, hle, if_false, hcl, nI_1, bi_s, b2_ite, k_b hC h, ix40 (show i < 40 by omega), k_f1 hC hi, ctS]
    (repeat' split) <;> first | rfl | simp_all
  · have hle : (nI (nB r)) ≤ nI (nB r) := nI_le (a := nB r) (Nat.le_refl _) (by omega)
    simp only [sX4_countWithStatus_4, hle, if_true, k_b hC h]
theorem r_ct (hn : 10010 ≤ n) (h : Inv bd (m 1)) (x : Int32) : sX7_count n m x = some (ct (m 1) x) := by
  have hb := h.b40
  unfold sX7_count ct
  refine lp_up (fun f s i => sX7_count_4 n m f x s i) (nB (m 1)) (ctS (m 1) x) (some) (fun f i s hi => ?_) (fun f s => ?_) (nB (m 1)) 0 (by omega) n (by omega) 0
  · have hle : ¬ (nI (nB (m 1))) ≤ nI i := nI_ge (b := nB (m 1)) hi (by omega)
    have hcl : (nI i).toNatClampNeg = i := nI_clamp (by omega)
    simp only [sX7_count_4, hle, if_false, hcl, nI_1, bi_s, b2_ite, r_i3, c_3, h.r3, r_of1 (show i < 40 by omega), ctS, Int32.add_zero]
    (repeat' split) <;> first | rfl | simp_all
  · have hle : (nI (nB (m 1))) ≤ nI (nB (m 1)) := nI_le (a := nB (m 1)) (Nat.le_refl _) (by omega)
    simp only [sX7_count_4, hle, if_true, r_i3, c_3, h.r3]
theorem k_sw (hn : 10010 ≤ n) (h : Inv bd r) (hC : Cls g 0 r) : sX4_sumOfWaits n g 9 = some (sw r) := by
  have hb := h.b40
  unfold sX4_sumOfWaits sw
  refine lp_up (fun f s i => sX4_sumOfWaits_4 n g f 9 s i) (nB r) (swS r) (some) (fun f i s hi => ?_) (fun f s => ?_) (nB r) 0 (by omega) n (by omega) 0
  · have hle : ¬ (nI (nB r)) ≤ nI i := nI_ge (b := nB r) hi (by omega)
    have hcl : (nI i).toNatClampNeg = i := nI_clamp (by omega)
    simp only [sX4_sumOfWaits_4, hle, if_false, hcl, nI_1, bi_s, b2_ite, k_b hC h, ix40 (show i < 40 by omega), k_f1 hC hi, k_f3 hC hi, k_f4 hC hi, swS]
    (repeat' split) <;> first | rfl | simp_all
  · have hle : (nI (nB r)) ≤ nI (nB r) := nI_le (a := nB r) (Nat.le_refl _) (by omega)
    simp only [sX4_sumOfWaits_4, hle, if_true, k_b hC h]
theorem r_sw (hn : 10010 ≤ n) (h : Inv bd (m 1)) : sX7_totalWait_9 n n m 0 0 = some (sw (m 1), m) := by
  have hb := h.b40
  unfold sw
  refine lp_up (fun f s i => sX7_totalWait_9 n f m s i) (nB (m 1)) (swS (m 1)) (fun s => some (s, m)) (fun f i s hi => ?_) (fun f s => ?_) (nB (m 1)) 0 (by omega) n (by omega) 0
  · have hle : ¬ (nI (nB (m 1))) ≤ nI i := nI_ge (b := nB (m 1)) hi (by omega)
    have hcl : (nI i).toNatClampNeg = i := nI_clamp (by omega)
    simp only [sX7_totalWait_9, hle, if_false, hcl, nI_1, bi_s, b2_ite, r_i3, c_3, h.r3, r_of1 (show i < 40 by omega), r_of3 (show i < 40 by omega), r_of4 (show i < 40 by omega), swS, Int32.add_zero]
    (repeat' split) <;> first | rfl | simp_all
  · have hle : (nI (nB (m 1))) ≤ nI (nB (m 1)) := nI_le (a := nB (m 1)) (Nat.le_refl _) (by omega)
    simp only [sX7_totalWait_9, hle, if_true, r_i3, c_3, h.r3]
theorem k_wk (hn : 10010 ≤ n) (h : Inv bd r) (hC : Cls g 0 r) (ht : t < nB r) : sX4_writtenKeys n g 9 (nI t) = some (wk r t) := by
  have hb := h.b40
  unfold sX4_writtenKeys wk
  refine lp_up (fun f s i => sX4_writtenKeys_4 n g f 9 (nI t) s i) (8) (wkS r t) (some) (fun f i s hi => ?_) (fun f s => ?_) (8) 0 (by omega) n (by omega) 0
  · have hle : ¬ ((8 : Int32)) ≤ nI i := nI_ge (b := 8) hi (by omega)
    have hcl : (nI i).toNatClampNeg = i := nI_clamp (by omega)
    simp only [sX4_writtenKeys_4, hle, if_false, hcl, nI_1, bi_s, b2_ite, k_wr h hC ht hi, wkS]
    (repeat' split) <;> first | rfl | simp_all
  · have hle : ((8 : Int32)) ≤ nI (8) := nI_le (a := 8) (Nat.le_refl _) (by omega)
    simp only [sX4_writtenKeys_4, hle, if_true]
theorem r_wk (hn : 10010 ≤ n) (h : Inv bd (m 1)) (ht : t < nB (m 1)) : sX7_written n m (nI t) = some (wk (m 1) t) := by
  have hb := h.b40
  unfold sX7_written wk
  refine lp_up (fun f s i => sX7_written_4 n m f (nI t) s i) (8) (wkS (m 1) t) (some) (fun f i s hi => ?_) (fun f s => ?_) (8) 0 (by omega) n (by omega) 0
  · have hle : ¬ ((8 : Int32)) ≤ nI i := nI_ge (b := 8) hi (by omega)
    have hcl : (nI i).toNatClampNeg = i := nI_clamp (by omega)
    simp only [sX7_written_4, hle, if_false, hcl, nI_1, bi_s, b2_ite, r_wr h ht hi, wkS, Int32.add_zero]
    (repeat' split) <;> first | rfl | simp_all
  · have hle : ((8 : Int32)) ≤ nI (8) := nI_le (a := 8) (Nat.le_refl _) (by omega)
    simp only [sX7_written_4, hle, if_true]
theorem k_inv (h : Inv bd r) (hC : Cls g 0 r) {a b : Nat} (ha : a < nB r) (hb' : b < nB r) : sX4_areInverted g 9 (nI a) (nI b) = some (b2 (inv2 r a b)) := by
  have hb := h.b40
  have c1 : (nI a).toNatClampNeg = a := nI_clamp (by omega)
  have c2 : (nI b).toNatClampNeg = b := nI_clamp (by omega)
  simp only [sX4_areInverted, sX4_areInverted_30, ix40 (show a < 40 by omega), ix40 (show b < 40 by omega), c1, c2, k_f1 hC ha, k_f1 hC hb', k_f2 hC ha, k_f2 hC hb', k_f4 hC ha, k_f3 hC hb', inv2]
  by_cases e1 : TX r a 1 = 2 <;> by_cases e2 : TX r b 1 = 1 <;> by_cases e3 : TX r b 1 = 2 <;> by_cases e4 : TX r b 3 < TX r a 4 <;> by_cases e5 : TX r a 2 < TX r b 2 <;> simp [e1, e2, e3, e4, e5, b2]
theorem r_inv (h : Inv bd (m 1)) {a b : Nat} (ha : a < nB (m 1)) (hb' : b < nB (m 1)) : sX7_isInverted m (nI a) (nI b) = some (b2 (inv2 (m 1) a b)) := by
  have hb := h.b40
  have ha' : a < 40 := by omega
  have hb'' : b < 40 := by omega
  simp only [sX7_isInverted, sX7_isStamped, sX7_isInverted_37, r_of1 ha', r_of1 hb'', r_of2 ha', r_of2 hb'', r_of3 hb'', r_of4 ha', bi_s, inv2]
  by_cases e1 : TX (m 1) a 1 = 2 <;> by_cases e2 : TX (m 1) b 1 = 1 <;> by_cases e3 : TX (m 1) b 1 = 2 <;> by_cases e4 : TX (m 1) b 3 < TX (m 1) a 4 <;> by_cases e5 : TX (m 1) a 2 < TX (m 1) b 2 <;> simp [e1, e2, e3, e4, e5, b2, bi_s]
theorem k_iv1 (hn : 10010 ≤ n) (h : Inv bd r) (hC : Cls g 0 r) {a : Nat} (ha : a < nB r) (rec : Nat → Int32 → Int32 → Option Int32) (s0 : Int32) : sX4_countInversions_14 n g rec n 9 s0 (nI a) 0 = rec 9 (itr (ivS r a) 0 (nB r) s0) (nI (a + 1)) := by
  have hb := h.b40
  refine lp_up (fun f s i => sX4_countInversions_14 n g rec f 9 s (nI a) i) (nB r) (ivS r a) (fun s => rec 9 s (nI (a + 1))) (fun f i s hi => ?_) (fun f s => ?_) (nB r) 0 (by omega) n (by omega) s0
  · have hle : ¬ (nI (nB r)) ≤ nI i := nI_ge (b := nB r) hi (by omega)
    have hcl : (nI i).toNatClampNeg = i := nI_clamp (by omega)
    simp only [sX4_countInversions_14, hle, if_false, hcl, nI_1, bi_s, b2_ite, k_b hC h, k_inv h hC ha hi, ivS]
    (repeat' split) <;> first | rfl | simp_all
  · have hle : (nI (nB r)) ≤ nI (nB r) := nI_le (a := nB r) (Nat.le_refl _) (by omega)
    simp only [sX4_countInversions_14, hle, if_true, k_b hC h, nI_1]
theorem k_iv (hn : 10010 ≤ n) (h : Inv bd r) (hC : Cls g 0 r) : sX4_countInversions n g 9 = some (iv r) := by
  have hb := h.b40
  unfold sX4_countInversions iv
  refine lp_up (fun f s i => sX4_countInversions_4 n g f 9 s i) (nB r) (fun a s => itr (ivS r a) 0 (nB r) s) (some) (fun f i s hi => ?_) (fun f s => ?_) (nB r) 0 (by omega) n (by omega) 0
  · have hle : ¬ (nI (nB r)) ≤ nI i := nI_ge (b := nB r) hi (by omega)
    have hcl : (nI i).toNatClampNeg = i := nI_clamp (by omega)
    simp only [sX4_countInversions_4, hle, if_false, hcl, nI_1, bi_s, b2_ite, k_b hC h, k_iv1 hn h hC hi]
  · have hle : (nI (nB r)) ≤ nI (nB r) := nI_le (a := nB r) (Nat.le_refl _) (by omega)
    simp only [sX4_countInversions_4, hle, if_true, k_b hC h]
theorem r_iv1 (hn : 10010 ≤ n) (h : Inv bd (m 1)) {a : Nat} (ha : a < nB (m 1)) (rec : Mem → Int32 → Int32 → Option (Int32 × Mem)) (s0 : Int32) : sX7_inversions_21 n rec n m s0 (nI a) 0 = rec m (itr (ivS (m 1) a) 0 (nB (m 1)) s0) (nI (a + 1)) := by
  have hb := h.b40
  refine lp_up (fun f s i => sX7_inversions_21 n rec f m s (nI a) i) (nB (m 1)) (ivS (m 1) a) (fun s => rec m s (nI (a + 1))) (fun f i s hi => ?_) (fun f s => ?_) (nB (m 1)) 0 (by omega) n (by omega) s0
  · have hle : ¬ (nI (nB (m 1))) ≤ nI i := nI_ge (b := nB (m 1)) hi (by omega)
    have hcl : (nI i).toNatClampNeg = i := nI_clamp (by omega)
    simp only [sX7_inversions_21, hle, if_false, hcl, nI_1, bi_s, b2_ite, r_i3, c_3, h.r3, r_inv h ha hi, ivS, Int32.add_zero]
    (repeat' split) <;> first | rfl | simp_all
  · have hle : (nI (nB (m 1))) ≤ nI (nB (m 1)) := nI_le (a := nB (m 1)) (Nat.le_refl _) (by omega)
    simp only [sX7_inversions_21, hle, if_true, r_i3, c_3, h.r3, nI_1]
theorem r_iv (hn : 10010 ≤ n) (h : Inv bd (m 1)) : sX7_inversions_9 n n m 0 0 = some (iv (m 1), m) := by
  have hb := h.b40
  unfold iv
  refine lp_up (fun f s i => sX7_inversions_9 n f m s i) (nB (m 1)) (fun a s => itr (ivS (m 1) a) 0 (nB (m 1)) s) (fun s => some (s, m)) (fun f i s hi => ?_) (fun f s => ?_) (nB (m 1)) 0 (by omega) n (by omega) 0
  · have hle : ¬ (nI (nB (m 1))) ≤ nI i := nI_ge (b := nB (m 1)) hi (by omega)
    have hcl : (nI i).toNatClampNeg = i := nI_clamp (by omega)
    simp only [sX7_inversions_9, hle, if_false, hcl, nI_1, bi_s, b2_ite, r_i3, c_3, h.r3, r_iv1 hn h hi]
  · have hle : (nI (nB (m 1))) ≤ nI (nB (m 1)) := nI_le (a := nB (m 1)) (Nat.le_refl _) (by omega)
    simp only [sX7_inversions_9, hle, if_true, r_i3, c_3, h.r3]
theorem k_lk (hn : 10010 ≤ n) (h : Inv bd r) (hC : Cls g 0 r) {w : Nat} (hw : w < nB r) (ht : t < nB r) : sX4_locks n g 9 (nI w) (nI t) = some (b2 (lkA r w t)) := by
  refine lp_any (fun f i => sX4_locks_2 n g f 9 (nI w) (nI t) i) 8 (lkB r w t) (fun f i hi hc => ?_) (fun f i hi hc => ?_) (fun f => ?_) n (by omega)
  · have hle : ¬ (8 : Int32) ≤ nI i := nI_ge hi (by decide)
    unfold lkB at hc
    simp only [sX4_locks_2, sX4_locks_26, hle, if_false, nI_1, bi_s, b2_ite, k_wr h hC hw hi, k_tc h hC ht hi, k_rd h hC hw hi, k_wr h hC ht hi]
    cases e1 : wr r w i <;> cases e2 : wr r t i <;> cases e3 : rd r t i <;> cases e4 : rd r w i <;> simp [e1, e2, e3, e4] at hc ⊢
  · have hle : ¬ (8 : Int32) ≤ nI i := nI_ge hi (by decide)
    unfold lkB at hc
    simp only [sX4_locks_2, sX4_locks_26, hle, if_false, nI_1, bi_s, b2_ite, k_wr h hC hw hi, k_tc h hC ht hi, k_rd h hC hw hi, k_wr h hC ht hi]
    cases e1 : wr r w i <;> cases e2 : wr r t i <;> cases e3 : rd r t i <;> cases e4 : rd r w i <;> simp [e1, e2, e3, e4] at hc ⊢
  · have hle : (8 : Int32) ≤ nI 8 := nI_le (Nat.le_refl _) (by decide)
    simp only [sX4_locks_2, hle, if_true]
theorem k_lkd (hn : 10010 ≤ n) (h : Inv bd r) (hC : Cls g 0 r) (ht : t < nB r) : sX4_isLockedOut n g 9 (nI t) = some (b2 (lkd r t)) := by
  have hb := h.b40
  refine lp_any (fun f i => sX4_isLockedOut_2 n g f 9 (nI t) i) (nB r) (fun w => decide (TX r w 1 = 1) && lkA r w t) (fun f i hi hc => ?_) (fun f i hi hc => ?_) (fun f => ?_) n (by omega)
  · have hle : ¬ nI (nB r) ≤ nI i := nI_ge hi (by omega)
    have hcl : (nI i).toNatClampNeg = i := nI_clamp (by omega)
    simp only [sX4_isLockedOut_2, k_b hC h, hle, if_false, nI_1, bi_s, b2_ite, ix40 (show i < 40 by omega), hcl, k_f1 hC hi, k_lk hn h hC hi ht]
    by_cases e : TX r i 1 = 1
    · simp [e] at hc ⊢
      simp [hc]
    · simp [e]
  · have hle : ¬ nI (nB r) ≤ nI i := nI_ge hi (by omega)
    have hcl : (nI i).toNatClampNeg = i := nI_clamp (by omega)
    simp only [sX4_isLockedOut_2, k_b hC h, hle, if_false, nI_1, bi_s, b2_ite, ix40 (show i < 40 by omega), hcl, k_f1 hC hi, k_lk hn h hC hi ht]
    simp at hc
    simp [hc.1, hc.2]
  · have hle : nI (nB r) ≤ nI (nB r) := nI_le (Nat.le_refl _) (by omega)
    simp only [sX4_isLockedOut_2, k_b hC h, hle, if_true]
theorem bb_s {b : Bool} {α : Type} {x : Option α} : sBb (b2 b) x = x := by cases b <;> rfl
theorem r_lk (hn : 10010 ≤ n) (h : Inv bd (m 1)) {w : Nat} (hw : w < nB (m 1)) (ht : t < nB (m 1)) : sX7_bars n m (nI w) (nI t) = some (b2 (lkA (m 1) w t)) := by
  refine lp_or (fun f s i => sX7_bars_5 n m f (nI w) (nI t) s i) 8 (lkB (m 1) w t) (fun f i b hi => ?_) (fun f b => ?_) n (by omega)
  · have hle : ¬ (8 : Int32) ≤ nI i := nI_ge hi (by decide)
    simp only [sX7_bars_5, sX7_bars_32, sX7_bars_58, hle, if_false, nI_1, bi_s, b2_ite, r_wr h hw hi, r_rd h ht hi, r_rd h hw hi, r_wr h ht hi, lkB]
    cases b <;> cases e1 : wr (m 1) w i <;> cases e2 : wr (m 1) t i <;> cases e3 : rd (m 1) t i <;> cases e4 : rd (m 1) w i <;> simp [b2]
  · have hle : (8 : Int32) ≤ nI 8 := nI_le (Nat.le_refl _) (by decide)
    simp only [sX7_bars_5, hle, if_true, bb_s]
theorem r_lkd (hn : 10010 ≤ n) (h : Inv bd (m 1)) (ht : t < nB (m 1)) : sX7_isLocked n m (nI t) = some (b2 (lkd (m 1) t)) := by
  have hb := h.b40
  refine lp_or (fun f s i => sX7_isLocked_4 n m f (nI t) s i) (nB (m 1)) (fun w => decide (TX (m 1) w 1 = 1) && lkA (m 1) w t) (fun f i b hi => ?_) (fun f b => ?_) n (by omega)
  · have hle : ¬ nI (nB (m 1)) ≤ nI i := nI_ge hi (by omega)
    simp only [sX7_isLocked_4, r_i3, c_3, h.r3, hle, if_false, nI_1, bi_s, b2_ite, r_of1 (show i < 40 by omega), r_lk hn h hi ht]
    cases b <;> by_cases e : TX (m 1) i 1 = 1 <;> cases e2 : lkA (m 1) i t <;> simp [e, b2]
  · have hle : nI (nB (m 1)) ≤ nI (nB (m 1)) := nI_le (Nat.le_refl _) (by omega)
    simp only [sX7_isLocked_4, r_i3, c_3, h.r3, hle, if_true, bb_s]
/-! the waiting writer -/
def wwC (r : Nat → Int32) (k : Nat) : Nat → Prop := fun t => TX r t 1 = 1 ∧ wr r t k = true
theorem ww_sim (hn : 10010 ≤ n) (h : Inv bd r) (hC : Cls g 0 r) {m : Mem} (e : r = m 1) (hk : k < 8) : ∃ x : Int32, sX4_findWaitingWriter n g 9 (nI k) = some x ∧ sX7_waitingWriter_23 n n m (nI k) 0 = some (x, m) := by
  subst e
  have hb := h.b40
  have d1 := lp_ex (fun f i => sX4_findWaitingWriter_2 n g f 9 (nI k) i) (nB (m 1)) (wwC (m 1) k) (fun i => some (nI i)) (some (-1)) (fun i => by unfold wwC; by_cases q : TX (m 1) i 1 = 1 <;> cases wr (m 1) i k <;> simp [q]) (fun f i hi hc => ?_) (fun f i hi hc => ?_) (fun f => ?_) (nB (m 1)) 0 (by omega) n (by omega)
  · have d2 := lp_ex (fun f i => sX7_waitingWriter_23 n f m (nI k) i) (nB (m 1)) (wwC (m 1) k) (fun i => some (nI i, m)) (some (-1, m)) (fun i => by unfold wwC; by_cases q : TX (m 1) i 1 = 1 <;> cases wr (m 1) i k <;> simp [q]) (fun f i hi hc => ?_) (fun f i hi hc => ?_) (fun f => ?_) (nB (m 1)) 0 (by omega) n (by omega)
    · rcases d1 with ⟨j, -, j2, j3, j4, j5⟩ | ⟨j1, j2⟩
      · rcases d2 with ⟨u, -, u2, u3, u4, u5⟩ | ⟨u1, u2⟩
        · have : j = u := by
            rcases Nat.lt_trichotomy j u with q | q | q
            · exact absurd j3 (u4 j (by omega) q)
            · exact q
            · exact absurd u3 (j4 u (by omega) q)
          exact ⟨nI j, j5, by rw [this]; exact u5⟩
        · exact absurd j3 (u1 j (by omega) j2)
      · rcases d2 with ⟨u, -, u2, u3, u4, u5⟩ | ⟨u1, u2⟩
        · exact absurd u3 (j1 u (by omega) u2)
        · exact ⟨-1, j2, u2⟩
    · have hle : ¬ nI (nB (m 1)) ≤ nI i := nI_ge hi (by omega)
      unfold wwC at hc
      simp only [sX7_waitingWriter_23, r_i3, c_3, h.r3, hle, if_false, nI_1, bi_s, b2_ite, r_of1 (show i < 40 by omega), r_wr h hi hk]
      by_cases q : TX (m 1) i 1 = 1 <;> cases e2 : wr (m 1) i k <;> simp [q, e2] at hc ⊢
    · have hle : ¬ nI (nB (m 1)) ≤ nI i := nI_ge hi (by omega)
      unfold wwC at hc
      simp only [sX7_waitingWriter_23, r_i3, c_3, h.r3, hle, if_false, nI_1, bi_s, b2_ite, r_of1 (show i < 40 by omega), r_wr h hi hk, hc.1, hc.2, if_true]
    · have hle : nI (nB (m 1)) ≤ nI (nB (m 1)) := nI_le (Nat.le_refl _) (by omega)
      simp only [sX7_waitingWriter_23, r_i3, c_3, h.r3, hle, if_true]
  · have hle : ¬ nI (nB (m 1)) ≤ nI i := nI_ge hi (by omega)
    have hcl : (nI i).toNatClampNeg = i := nI_clamp (by omega)
    unfold wwC at hc
    simp only [sX4_findWaitingWriter_2, k_b hC h, hle, if_false, nI_1, bi_s, b2_ite, ix40 (show i < 40 by omega), hcl, k_f1 hC hi, k_wr h hC hi hk]
    by_cases q : TX (m 1) i 1 = 1 <;> cases e2 : wr (m 1) i k <;> simp [q, e2] at hc ⊢
  · have hle : ¬ nI (nB (m 1)) ≤ nI i := nI_ge hi (by omega)
    have hcl : (nI i).toNatClampNeg = i := nI_clamp (by omega)
    unfold wwC at hc
    simp only [sX4_findWaitingWriter_2, k_b hC h, hle, if_false, nI_1, bi_s, b2_ite, ix40 (show i < 40 by omega), hcl, k_f1 hC hi, k_wr h hC hi hk, hc.1, hc.2, if_true]
  · have hle : nI (nB (m 1)) ≤ nI (nB (m 1)) := nI_le (Nat.le_refl _) (by omega)
    simp only [sX4_findWaitingWriter_2, k_b hC h, hle, if_true]
end PQ
