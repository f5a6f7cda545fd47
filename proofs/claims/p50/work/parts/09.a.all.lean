/-! the pure part: all calls, and the start -/
section QK
variable {n j : Nat}
/-- the relation, for every number of calls -/
def RelA (j : Nat) (g m : Mem) : Prop := RelB (bdj (min j 513)) g m
theorem relA_of {j : Nat} {g m : Mem} (hj : j ≤ 513) : RelA j g m ↔ Rel j g m := by
  unfold RelA Rel
  rw [Nat.min_eq_left hj]
  exact ⟨fun h => ⟨h, hj⟩, fun h => h.1⟩
theorem relA_mono (j : Nat) (g m : Mem) (h : RelA j g m) : RelA (j + 1) g m := by
  unfold RelA at h ⊢
  refine h.mono ?_ (bdj_le (Nat.min_le_right _ _))
  unfold bdj
  omega
theorem relA_eq {j : Nat} (hj : j ≤ 513) : RelA j = Rel j := by
  funext g m
  exact propext (relA_of hj)
theorem sims_all (hn : 10010 ≤ n) (hj : j ≤ 512) : Sims (RelA j) (RelA (j + 1)) n := by
  rw [relA_eq (by omega), relA_eq (by omega)]
  exact ⟨q_begin hn hj, q_read hn hj, q_write hn hj, q_commit hn hj, q_abort hn hj, q_advance hn hj, q_synchronize hn hj, q_setDrift hn hj, q_setUncertainty hn hj, q_snapshotRead hn hj, q_appendText hn hj, q_clearText hn hj, q_errorPosition hn hj, q_runText hn hj, q_undo hn hj, q_save hn hj, q_restore hn hj, q_trueTime hn hj, q_reading hn hj, q_earliest hn hj, q_latest hn hj, q_isSound hn hj, q_nextTimestamp hn hj, q_transactions hn hj, q_state hn hj, q_timestamp hn hj, q_requestTime hn hj, q_commitTime hn hj, q_bufferedValue hn hj, q_recordedTimestamp hn hj, q_ifCommitted hn hj, q_ticksToCommit hn hj, q_versions hn hj, q_versionTimestamp hn hj, q_valueAt hn hj, q_replayedValueAt hn hj, q_waitingWriter hn hj, q_readerMark hn hj, q_safeTime hn hj, q_readFloor hn hj, q_ticksUntilSafe hn hj, q_countInState hn hj, q_totalWait hn hj, q_unsoundUses hn hj, q_inversions hn hj, q_savedStates hn hj, q_textLength hn hj⟩
/-! the first memories -/
theorem m0_lo {i : Nat} (h : i ≠ 10 ∧ i ≠ 11 ∧ i ≠ 16 ∧ i ≠ 17 ∧ i ≠ 22 ∧ i ≠ 23) : gM0 1 i = 0 := by
  unfold gM0
  rw [if_pos rfl, if_neg (by omega), if_neg (by omega)]
theorem m0_5 {i : Nat} (h : i = 10 ∨ i = 16 ∨ i = 22) : gM0 1 i = 5 := by
  unfold gM0
  rw [if_pos rfl, if_pos h]
theorem m0_2 {i : Nat} (h : i = 11 ∨ i = 17 ∨ i = 23) : gM0 1 i = 2 := by
  unfold gM0
  rw [if_pos rfl, if_neg (by omega), if_pos h]
theorem m0_k {k i : Nat} (h : k ≠ 1) : gM0 k i = 0 := by
  unfold gM0
  rw [if_neg h]
theorem nB_0 : nB (gM0 1) = 0 := by
  unfold nB
  rw [m0_lo (by decide)]
  rfl
theorem ck_0 {s f : Nat} (hs : s < 3) (hf : f < 6) : CK (gM0 1) s f = if f = 3 then 5 else if f = 4 then 2 else 0 := by
  unfold CK
  by_cases h3 : f = 3
  · rw [if_pos h3, m0_5 (by omega)]
  · rw [if_neg h3]
    by_cases h4 : f = 4
    · rw [if_pos h4, m0_2 (by omega)]
    · rw [if_neg h4, m0_lo (by omega)]
theorem inv_0 : Inv (bdj 0) (gM0 1) := by
  have z := nB_0
  have hb : bdj 0 = 3200000 := by unfold bdj; omega
  refine ⟨⟨by rw [z, m0_lo (by decide)]; rfl, by omega⟩, by rw [m0_lo (by decide), l_0]; omega, by rw [m0_lo (by decide), l_0, hb]; omega, fun s hs => by rw [m0_lo (by omega), l_0, hb]; omega, fun s hs => ?_, fun t ht => by omega, fun t ht => by omega, by omega⟩
  unfold ckok
  rw [ck_0 hs (by decide), ck_0 hs (by decide), ck_0 hs (by decide), ck_0 hs (by decide), ck_0 hs (by decide), ck_0 hs (by decide), m0_lo (by decide)]
  decide
theorem cls_0 {i : Nat} (hi : i < 9) : Cls gC0 (17 * i) (gM0 1) := by
  have z := nB_0
  have ec : ∀ k, cv (gM0 1) k = 0 := fun k => by unfold cv; rw [z]; rfl
  have e0 : ∀ {r b}, r < 17 → r ≠ 2 → r ≠ 3 → r ≠ 4 → r ≠ 6 → gC0 (17 * i + r) b = 0 := fun {r b} h h2 h3 h4 h6 => by
    unfold gC0
    rw [if_pos (by omega), if_neg (by omega), if_neg (by omega)]
  have es : ∀ {s b}, s < 3 → gC0 (17 * i + 2 + s) b = if b = 3 then 5 else if b = 4 then 2 else 0 := fun {s b} h => by
    unfold gC0
    rw [if_pos (by omega), if_pos (by omega)]
  have e6 : ∀ {b}, gC0 (17 * i + 6) b = 1 := fun {b} => by
    unfold gC0
    rw [if_pos (by omega), if_neg (by omega), if_pos (by omega)]
  refine ⟨⟨?_, ?_, ?_, fun s hs f hf => ?_, fun s hs => ?_⟩, ⟨?_, fun t ht => by omega⟩, fun k hk => ?_, fun t ht => by omega⟩
  · rw [m0_lo (by decide)]; exact e0 (r := 0) (by decide) (by decide) (by decide) (by decide) (by decide)
  · rw [m0_lo (by decide)]; exact e0 (r := 0) (by decide) (by decide) (by decide) (by decide) (by decide)
  · rw [m0_lo (by decide)]; exact e0 (r := 0) (by decide) (by decide) (by decide) (by decide) (by decide)
  · rw [es hs, ck_0 hs hf]
  · rw [es hs, m0_lo (by omega)]; rfl
  · rw [m0_lo (by decide)]; exact e0 (r := 9) (by decide) (by decide) (by decide) (by decide) (by decide)
  · unfold ClV
    rw [ec k]
    refine ⟨e6, e0 (r := 7) (by decide) (by decide) (by decide) (by decide) (by decide), e0 (r := 8) (by decide) (by decide) (by decide) (by decide) (by decide), fun i1 h1 h2 => by omega, fun t ht => by omega, fun i1 j1 h1 h2 => by omega, fun i1 h1 h2 => by omega⟩
theorem rel_0 : RelA 0 gC0 gM0 := by
  show RelB (bdj 0) gC0 gM0
  have ek : ∀ {k b}, 153 ≤ k → gC0 k b = 0 := fun {k b} h => by
    unfold gC0
    rw [if_neg (by omega)]
  refine ⟨cls_0 (i := 0) (by decide), inv_0, ⟨0, 0, by decide, by decide, m0_k (by decide), ek (by decide), ek (by decide), fun i hi => by omega⟩, fun s hs => Or.inl ⟨ek (by decide), m0_k (by decide)⟩, 0, by decide, ek (by decide), m0_k (by decide), fun i hi => by omega⟩
end QK
