/-! the meanings: what each method answers and leaves, as a function of the memory (n: how far its loops are followed) -/
def sJ9_floorDiv_7cf53 (g : Mem) (x0 : Int32) (x1 : Int32) : Option (Int32) := if x1 = 0 then none else if 0 ≤ (x0 ^^^ x1) then (some (x0 / x1)) else (if ((x0 / x1) * x1) = x0 then (some (x0 / x1)) else (some ((x0 / x1) - (1 : Int32))))

def sX1_copyFrom (g : Mem) (k0 : Nat) (k1 : Nat) : Option (Mem) := sLet (mput g k0 0 (g k1 0)) fun g1 => sLet (mput g1 k0 1 (g1 k1 1)) fun g2 => sLet (mput g2 k0 2 (g2 k1 2)) fun g3 => sLet (mput g3 k0 3 (g3 k1 3)) fun g4 => sLet (mput g4 k0 4 (g4 k1 4)) fun g5 => sLet (mput g5 k0 5 (g5 k1 5)) fun g6 => sLet (mput g6 k0 6 (g6 k1 6)) fun g7 => some g7

def sX1_setOffset (g : Mem) (k0 : Nat) (x1 : Int32) (x2 : Int32) : Option (Mem) := sLet (mput g k0 0 x1) fun g1 => sLet (mput g1 k0 1 x2) fun g2 => sLet (mput g2 k0 5 x2) fun g3 => some g3

def sX1_offsetAt (g : Mem) (k0 : Nat) (x1 : Int32) : Option (Int32) := sBi (sJ9_floorDiv_7cf53 g ((g k0 2) * (x1 - (g k0 1))) (1000 : Int32)) fun r3 => some ((g k0 0) + r3)

def sX1_changeDrift (g : Mem) (k0 : Nat) (x1 : Int32) (x2 : Int32) : Option (Int32 × Mem) := sBi (sX1_offsetAt g k0 x2) fun r3 => sLet (mput g k0 0 r3) fun g4 => sLet (mput g4 k0 1 x2) fun g5 => sLet (mput g5 k0 2 x1) fun g6 => some ((g k0 2), g6)

def sX1_changeUncertainty (g : Mem) (k0 : Nat) (x1 : Int32) (x2 : Int32) : Option (Mem) := sLet (mput g k0 3 x1) fun g1 => sLet (mput g1 k0 4 x2) fun g2 => some g2

def sX1_uncertaintyAt (g : Mem) (k0 : Nat) (x1 : Int32) : Option (Int32) := sBi (sJ9_floorDiv_7cf53 g ((-(g k0 4)) * (x1 - (g k0 5))) (1000 : Int32)) fun r3 => some ((g k0 3) - r3)

def sX1_earliestAt (g : Mem) (k0 : Nat) (x1 : Int32) : Option (Int32) := sBi (sX1_offsetAt g k0 x1) fun r3 => sBi (sX1_uncertaintyAt g k0 x1) fun r6 => some ((x1 + r3) - r6)

def sX1_latestAt (g : Mem) (k0 : Nat) (x1 : Int32) : Option (Int32) := sBi (sX1_offsetAt g k0 x1) fun r3 => sBi (sX1_uncertaintyAt g k0 x1) fun r6 => some ((x1 + r3) + r6)

def sX1_isSoundAt (g : Mem) (k0 : Nat) (x1 : Int32) : Option (Int32) := sBi (sX1_offsetAt g k0 x1) fun r3 => sBi (sX1_uncertaintyAt g k0 x1) fun r6 => if 0 < (r3 - r6) then (some (0 : Int32)) else (if (r3 + r6) < 0 then (some (0 : Int32)) else (some (1 : Int32)))

def sX1_ticksUntilLatestPasses_3 (n : Nat) (g : Mem) : Nat → Nat → Int32 → Int32 → Int32 → Int64 → Option (Int32)
  | 0, _, _, _, _, _ => none
  | f + 1, k0, x1, x2, x3, x4 => if 0 < (lg_cmp x4 x3.toInt64) then (some (x3 + (1 : Int32))) else (sBi (sX1_latestAt g k0 (x2 + x4.toInt32)) fun r4 => if 0 ≤ (lg_cmp (x1.toInt64 - r4.toInt64) (0 : Int64)) then (sX1_ticksUntilLatestPasses_3 n g f k0 x1 x2 x3 (x4 + ((1 : Int64) + ((x1.toInt64 - r4.toInt64) / (3 : Int64))))) else (some x4.toInt32))

def sX1_ticksUntilLatestPasses (n : Nat) (g : Mem) (k0 : Nat) (x1 : Int32) (x2 : Int32) (x3 : Int32) : Option (Int32) := sX1_ticksUntilLatestPasses_3 n g n k0 x1 x2 x3 (0 : Int64)

def sX5_copyFrom_2 (n : Nat) : Nat → Mem → Nat → Nat → Int32 → Option (Mem)
  | 0, _, _, _, _ => none
  | f + 1, g, k0, k1, x2 => if (8 : Int32) ≤ x2 then (some g) else (sIdx x2 8 fun _ => sIdx x2 8 fun _ => sLet (mput g (k0 + 1) x2.toNatClampNeg (g (k1 + 1) x2.toNatClampNeg)) fun g4 => sIdx x2 8 fun _ => sCpy 328 328 (x2 * (41 : Int32)) (x2 * (41 : Int32)) (g4 (k0 + 1) x2.toNatClampNeg) <| sLet (mcpy g4 (k1 + 2) (k0 + 2) (x2 * (41 : Int32)).toNatClampNeg (x2 * (41 : Int32)).toNatClampNeg (g4 (k0 + 1) x2.toNatClampNeg).toNatClampNeg) fun g7 => sIdx x2 8 fun _ => sCpy 328 328 (x2 * (41 : Int32)) (x2 * (41 : Int32)) (g7 (k0 + 1) x2.toNatClampNeg) <| sLet (mcpy g7 (k1 + 3) (k0 + 3) (x2 * (41 : Int32)).toNatClampNeg (x2 * (41 : Int32)).toNatClampNeg (g7 (k0 + 1) x2.toNatClampNeg).toNatClampNeg) fun g10 => sX5_copyFrom_2 n f g10 k0 k1 (x2 + (1 : Int32)))

def sX5_copyFrom (n : Nat) (g : Mem) (k0 : Nat) (k1 : Nat) : Option (Mem) := sX5_copyFrom_2 n n g k0 k1 (0 : Int32)

def sX5_add (g : Mem) (k0 : Nat) (x1 : Int32) (x2 : Int32) (x3 : Int32) : Option (Mem) := sIdx x1 8 fun _ => sIdx ((x1 * (41 : Int32)) + (g (k0 + 1) x1.toNatClampNeg)) 328 fun _ => sLet (mput g (k0 + 2) ((x1 * (41 : Int32)) + (g (k0 + 1) x1.toNatClampNeg)).toNatClampNeg x2) fun g3 => sIdx ((x1 * (41 : Int32)) + (g (k0 + 1) x1.toNatClampNeg)) 328 fun _ => sLet (mput g3 (k0 + 3) ((x1 * (41 : Int32)) + (g (k0 + 1) x1.toNatClampNeg)).toNatClampNeg x3) fun g5 => sIdx x1 8 fun _ => sIdx x1 8 fun _ => sLet (mput g5 (k0 + 1) x1.toNatClampNeg ((g5 (k0 + 1) x1.toNatClampNeg) + (1 : Int32))) fun g8 => some g8

def sX5_newest (g : Mem) (k0 : Nat) (x1 : Int32) : Option (Int32) := sIdx x1 8 fun _ => some ((g (k0 + 1) x1.toNatClampNeg) - (1 : Int32))

def sX5_timestampOf (g : Mem) (k0 : Nat) (x1 : Int32) (x2 : Int32) : Option (Int32) := sIdx ((x1 * (41 : Int32)) + x2) 328 fun _ => some (g (k0 + 2) ((x1 * (41 : Int32)) + x2).toNatClampNeg)

def sX5_valueOfVersion (g : Mem) (k0 : Nat) (x1 : Int32) (x2 : Int32) : Option (Int32) := sIdx ((x1 * (41 : Int32)) + x2) 328 fun _ => some (g (k0 + 3) ((x1 * (41 : Int32)) + x2).toNatClampNeg)

def sX5_valueOf_6 (n : Nat) (g : Mem) : Nat → Nat → Int32 → Int32 → Int32 → Option (Int32)
  | 0, _, _, _, _ => none
  | f + 1, k0, x1, x2, x3 => if x3 ≤ 0 then (sBi (sX5_valueOfVersion g k0 x1 x3) fun r4 => some r4) else (sBi (sX5_timestampOf g k0 x1 x3) fun r7 => if r7 ≤ x2 then (sBi (sX5_valueOfVersion g k0 x1 x3) fun r11 => some r11) else (sX5_valueOf_6 n g f k0 x1 x2 (x3 + (-1 : Int32))))

def sX5_valueOf (n : Nat) (g : Mem) (k0 : Nat) (x1 : Int32) (x2 : Int32) : Option (Int32) := sBi (sX5_newest g k0 x1) fun r3 => sX5_valueOf_6 n g n k0 x1 x2 r3

def sX4_copyFrom (g : Mem) (k0 : Nat) (k1 : Nat) : Option (Mem) := sLet (mput g k0 0 (g k1 0)) fun g1 => sCpy 40 40 (0 : Int32) (0 : Int32) (g1 k0 0) <| sLet (mcpy g1 (k1 + 1) (k0 + 1) (0 : Int32).toNatClampNeg (0 : Int32).toNatClampNeg (g1 k0 0).toNatClampNeg) fun g3 => sCpy 40 40 (0 : Int32) (0 : Int32) (g3 k0 0) <| sLet (mcpy g3 (k1 + 2) (k0 + 2) (0 : Int32).toNatClampNeg (0 : Int32).toNatClampNeg (g3 k0 0).toNatClampNeg) fun g5 => sCpy 40 40 (0 : Int32) (0 : Int32) (g5 k0 0) <| sLet (mcpy g5 (k1 + 3) (k0 + 3) (0 : Int32).toNatClampNeg (0 : Int32).toNatClampNeg (g5 k0 0).toNatClampNeg) fun g7 => sCpy 40 40 (0 : Int32) (0 : Int32) (g7 k0 0) <| sLet (mcpy g7 (k1 + 4) (k0 + 4) (0 : Int32).toNatClampNeg (0 : Int32).toNatClampNeg (g7 k0 0).toNatClampNeg) fun g9 => sCpy 40 40 (0 : Int32) (0 : Int32) (g9 k0 0) <| sLet (mcpy g9 (k1 + 5) (k0 + 5) (0 : Int32).toNatClampNeg (0 : Int32).toNatClampNeg (g9 k0 0).toNatClampNeg) fun g11 => sCpy 320 320 (0 : Int32) (0 : Int32) ((g11 k0 0) * (8 : Int32)) <| sLet (mcpy g11 (k1 + 6) (k0 + 6) (0 : Int32).toNatClampNeg (0 : Int32).toNatClampNeg ((g11 k0 0) * (8 : Int32)).toNatClampNeg) fun g13 => sCpy 320 320 (0 : Int32) (0 : Int32) ((g13 k0 0) * (8 : Int32)) <| sLet (mcpy g13 (k1 + 7) (k0 + 7) (0 : Int32).toNatClampNeg (0 : Int32).toNatClampNeg ((g13 k0 0) * (8 : Int32)).toNatClampNeg) fun g15 => some g15

def sX4_bufferValue (g : Mem) (k0 : Nat) (x1 : Int32) (x2 : Int32) (x3 : Int32) : Option (Mem) := sIdx ((x1 * (8 : Int32)) + x2) 320 fun _ => sLet (mput g (k0 + 6) ((x1 * (8 : Int32)) + x2).toNatClampNeg x3) fun g2 => some g2

def sX4_recordVersion (g : Mem) (k0 : Nat) (x1 : Int32) (x2 : Int32) (x3 : Int32) : Option (Mem) := sIdx ((x1 * (8 : Int32)) + x2) 320 fun _ => sLet (mput g (k0 + 7) ((x1 * (8 : Int32)) + x2).toNatClampNeg x3) fun g2 => some g2

def sX4_add_52 (n : Nat) : Nat → Mem → Nat → Int32 → Int32 → Option (Int32 × Mem)
  | 0, _, _, _, _ => none
  | f + 1, g, k0, x2, x3 => if (8 : Int32) ≤ x3 then (some (x2, g)) else (sBi (sX4_bufferValue g k0 x2 x3 (-1 : Int32)) fun g4 => sBi (sX4_recordVersion g4 k0 x2 x3 (-1 : Int32)) fun g7 => sX4_add_52 n f g7 k0 x2 (x3 + (1 : Int32)))

def sX4_add (n : Nat) (g : Mem) (k0 : Nat) (x1 : Int32) : Option (Int32 × Mem) := sLet (mput g k0 0 ((g k0 0) + (1 : Int32))) fun g1 => sIdx (g k0 0) 40 fun _ => sLet (mput g1 (k0 + 1) (g k0 0).toNatClampNeg x1) fun g3 => sIdx (g k0 0) 40 fun _ => sLet (mput g3 (k0 + 2) (g k0 0).toNatClampNeg (0 : Int32)) fun g5 => sIdx (g k0 0) 40 fun _ => sLet (mput g5 (k0 + 3) (g k0 0).toNatClampNeg (-1 : Int32)) fun g7 => sIdx (g k0 0) 40 fun _ => sLet (mput g7 (k0 + 4) (g k0 0).toNatClampNeg (-1 : Int32)) fun g9 => sIdx (g k0 0) 40 fun _ => sLet (mput g9 (k0 + 5) (g k0 0).toNatClampNeg (-1 : Int32)) fun g11 => sX4_add_52 n n g11 k0 (g k0 0) (0 : Int32)

def sX4_isOpen (g : Mem) (k0 : Nat) (x1 : Int32) : Option (Int32) := if x1 < 0 then (some (0 : Int32)) else (if (g k0 0) ≤ x1 then (some (0 : Int32)) else (sIdx x1 40 fun _ => if (g (k0 + 2) x1.toNatClampNeg) = 0 then (some (1 : Int32)) else (some (0 : Int32))))

def sX4_bufferOf (g : Mem) (k0 : Nat) (x1 : Int32) (x2 : Int32) : Option (Int32) := sIdx ((x1 * (8 : Int32)) + x2) 320 fun _ => some (g (k0 + 6) ((x1 * (8 : Int32)) + x2).toNatClampNeg)

def sX4_hasWritten (g : Mem) (k0 : Nat) (x1 : Int32) (x2 : Int32) : Option (Int32) := sIdx ((x1 * (8 : Int32)) + x2) 320 fun _ => if (g (k0 + 6) ((x1 * (8 : Int32)) + x2).toNatClampNeg) = (-1 : Int32) then (some (0 : Int32)) else (some (1 : Int32))

def sX4_recordedVersion (g : Mem) (k0 : Nat) (x1 : Int32) (x2 : Int32) : Option (Int32) := sIdx ((x1 * (8 : Int32)) + x2) 320 fun _ => some (g (k0 + 7) ((x1 * (8 : Int32)) + x2).toNatClampNeg)

def sX4_hasRead (g : Mem) (k0 : Nat) (x1 : Int32) (x2 : Int32) : Option (Int32) := sIdx ((x1 * (8 : Int32)) + x2) 320 fun _ => if (g (k0 + 7) ((x1 * (8 : Int32)) + x2).toNatClampNeg) = (-1 : Int32) then (some (0 : Int32)) else (some (1 : Int32))

def sX4_hasTouched (g : Mem) (k0 : Nat) (x1 : Int32) (x2 : Int32) : Option (Int32) := sBi (sX4_hasRead g k0 x1 x2) fun r3 => if r3 = 0 then (sBi (sX4_hasWritten g k0 x1 x2) fun r7 => if r7 = 0 then (some (0 : Int32)) else (some (1 : Int32))) else (some (1 : Int32))

def sX4_writtenKeys_4 (n : Nat) (g : Mem) : Nat → Nat → Int32 → Int32 → Int32 → Option (Int32)
  | 0, _, _, _, _ => none
  | f + 1, k0, x1, x2, x3 => if (8 : Int32) ≤ x3 then (some x2) else (sBi (sX4_hasWritten g k0 x1 x3) fun r4 => if r4 = 0 then (sX4_writtenKeys_4 n g f k0 x1 x2 (x3 + (1 : Int32))) else (sX4_writtenKeys_4 n g f k0 x1 (x2 + (1 : Int32)) (x3 + (1 : Int32))))

def sX4_writtenKeys (n : Nat) (g : Mem) (k0 : Nat) (x1 : Int32) : Option (Int32) := sX4_writtenKeys_4 n g n k0 x1 (0 : Int32) (0 : Int32)

def sX4_locks_26 (n : Nat) (g : Mem) (rec2 : Nat → Int32 → Int32 → Int32 → Option (Int32)) (k0 : Nat) (x1 : Int32) (x2 : Int32) (x3 : Int32) : Option (Int32) := sBi (sX4_hasRead g k0 x1 x3) fun r3 => if r3 = 0 then (rec2 k0 x1 x2 (x3 + (1 : Int32))) else (sBi (sX4_hasWritten g k0 x2 x3) fun r7 => if r7 = 0 then (rec2 k0 x1 x2 (x3 + (1 : Int32))) else (some (1 : Int32)))

def sX4_locks_2 (n : Nat) (g : Mem) : Nat → Nat → Int32 → Int32 → Int32 → Option (Int32)
  | 0, _, _, _, _ => none
  | f + 1, k0, x1, x2, x3 => if (8 : Int32) ≤ x3 then (some (0 : Int32)) else (sBi (sX4_hasWritten g k0 x1 x3) fun r4 => if r4 = 0 then (sX4_locks_26 n g (sX4_locks_2 n g f) k0 x1 x2 x3) else (sBi (sX4_hasTouched g k0 x2 x3) fun r8 => if r8 = 0 then (sX4_locks_26 n g (sX4_locks_2 n g f) k0 x1 x2 x3) else (some (1 : Int32))))

def sX4_locks (n : Nat) (g : Mem) (k0 : Nat) (x1 : Int32) (x2 : Int32) : Option (Int32) := sX4_locks_2 n g n k0 x1 x2 (0 : Int32)

def sX4_isLockedOut_2 (n : Nat) (g : Mem) : Nat → Nat → Int32 → Int32 → Option (Int32)
  | 0, _, _, _ => none
  | f + 1, k0, x1, x2 => if (g k0 0) ≤ x2 then (some (0 : Int32)) else (sIdx x2 40 fun _ => if (g (k0 + 2) x2.toNatClampNeg) = (1 : Int32) then (sBi (sX4_locks n g k0 x2 x1) fun r6 => if r6 = 0 then (sX4_isLockedOut_2 n g f k0 x1 (x2 + (1 : Int32))) else (some (1 : Int32))) else (sX4_isLockedOut_2 n g f k0 x1 (x2 + (1 : Int32))))

def sX4_isLockedOut (n : Nat) (g : Mem) (k0 : Nat) (x1 : Int32) : Option (Int32) := sX4_isLockedOut_2 n g n k0 x1 (0 : Int32)

def sX4_findWaitingWriter_2 (n : Nat) (g : Mem) : Nat → Nat → Int32 → Int32 → Option (Int32)
  | 0, _, _, _ => none
  | f + 1, k0, x1, x2 => if (g k0 0) ≤ x2 then (some (-1 : Int32)) else (sIdx x2 40 fun _ => if (g (k0 + 2) x2.toNatClampNeg) = (1 : Int32) then (sBi (sX4_hasWritten g k0 x2 x1) fun r6 => if r6 = 0 then (sX4_findWaitingWriter_2 n g f k0 x1 (x2 + (1 : Int32))) else (some x2)) else (sX4_findWaitingWriter_2 n g f k0 x1 (x2 + (1 : Int32))))

def sX4_findWaitingWriter (n : Nat) (g : Mem) (k0 : Nat) (x1 : Int32) : Option (Int32) := sX4_findWaitingWriter_2 n g n k0 x1 (0 : Int32)

def sX4_greatestReaderTimestamp_4 (n : Nat) (g : Mem) : Nat → Nat → Int32 → Int32 → Int32 → Option (Int32)
  | 0, _, _, _, _ => none
  | f + 1, k0, x1, x2, x3 => if (g k0 0) ≤ x3 then (some x2) else (sIdx x3 40 fun _ => if (g (k0 + 2) x3.toNatClampNeg) = (2 : Int32) then (sBi (sX4_hasRead g k0 x3 x1) fun r6 => if r6 = 0 then (sX4_greatestReaderTimestamp_4 n g f k0 x1 x2 (x3 + (1 : Int32))) else (sIdx x3 40 fun _ => sX4_greatestReaderTimestamp_4 n g f k0 x1 (sMax x2 (g (k0 + 3) x3.toNatClampNeg)) (x3 + (1 : Int32)))) else (sX4_greatestReaderTimestamp_4 n g f k0 x1 x2 (x3 + (1 : Int32))))

def sX4_greatestReaderTimestamp (n : Nat) (g : Mem) (k0 : Nat) (x1 : Int32) : Option (Int32) := sX4_greatestReaderTimestamp_4 n g n k0 x1 (0 : Int32) (0 : Int32)

def sX4_replay_8 (n : Nat) (g : Mem) : Nat → Nat → Int32 → Int32 → Int32 → Int32 → Int32 → Option (Int32)
  | 0, _, _, _, _, _, _ => none
  | f + 1, k0, x1, x2, x3, x4, x5 => if (g k0 0) ≤ x5 then (some x3) else (sIdx x5 40 fun _ => if (g (k0 + 2) x5.toNatClampNeg) = (2 : Int32) then (sBi (sX4_hasWritten g k0 x5 x1) fun r6 => if r6 = 0 then (sX4_replay_8 n g f k0 x1 x2 x3 x4 (x5 + (1 : Int32))) else (sIdx x5 40 fun _ => if x2 < (g (k0 + 3) x5.toNatClampNeg) then (sX4_replay_8 n g f k0 x1 x2 x3 x4 (x5 + (1 : Int32))) else (sIdx x5 40 fun _ => if (g (k0 + 3) x5.toNatClampNeg) < x4 then (sX4_replay_8 n g f k0 x1 x2 x3 x4 (x5 + (1 : Int32))) else (sIdx x5 40 fun _ => sBi (sX4_bufferOf g k0 x5 x1) fun r15 => sX4_replay_8 n g f k0 x1 x2 r15 (g (k0 + 3) x5.toNatClampNeg) (x5 + (1 : Int32)))))) else (sX4_replay_8 n g f k0 x1 x2 x3 x4 (x5 + (1 : Int32))))

def sX4_replay (n : Nat) (g : Mem) (k0 : Nat) (x1 : Int32) (x2 : Int32) : Option (Int32) := sX4_replay_8 n g n k0 x1 x2 (0 : Int32) (0 : Int32) (0 : Int32)

def sX4_countWithStatus_4 (n : Nat) (g : Mem) : Nat → Nat → Int32 → Int32 → Int32 → Option (Int32)
  | 0, _, _, _, _ => none
  | f + 1, k0, x1, x2, x3 => if (g k0 0) ≤ x3 then (some x2) else (sIdx x3 40 fun _ => if (g (k0 + 2) x3.toNatClampNeg) = x1 then (sX4_countWithStatus_4 n g f k0 x1 (x2 + (1 : Int32)) (x3 + (1 : Int32))) else (sX4_countWithStatus_4 n g f k0 x1 x2 (x3 + (1 : Int32))))

def sX4_countWithStatus (n : Nat) (g : Mem) (k0 : Nat) (x1 : Int32) : Option (Int32) := sX4_countWithStatus_4 n g n k0 x1 (0 : Int32) (0 : Int32)

def sX4_sumOfWaits_4 (n : Nat) (g : Mem) : Nat → Nat → Int32 → Int32 → Option (Int32)
  | 0, _, _, _ => none
  | f + 1, k0, x1, x2 => if (g k0 0) ≤ x2 then (some x1) else (sIdx x2 40 fun _ => if (g (k0 + 2) x2.toNatClampNeg) = (2 : Int32) then (sIdx x2 40 fun _ => sIdx x2 40 fun _ => sX4_sumOfWaits_4 n g f k0 (x1 + ((g (k0 + 5) x2.toNatClampNeg) - (g (k0 + 4) x2.toNatClampNeg))) (x2 + (1 : Int32))) else (sX4_sumOfWaits_4 n g f k0 x1 (x2 + (1 : Int32))))

def sX4_sumOfWaits (n : Nat) (g : Mem) (k0 : Nat) : Option (Int32) := sX4_sumOfWaits_4 n g n k0 (0 : Int32) (0 : Int32)

def sX4_areInverted_30 (g : Mem) (k0 : Nat) (x1 : Int32) (x2 : Int32) : Option (Int32) := sIdx x1 40 fun _ => sIdx x2 40 fun _ => if (g (k0 + 4) x2.toNatClampNeg) < (g (k0 + 5) x1.toNatClampNeg) then (some (0 : Int32)) else (sIdx x1 40 fun _ => sIdx x2 40 fun _ => if (g (k0 + 3) x1.toNatClampNeg) < (g (k0 + 3) x2.toNatClampNeg) then (some (0 : Int32)) else (some (1 : Int32)))

def sX4_areInverted (g : Mem) (k0 : Nat) (x1 : Int32) (x2 : Int32) : Option (Int32) := sIdx x1 40 fun _ => if (g (k0 + 2) x1.toNatClampNeg) = (2 : Int32) then (sIdx x2 40 fun _ => if (g (k0 + 2) x2.toNatClampNeg) = (1 : Int32) then (sX4_areInverted_30 g k0 x1 x2) else (sIdx x2 40 fun _ => if (g (k0 + 2) x2.toNatClampNeg) = (2 : Int32) then (sX4_areInverted_30 g k0 x1 x2) else (some (0 : Int32)))) else (some (0 : Int32))

def sX4_countInversions_14 (n : Nat) (g : Mem) (rec4 : Nat → Int32 → Int32 → Option (Int32)) : Nat → Nat → Int32 → Int32 → Int32 → Option (Int32)
  | 0, _, _, _, _ => none
  | f + 1, k0, x1, x2, x3 => if (g k0 0) ≤ x3 then (rec4 k0 x1 (x2 + (1 : Int32))) else (sBi (sX4_areInverted g k0 x2 x3) fun r4 => if r4 = 0 then (sX4_countInversions_14 n g rec4 f k0 x1 x2 (x3 + (1 : Int32))) else (sX4_countInversions_14 n g rec4 f k0 (x1 + (1 : Int32)) x2 (x3 + (1 : Int32))))

def sX4_countInversions_4 (n : Nat) (g : Mem) : Nat → Nat → Int32 → Int32 → Option (Int32)
  | 0, _, _, _ => none
  | f + 1, k0, x1, x2 => if (g k0 0) ≤ x2 then (some x1) else (sX4_countInversions_14 n g (sX4_countInversions_4 n g f) n k0 x1 x2 (0 : Int32))

def sX4_countInversions (n : Nat) (g : Mem) (k0 : Nat) : Option (Int32) := sX4_countInversions_4 n g n k0 (0 : Int32) (0 : Int32)

def sX2_copyFrom_26 (n : Nat) : Nat → Mem → Nat → Nat → Int32 → Option (Mem)
  | 0, _, _, _, _ => none
  | f + 1, g, k0, k1, x2 => if (3 : Int32) ≤ x2 then (sBi (sX5_copyFrom n g (k0 + 5) (k1 + 5)) fun g4 => sBi (sX4_copyFrom g4 (k0 + 9) (k1 + 9)) fun g7 => some g7) else (sIdx x2 3 fun _ => sIdx x2 3 fun _ => sBi (sX1_copyFrom g (k0 + 1 + 1 + x2.toNatClampNeg) (k1 + 1 + 1 + x2.toNatClampNeg)) fun g12 => sX2_copyFrom_26 n f g12 k0 k1 (x2 + (1 : Int32)))

def sX2_copyFrom (n : Nat) (g : Mem) (k0 : Nat) (k1 : Nat) : Option (Mem) := sLet (mput g k0 0 (g k1 0)) fun g1 => sLet (mput g1 k0 1 (g1 k1 1)) fun g2 => sLet (mput g2 k0 2 (g2 k1 2)) fun g3 => sX2_copyFrom_26 n n g3 k0 k1 (0 : Int32)

def sX2_canBegin (g : Mem) (k0 : Nat) : Option (Int32) := if (40 : Int32) ≤ (g (k0 + 9) 0) then (some (0 : Int32)) else (some (1 : Int32))

def sX2_beginAt (n : Nat) (g : Mem) (k0 : Nat) (x1 : Int32) : Option (Int32 × Mem) := sBi2 (sX4_add n g (k0 + 9) x1) fun r3 g4 => some (r3, g4)

def sX2_readKey (g : Mem) (k0 : Nat) (x1 : Int32) (x2 : Int32) : Option (Int32 × Mem) := sBi (sX4_hasWritten g (k0 + 9) x1 x2) fun r3 => if r3 = 0 then (sBi (sX4_hasRead g (k0 + 9) x1 x2) fun r7 => if r7 = 0 then (sBi (sX5_newest g (k0 + 5) x2) fun r17 => sBi (sX4_recordVersion g (k0 + 9) x1 x2 r17) fun g20 => sBi (sX4_recordedVersion g20 (k0 + 9) x1 x2) fun r23 => sBi (sX5_valueOfVersion g20 (k0 + 5) x2 r23) fun r26 => some (r26, g20)) else (sBi (sX4_recordedVersion g (k0 + 9) x1 x2) fun r11 => sBi (sX5_valueOfVersion g (k0 + 5) x2 r11) fun r14 => some (r14, g))) else (sBi (sX4_bufferOf g (k0 + 9) x1 x2) fun r29 => some (r29, g))

def sX2_writeKey (n : Nat) (g : Mem) (k0 : Nat) (x1 : Int32) (x2 : Int32) (x3 : Int32) : Option (Int32 × Mem) := sBi (sX4_bufferValue g (k0 + 9) x1 x2 x3) fun g3 => sBi (sX4_writtenKeys n g3 (k0 + 9) x1) fun r6 => some (r6, g3)

def sX2_hasConflict_2 (n : Nat) (g : Mem) : Nat → Nat → Int32 → Int32 → Option (Int32)
  | 0, _, _, _ => none
  | f + 1, k0, x1, x2 => if (8 : Int32) ≤ x2 then (some (0 : Int32)) else (sBi (sX4_hasRead g (k0 + 9) x1 x2) fun r4 => if r4 = 0 then (sX2_hasConflict_2 n g f k0 x1 (x2 + (1 : Int32))) else (sBi (sX4_recordedVersion g (k0 + 9) x1 x2) fun r8 => sBi (sX5_newest g (k0 + 5) x2) fun r11 => if r8 = r11 then (sX2_hasConflict_2 n g f k0 x1 (x2 + (1 : Int32))) else (some (1 : Int32))))

def sX2_hasConflict (n : Nat) (g : Mem) (k0 : Nat) (x1 : Int32) : Option (Int32) := sX2_hasConflict_2 n g n k0 x1 (0 : Int32)

def sX2_nextTimestampOf (g : Mem) (k0 : Nat) (x1 : Int32) : Option (Int32) := sIdx x1 3 fun _ => sIdx x1 3 fun _ => sBi (sX1_latestAt g (k0 + 1 + 1 + x1.toNatClampNeg) (g k0 0)) fun r5 => some (sMax r5 ((1 : Int32) + (sMax (g (k0 + 1 + 1 + x1.toNatClampNeg) 6) (g k0 1))))

def sX2_commitOutcome_82 (n : Nat) (g : Mem) (rec41 : Nat → Int32 → Int32 → Int32 → Option (Int32)) (k0 : Nat) (x1 : Int32) (x2 : Int32) (x3 : Int32) : Option (Int32) := sBi (sX4_hasWritten g (k0 + 9) x1 x3) fun r3 => if r3 = 0 then (rec41 k0 x1 x2 (x3 + (1 : Int32))) else (sBi (sX4_greatestReaderTimestamp n g (k0 + 9) x3) fun r7 => rec41 k0 x1 (sMax x2 ((1 : Int32) + r7)) (x3 + (1 : Int32)))

def sX2_commitOutcome_41 (n : Nat) (g : Mem) : Nat → Nat → Int32 → Int32 → Int32 → Option (Int32)
  | 0, _, _, _, _ => none
  | f + 1, k0, x1, x2, x3 => if (8 : Int32) ≤ x3 then (some x2) else (sBi (sX4_hasTouched g (k0 + 9) x1 x3) fun r4 => if r4 = 0 then (sX2_commitOutcome_82 n g (sX2_commitOutcome_41 n g f) k0 x1 x2 x3) else (sBi (sX5_newest g (k0 + 5) x3) fun r8 => sBi (sX5_timestampOf g (k0 + 5) x3 r8) fun r11 => sX2_commitOutcome_82 n g (sX2_commitOutcome_41 n g f) k0 x1 (sMax x2 ((1 : Int32) + r11)) x3))

def sX2_commitOutcome (n : Nat) (g : Mem) (k0 : Nat) (x1 : Int32) : Option (Int32) := sBi (sX2_hasConflict n g k0 x1) fun r3 => if r3 = 0 then (sBi (sX4_isLockedOut n g (k0 + 9) x1) fun r7 => if r7 = 0 then (sIdx x1 40 fun _ => sBi (sX2_nextTimestampOf g k0 (g ((k0 + 9) + 1) x1.toNatClampNeg)) fun r12 => sX2_commitOutcome_41 n g n k0 x1 r12 (0 : Int32)) else (some (-3 : Int32))) else (some (-2 : Int32))

def sX2_makeAborted (n : Nat) (g : Mem) (k0 : Nat) (x1 : Int32) : Option (Int32 × Mem) := sIdx x1 40 fun _ => sLet (mput g ((k0 + 9) + 2) x1.toNatClampNeg (3 : Int32)) fun g2 => sBi (sX4_writtenKeys n g2 (k0 + 9) x1) fun r5 => some (r5, g2)

def sX2_makeWaiting (g : Mem) (k0 : Nat) (x1 : Int32) (x2 : Int32) : Option (Mem) := sIdx x1 40 fun _ => sIdx x1 40 fun _ => sLet (mput g ((k0 + 9) + 2) x1.toNatClampNeg (1 : Int32)) fun g3 => sIdx x1 40 fun _ => sLet (mput g3 ((k0 + 9) + 3) x1.toNatClampNeg x2) fun g5 => sIdx x1 40 fun _ => sLet (mput g5 ((k0 + 9) + 4) x1.toNatClampNeg (g5 k0 0)) fun g7 => sIdx (g ((k0 + 9) + 1) x1.toNatClampNeg) 3 fun _ => sLet (mput g7 (k0 + 1 + 1 + (g ((k0 + 9) + 1) x1.toNatClampNeg).toNatClampNeg) 6 x2) fun g9 => sIdx (g ((k0 + 9) + 1) x1.toNatClampNeg) 3 fun _ => sBi (sX1_isSoundAt g9 (k0 + 1 + 1 + (g ((k0 + 9) + 1) x1.toNatClampNeg).toNatClampNeg) (g9 k0 0)) fun r13 => if r13 = 0 then (sLet (mput g9 k0 2 ((g9 k0 2) + (1 : Int32))) fun g15 => some g15) else (sLet (mput g9 k0 2 ((g9 k0 2) + (0 : Int32))) fun g16 => some g16)

def sX2_carryOut (n : Nat) (g : Mem) (k0 : Nat) (x1 : Int32) (x2 : Int32) : Option (Mem) := if x1 = (-2 : Int32) then (sBi2 (sX2_makeAborted n g k0 x2) fun r8 g9 => some g9) else (if x1 = (-3 : Int32) then (some g) else (sBi (sX2_makeWaiting g k0 x2 x1) fun g5 => some g5))

def sX2_makeCommitted_22 (n : Nat) : Nat → Mem → Nat → Int32 → Int32 → Int32 → Option (Mem)
  | 0, _, _, _, _, _ => none
  | f + 1, g, k0, x1, x2, x3 => if (8 : Int32) ≤ x3 then (sIdx x1 40 fun _ => sIdx (g ((k0 + 9) + 1) x1.toNatClampNeg) 3 fun _ => sBi (sX1_isSoundAt g (k0 + 1 + 1 + (g ((k0 + 9) + 1) x1.toNatClampNeg).toNatClampNeg) x2) fun r6 => if r6 = 0 then (sLet (mput g k0 2 ((g k0 2) + (1 : Int32))) fun g8 => some g8) else (sLet (mput g k0 2 ((g k0 2) + (0 : Int32))) fun g9 => some g9)) else (sBi (sX4_hasWritten g (k0 + 9) x1 x3) fun r12 => if r12 = 0 then (sX2_makeCommitted_22 n f g k0 x1 x2 (x3 + (1 : Int32))) else (sIdx x1 40 fun _ => sBi (sX4_bufferOf g (k0 + 9) x1 x3) fun r17 => sBi (sX5_add g (k0 + 5) x3 (g ((k0 + 9) + 3) x1.toNatClampNeg) r17) fun g20 => sX2_makeCommitted_22 n f g20 k0 x1 x2 (x3 + (1 : Int32))))

def sX2_makeCommitted (n : Nat) (g : Mem) (k0 : Nat) (x1 : Int32) (x2 : Int32) : Option (Mem) := sIdx x1 40 fun _ => sLet (mput g ((k0 + 9) + 2) x1.toNatClampNeg (2 : Int32)) fun g2 => sIdx x1 40 fun _ => sLet (mput g2 ((k0 + 9) + 5) x1.toNatClampNeg x2) fun g4 => sX2_makeCommitted_22 n n g4 k0 x1 x2 (0 : Int32)

def sX2_canAdvance (g : Mem) (k0 : Nat) (x1 : Int32) : Option (Int32) := if (1000000 : Int32) < ((g k0 0) + x1) then (some (0 : Int32)) else (some (1 : Int32))

def sX2_ticksUntilCommitted_18 (n : Nat) (g : Mem) : Nat → Nat → Int32 → Int32 → Nat → Int32 → Option (Int32)
  | 0, _, _, _, _, _ => none
  | f + 1, k0, x1, x2, k3, x4 => if x2 < x4 then (some (x2 + (1 : Int32))) else (sIdx x1 40 fun _ => sBi (sX1_earliestAt g k3 ((g k0 0) + x4)) fun r5 => if 0 ≤ ((g ((k0 + 9) + 3) x1.toNatClampNeg) - r5) then (sX2_ticksUntilCommitted_18 n g f k0 x1 x2 k3 (x4 + ((1 : Int32) + (((g ((k0 + 9) + 3) x1.toNatClampNeg) - r5) / (2 : Int32))))) else (some x4))

def sX2_ticksUntilCommitted (n : Nat) (g : Mem) (k0 : Nat) (x1 : Int32) (x2 : Int32) : Option (Int32) := sIdx x1 40 fun _ => sIdx (g ((k0 + 9) + 1) x1.toNatClampNeg) 3 fun _ => sX2_ticksUntilCommitted_18 n g n k0 x1 x2 (k0 + 1 + 1 + (g ((k0 + 9) + 1) x1.toNatClampNeg).toNatClampNeg) (1 : Int32)

def sX2_advanceBy_4 (n : Nat) : Nat → Mem → Nat → Int32 → Int32 → Int32 → Option (Int32 × Mem)
  | 0, _, _, _, _, _ => none
  | f + 1, g, k0, x1, x2, x3 => if (g (k0 + 9) 0) ≤ x3 then (sLet (mput g k0 0 ((g k0 0) + x1)) fun g2 => some (x2, g2)) else (sIdx x3 40 fun _ => if (g ((k0 + 9) + 2) x3.toNatClampNeg) = (1 : Int32) then (sBi (sX2_ticksUntilCommitted n g k0 x3 x1) fun r7 => if x1 < r7 then (sX2_advanceBy_4 n f g k0 x1 x2 (x3 + (1 : Int32))) else (sBi (sX2_makeCommitted n g k0 x3 ((g k0 0) + r7)) fun g11 => sX2_advanceBy_4 n f g11 k0 x1 (x2 + (1 : Int32)) (x3 + (1 : Int32)))) else (sX2_advanceBy_4 n f g k0 x1 x2 (x3 + (1 : Int32))))

def sX2_advanceBy (n : Nat) (g : Mem) (k0 : Nat) (x1 : Int32) : Option (Int32 × Mem) := sX2_advanceBy_4 n n g k0 x1 (0 : Int32) (0 : Int32)

def sX2_synchronizeClock (g : Mem) (k0 : Nat) (x1 : Int32) (x2 : Int32) : Option (Int32 × Mem) := sIdx x1 3 fun _ => sBi (sX1_offsetAt g (k0 + 1 + 1 + x1.toNatClampNeg) (g k0 0)) fun r4 => sIdx x1 3 fun _ => sBi (sX1_setOffset g (k0 + 1 + 1 + x1.toNatClampNeg) x2 (g k0 0)) fun g8 => some ((x2 - r4), g8)

def sX2_safeTimeNow_35 (n : Nat) (g : Mem) : Nat → Nat → Int32 → Int32 → Option (Int32)
  | 0, _, _, _ => none
  | f + 1, k0, x1, x2 => if (g (k0 + 9) 0) ≤ x2 then (some x1) else (sIdx x2 40 fun _ => if (g ((k0 + 9) + 2) x2.toNatClampNeg) = (1 : Int32) then (sIdx x2 40 fun _ => sX2_safeTimeNow_35 n g f k0 (sMin x1 ((g ((k0 + 9) + 3) x2.toNatClampNeg) - (1 : Int32))) (x2 + (1 : Int32))) else (sX2_safeTimeNow_35 n g f k0 x1 (x2 + (1 : Int32))))

def sX2_safeTimeNow_10 (n : Nat) (g : Mem) : Nat → Nat → Int32 → Int32 → Option (Int32)
  | 0, _, _, _ => none
  | f + 1, k0, x1, x2 => if (3 : Int32) ≤ x2 then (sX2_safeTimeNow_35 n g n k0 x1 (0 : Int32)) else (sBi (sX2_nextTimestampOf g k0 x2) fun r4 => sX2_safeTimeNow_10 n g f k0 (sMin x1 (r4 - (1 : Int32))) (x2 + (1 : Int32)))

def sX2_safeTimeNow (n : Nat) (g : Mem) (k0 : Nat) : Option (Int32) := sBi (sX2_nextTimestampOf g k0 (0 : Int32)) fun r3 => sX2_safeTimeNow_10 n g n k0 (r3 - (1 : Int32)) (1 : Int32)

def sX2_ticksUntilSafeAt_51 (n : Nat) (g : Mem) : Nat → Nat → Int32 → Int32 → Int32 → Int32 → Option (Int32)
  | 0, _, _, _, _, _ => none
  | f + 1, k0, x1, x2, x3, x4 => if (g (k0 + 9) 0) ≤ x4 then (some x3) else (sIdx x4 40 fun _ => if (g ((k0 + 9) + 2) x4.toNatClampNeg) = (1 : Int32) then (sIdx x4 40 fun _ => if x1 < (g ((k0 + 9) + 3) x4.toNatClampNeg) then (sX2_ticksUntilSafeAt_51 n g f k0 x1 x2 x3 (x4 + (1 : Int32))) else (sBi (sX2_ticksUntilCommitted n g k0 x4 x2) fun r8 => sX2_ticksUntilSafeAt_51 n g f k0 x1 x2 (sMax x3 r8) (x4 + (1 : Int32)))) else (sX2_ticksUntilSafeAt_51 n g f k0 x1 x2 x3 (x4 + (1 : Int32))))

def sX2_ticksUntilSafeAt_5 (n : Nat) (g : Mem) : Nat → Nat → Int32 → Int32 → Int32 → Int32 → Option (Int32)
  | 0, _, _, _, _, _ => none
  | f + 1, k0, x1, x2, x3, x4 => if (3 : Int32) ≤ x4 then (sX2_ticksUntilSafeAt_51 n g n k0 x1 x2 x3 (0 : Int32)) else (sBi (sX2_nextTimestampOf g k0 x4) fun r4 => if x1 < r4 then (sX2_ticksUntilSafeAt_5 n g f k0 x1 x2 x3 (x4 + (1 : Int32))) else (sIdx x4 3 fun _ => sBi (sX1_ticksUntilLatestPasses n g (k0 + 1 + 1 + x4.toNatClampNeg) x1 (g k0 0) x2) fun r9 => sX2_ticksUntilSafeAt_5 n g f k0 x1 x2 (sMax x3 r9) (x4 + (1 : Int32))))

def sX2_ticksUntilSafeAt (n : Nat) (g : Mem) (k0 : Nat) (x1 : Int32) (x2 : Int32) : Option (Int32) := sX2_ticksUntilSafeAt_5 n g n k0 x1 x2 (0 : Int32) (0 : Int32)

def sX0_push (n : Nat) (g : Mem) (k1 : Nat) : Option (Mem) := sIdx (g 153 1) 6 fun _ => sBi (sX2_copyFrom n g (17 * ((g 153 1).toNatClampNeg + 1)) k1) fun g4 => sLet (mput g4 153 1 (((g4 153 1) + (1 : Int32)) - ((g4 153 1) + (1 : Int32)) / (6 : Int32) * (6 : Int32))) fun g5 => sLet (mput g5 153 0 (sMin ((g5 153 0) + (1 : Int32)) (6 : Int32))) fun g6 => some g6

def sX0_popInto (n : Nat) (g : Mem) (k1 : Nat) : Option (Mem) := sLet (mput g 153 1 ((((g 153 1) + (6 : Int32)) - (1 : Int32)) - (((g 153 1) + (6 : Int32)) - (1 : Int32)) / (6 : Int32) * (6 : Int32))) fun g1 => sLet (mput g1 153 0 ((g1 153 0) - (1 : Int32))) fun g2 => sIdx (g2 153 1) 6 fun _ => sBi (sX2_copyFrom n g2 k1 (17 * ((g2 153 1).toNatClampNeg + 1))) fun g6 => some g6

def sJ0_isLatin1_aae02 (g : Mem) : Option (Int32) := some (1 : Int32)

def sJ0_coder_7d493 (g : Mem) : Option (Int32) := some (0 : Int32)

def sJ0_length_8abf5 (g : Mem) : Option (Int32) := sBi (sJ0_coder_7d493 g) fun r3 => some ((7 : Int32) >>> ((0 : Int32) &&& 31))

def sJ1_canEncode_9a6ad (g : Mem) (x0 : Int32) : Option (Int32) := if x0 < 0 then (some (0 : Int32)) else (if (255 : Int32) < x0 then (some (0 : Int32)) else (some (1 : Int32)))

def sJ1_indexOfChar_4cfef_7 (n : Nat) (g : Mem) : Nat → Int32 → Int32 → Int32 → Option (Int32)
  | 0, _, _, _ => none
  | f + 1, x3, x4, x5 => if x3 ≤ x5 then (some (-1 : Int32)) else (sIdx x5 7 fun _ => if (gByt.getD x5.toNatClampNeg 0) = x4 then (some x5) else (sJ1_indexOfChar_4cfef_7 n g f x3 x4 (x5 + (1 : Int32))))

def sJ1_indexOfChar_4cfef (n : Nat) (g : Mem) (x1 : Int32) (x2 : Int32) (x3 : Int32) : Option (Int32) := sJ1_indexOfChar_4cfef_7 n g n x3 x1.toInt8.toInt32 x2

def sJ1_indexOf_4cfef (n : Nat) (g : Mem) (x1 : Int32) (x2 : Int32) (x3 : Int32) : Option (Int32) := sBi (sJ1_canEncode_9a6ad g x1) fun r3 => if r3 = 0 then (some (-1 : Int32)) else (if (sMax x2 (0 : Int32)) < (sMin x3 (7 : Int32)) then (sBi (sJ1_indexOfChar_4cfef n g x1 (sMax x2 (0 : Int32)) (sMin x3 (7 : Int32))) fun r8 => some r8) else (some (-1 : Int32)))

def sJ0_indexOf_7cf53 (n : Nat) (g : Mem) (x1 : Int32) (x2 : Int32) : Option (Int32) := sBi (sJ0_isLatin1_aae02 g) fun r3 => sBi (sJ0_length_8abf5 g) fun r7 => sBi (sJ1_indexOf_4cfef n g x1 x2 (7 : Int32)) fun r10 => some r10

def sJ0_indexOf_0f7a4 (n : Nat) (g : Mem) (x1 : Int32) : Option (Int32) := sBi (sJ0_indexOf_7cf53 n g x1 (0 : Int32)) fun r3 => some r3

def sX3_isFull (g : Mem) : Option (Int32) := if (g 157 0) < (80 : Int32) then (some (0 : Int32)) else (some (1 : Int32))

def sX3_append (g : Mem) (x1 : Int32) : Option (Mem) := sIdx (g 157 0) 80 fun _ => sLet (mput g 159 (g 157 0).toNatClampNeg (vp_nar .char x1)) fun g2 => sLet (mput g2 157 0 ((g2 157 0) + (1 : Int32))) fun g3 => some g3

def sX3_rewind (g : Mem) : Option (Mem) := sLet (mput g 157 3 (0 : Int32)) fun g1 => some g1

def sX3_digitHere (g : Mem) : Option (Int32) := if (g 157 0) ≤ (g 157 3) then (some (-1 : Int32)) else (sIdx (g 157 3) 80 fun _ => if (g 159 (g 157 3).toNatClampNeg) < (48 : Int32) then (some (-1 : Int32)) else (sIdx (g 157 3) 80 fun _ => if (g 159 (g 157 3).toNatClampNeg) ≤ (57 : Int32) then (sIdx (g 157 3) 80 fun _ => some ((g 159 (g 157 3).toNatClampNeg) - (48 : Int32))) else (some (-1 : Int32))))

def sX3_readNumber_30 (n : Nat) : Nat → Mem → Int32 → Int32 → Int32 → Option (Int32 × Mem)
  | 0, _, _, _, _ => none
  | f + 1, g, x1, x3, x4 => if (g 157 0) ≤ (g 157 3) then (sIdx x1 3 fun _ => sLet (mput g 158 x1.toNatClampNeg x4) fun g3 => some ((1 : Int32), g3)) else (sBi (sX3_digitHere g) fun r6 => if r6 = (-1 : Int32) then (sIdx x1 3 fun _ => sLet (mput g 158 x1.toNatClampNeg x4) fun g9 => some ((1 : Int32), g9)) else (if x4 = 0 then (sIdx x1 3 fun _ => sLet (mput g 158 x1.toNatClampNeg x4) fun g12 => some ((1 : Int32), g12)) else (if (((10 : Int32) * x4) + r6) ≤ x3 then (sLet (mput g 157 3 ((g 157 3) + (1 : Int32))) fun g14 => sX3_readNumber_30 n f g14 x1 x3 (((10 : Int32) * x4) + r6)) else (sIdx x1 3 fun _ => sLet (mput g 158 x1.toNatClampNeg x4) fun g16 => some ((1 : Int32), g16)))))

def sX3_readNumber (n : Nat) (g : Mem) (x1 : Int32) (x2 : Int32) (x3 : Int32) : Option (Int32 × Mem) := sBi (sX3_digitHere g) fun r3 => if r3 < x2 then (some ((0 : Int32), g)) else (if r3 ≤ x3 then (sLet (mput g 157 3 ((g 157 3) + (1 : Int32))) fun g6 => sX3_readNumber_30 n n g6 x1 x3 r3) else (some ((0 : Int32), g)))

def sX3_take (g : Mem) (x1 : Int32) : Option (Int32 × Mem) := if (g 157 0) ≤ (g 157 3) then (some ((0 : Int32), g)) else (sIdx (g 157 3) 80 fun _ => if (g 159 (g 157 3).toNatClampNeg) = x1 then (sLet (mput g 157 3 ((g 157 3) + (1 : Int32))) fun g4 => some ((1 : Int32), g4)) else (some ((0 : Int32), g)))

def sX3_readOffset (n : Nat) (g : Mem) : Option (Int32 × Mem) := sBi2 (sX3_take g (45 : Int32)) fun r3 g4 => if r3 = 0 then (sBi2 (sX3_readNumber n g4 (1 : Int32) (0 : Int32) (500 : Int32)) fun r16 g17 => some (r16, g17)) else (sBi2 (sX3_readNumber n g4 (1 : Int32) (1 : Int32) (500 : Int32)) fun r8 g9 => if r8 = 0 then (some ((0 : Int32), g9)) else (sIdx (1 : Int32) 3 fun _ => sIdx (1 : Int32) 3 fun _ => sLet (mput g9 158 (1 : Int32).toNatClampNeg (-(g9 158 (1 : Int32).toNatClampNeg))) fun g13 => some ((1 : Int32), g13)))

def sX3_readTransactionAndKey (n : Nat) (g : Mem) : Option (Int32 × Mem) := sBi2 (sX3_readNumber n g (0 : Int32) (0 : Int32) (39 : Int32)) fun r3 g4 => if r3 = 0 then (some ((0 : Int32), g4)) else (sBi2 (sX3_take g4 (44 : Int32)) fun r8 g9 => if r8 = 0 then (some ((0 : Int32), g9)) else (sBi2 (sX3_readNumber n g9 (1 : Int32) (0 : Int32) (7 : Int32)) fun r13 g14 => if r13 = 0 then (some ((0 : Int32), g14)) else (some ((1 : Int32), g14))))

def sX3_readArguments (n : Nat) (g : Mem) : Option (Int32 × Mem) := if (g 157 1) = 98 then (sBi2 (sX3_readNumber n g (0 : Int32) (0 : Int32) (2 : Int32)) fun r4 g5 => some (r4, g5)) else (if (g 157 1) = 114 then (sBi2 (sX3_readTransactionAndKey n g) fun r9 g10 => some (r9, g10)) else (if (g 157 1) = 115 then (sBi2 (sX3_readNumber n g (0 : Int32) (0 : Int32) (2 : Int32)) fun r14 g15 => if r14 = 0 then (some ((0 : Int32), g15)) else (sBi2 (sX3_take g15 (44 : Int32)) fun r19 g20 => if r19 = 0 then (some ((0 : Int32), g20)) else (sBi2 (sX3_readOffset n g20) fun r24 g25 => if r24 = 0 then (some ((0 : Int32), g25)) else (some ((1 : Int32), g25))))) else (if (g 157 1) = 116 then (sBi2 (sX3_readNumber n g (0 : Int32) (1 : Int32) (1000 : Int32)) fun r30 g31 => some (r30, g31)) else (if (g 157 1) = 119 then (sBi2 (sX3_readTransactionAndKey n g) fun r35 g36 => if r35 = 0 then (some ((0 : Int32), g36)) else (sBi2 (sX3_take g36 (44 : Int32)) fun r40 g41 => if r40 = 0 then (some ((0 : Int32), g41)) else (sBi2 (sX3_readNumber n g41 (2 : Int32) (0 : Int32) (9999 : Int32)) fun r45 g46 => if r45 = 0 then (some ((0 : Int32), g46)) else (some ((1 : Int32), g46))))) else (sBi2 (sX3_readNumber n g (0 : Int32) (0 : Int32) (39 : Int32)) fun r50 g51 => some (r50, g51))))))

def sX3_readCommand (n : Nat) (g : Mem) : Option (Int32 × Mem) := if (g 157 0) ≤ (g 157 3) then (some ((0 : Int32), g)) else (sIdx (g 157 3) 80 fun _ => sBi (sJ0_indexOf_0f7a4 n g (g 159 (g 157 3).toNatClampNeg)) fun r5 => if 0 ≤ r5 then (sIdx (g 157 3) 80 fun _ => sLet (mput g 157 1 (g 159 (g 157 3).toNatClampNeg)) fun g8 => sLet (mput g8 157 3 ((g8 157 3) + (1 : Int32))) fun g9 => sBi2 (sX3_readArguments n g9) fun r12 g13 => some (r12, g13)) else (some ((0 : Int32), g)))

def sX3_findError_6 (n : Nat) : Nat → Mem → Int32 → Option (Int32 × Mem)
  | 0, _, _ => none
  | f + 1, g, x1 => if (g 157 0) ≤ x1 then (some ((g 157 3), g)) else (sBi2 (sX3_readCommand n g) fun r4 g5 => if r4 = 0 then (some ((g5 157 3), g5)) else (if (g5 157 3) = (g5 157 0) then (some ((-1 : Int32), g5)) else (sBi2 (sX3_take g5 (59 : Int32)) fun r10 g11 => if r10 = 0 then (some ((g11 157 3), g11)) else (sX3_findError_6 n f g11 (x1 + (1 : Int32))))))

def sX3_findError (n : Nat) (g : Mem) : Option (Int32 × Mem) := sBi (sX3_rewind g) fun g3 => sX3_findError_6 n n g3 (0 : Int32)

def sX3_readNextCommand (n : Nat) (g : Mem) : Option (Int32 × Mem) := sBi2 (sX3_take g (59 : Int32)) fun r3 g4 => sBi2 (sX3_readCommand n g4) fun r7 g8 => some (r7, g8)

def sX6_requireServer (g : Mem) (x1 : Int32) : Option (Nat) := if x1 < 0 then (some 1) else (if x1 < (3 : Int32) then (some 0) else (some 1))

def sX6_begin (n : Nat) (g : Mem) (x1 : Int32) : Option (Nat × Int32 × Mem) := sReq (sX6_requireServer g x1) (fun ec => some (ec, 0, g)) (sBi (sX2_canBegin g 0) fun r6 => if r6 = 0 then (some (3, 0, g)) else (sBi (sX0_push n g 0) fun g10 => sBi2 (sX2_beginAt n g10 0 x1) fun r13 g14 => some (0, r13, g14)))

def sX6_requireTransaction (g : Mem) (x1 : Int32) : Option (Nat) := if x1 < 0 then (some 1) else (if x1 < (g (0 + 9) 0) then (some 0) else (some 1))

def sX6_requireKey (g : Mem) (x1 : Int32) : Option (Nat) := if x1 < 0 then (some 1) else (if x1 < (8 : Int32) then (some 0) else (some 1))

def sX6_requireOpen (g : Mem) (x1 : Int32) : Option (Nat) := sBi (sX4_isOpen g (0 + 9) x1) fun r3 => if r3 = 0 then (some 3) else (some 0)

def sX6_read (n : Nat) (g : Mem) (x1 : Int32) (x2 : Int32) : Option (Nat × Int32 × Mem) := sReq (sX6_requireTransaction g x1) (fun ec => some (ec, 0, g)) (sReq (sX6_requireKey g x2) (fun ec => some (ec, 0, g)) (sReq (sX6_requireOpen g x1) (fun ec => some (ec, 0, g)) (sBi (sX0_push n g 0) fun g12 => sBi2 (sX2_readKey g12 0 x1 x2) fun r15 g16 => some (0, r15, g16))))

def sX6_requireRange (g : Mem) (x1 : Int32) (x2 : Int32) (x3 : Int32) : Option (Nat) := if x1 < x2 then (some 2) else (if x1 ≤ x3 then (some 0) else (some 2))

def sX6_write (n : Nat) (g : Mem) (x1 : Int32) (x2 : Int32) (x3 : Int32) : Option (Nat × Int32 × Mem) := sReq (sX6_requireTransaction g x1) (fun ec => some (ec, 0, g)) (sReq (sX6_requireKey g x2) (fun ec => some (ec, 0, g)) (sReq (sX6_requireRange g x3 (0 : Int32) (9999 : Int32)) (fun ec => some (ec, 0, g)) (sReq (sX6_requireOpen g x1) (fun ec => some (ec, 0, g)) (sBi (sX0_push n g 0) fun g15 => sBi2 (sX2_writeKey n g15 0 x1 x2 x3) fun r18 g19 => some (0, r18, g19)))))

def sX6_commit (n : Nat) (g : Mem) (x1 : Int32) : Option (Nat × Int32 × Mem) := sReq (sX6_requireTransaction g x1) (fun ec => some (ec, 0, g)) (sReq (sX6_requireOpen g x1) (fun ec => some (ec, 0, g)) (sBi (sX2_commitOutcome n g 0 x1) fun r9 => if r9 = (-3 : Int32) then (some (0, r9, g)) else (sBi (sX0_push n g 0) fun g13 => sBi (sX2_carryOut n g13 0 r9 x1) fun g16 => some (0, r9, g16))))

def sX6_abort (n : Nat) (g : Mem) (x1 : Int32) : Option (Nat × Int32 × Mem) := sReq (sX6_requireTransaction g x1) (fun ec => some (ec, 0, g)) (sReq (sX6_requireOpen g x1) (fun ec => some (ec, 0, g)) (sBi (sX0_push n g 0) fun g9 => sBi2 (sX2_makeAborted n g9 0 x1) fun r12 g13 => some (0, r12, g13)))

def sX6_advance (n : Nat) (g : Mem) (x1 : Int32) : Option (Nat × Int32 × Mem) := sReq (sX6_requireRange g x1 (1 : Int32) (1000 : Int32)) (fun ec => some (ec, 0, g)) (sBi (sX2_canAdvance g 0 x1) fun r6 => if r6 = 0 then (some (3, 0, g)) else (sBi (sX0_push n g 0) fun g10 => sBi2 (sX2_advanceBy n g10 0 x1) fun r13 g14 => some (0, r13, g14)))

def sX6_synchronize (n : Nat) (g : Mem) (x1 : Int32) (x2 : Int32) : Option (Nat × Int32 × Mem) := sReq (sX6_requireServer g x1) (fun ec => some (ec, 0, g)) (sReq (sX6_requireRange g x2 (-500 : Int32) (500 : Int32)) (fun ec => some (ec, 0, g)) (sBi (sX0_push n g 0) fun g9 => sBi2 (sX2_synchronizeClock g9 0 x1 x2) fun r12 g13 => some (0, r12, g13)))

def sX6_setDrift (n : Nat) (g : Mem) (x1 : Int32) (x2 : Int32) : Option (Nat × Int32 × Mem) := sReq (sX6_requireServer g x1) (fun ec => some (ec, 0, g)) (sReq (sX6_requireRange g x2 (-100 : Int32) (100 : Int32)) (fun ec => some (ec, 0, g)) (sBi (sX0_push n g 0) fun g9 => sIdx x1 3 fun _ => sBi2 (sX1_changeDrift g9 (0 + 1 + 1 + x1.toNatClampNeg) x2 (g9 0 0)) fun r13 g14 => some (0, r13, g14)))

def sX6_setUncertainty (n : Nat) (g : Mem) (x1 : Int32) (x2 : Int32) (x3 : Int32) : Option (Nat × Int32 × Mem) := sReq (sX6_requireServer g x1) (fun ec => some (ec, 0, g)) (sReq (sX6_requireRange g x2 (0 : Int32) (500 : Int32)) (fun ec => some (ec, 0, g)) (sReq (sX6_requireRange g x3 (0 : Int32) (100 : Int32)) (fun ec => some (ec, 0, g)) (sBi (sX0_push n g 0) fun g12 => sIdx x1 3 fun _ => sBi (sX1_changeUncertainty g12 (0 + 1 + 1 + x1.toNatClampNeg) x2 x3) fun g16 => sIdx x1 3 fun _ => sBi (sX1_uncertaintyAt g16 (0 + 1 + 1 + x1.toNatClampNeg) (g16 0 0)) fun r20 => some (0, r20, g16))))

def sX6_requireNotNegative (g : Mem) (x1 : Int32) : Option (Nat) := if 0 ≤ x1 then (some 0) else (some 2)

def sX6_snapshotRead (n : Nat) (g : Mem) (x1 : Int32) (x2 : Int32) : Option (Nat × Int32 × Mem) := sReq (sX6_requireKey g x1) (fun ec => some (ec, 0, g)) (sReq (sX6_requireNotNegative g x2) (fun ec => some (ec, 0, g)) (sBi (sX2_safeTimeNow n g 0) fun r9 => if x2 ≤ r9 then (sBi (sX0_push n g 0) fun g13 => sLet (mput g13 0 1 (sMax (g13 0 1) x2)) fun g14 => sBi (sX5_valueOf n g14 (0 + 5) x1 x2) fun r17 => some (0, r17, g14)) else (some (3, 0, g))))

def sX6_appendText (g : Mem) (x1 : Int32) : Option (Nat × Int32 × Mem) := sReq (sX6_requireRange g x1 (32 : Int32) (126 : Int32)) (fun ec => some (ec, 0, g)) (sBi (sX3_isFull g) fun r6 => if r6 = 0 then (sBi (sX3_append g ((x1.toUInt32 % 65536).toInt32)) fun g10 => some (0, (g10 157 0), g10)) else (some (3, 0, g)))

def sX6_clearText (g : Mem) : Option (Int32 × Mem) := sLet (mput g 157 0 (0 : Int32)) fun g1 => some ((g 157 0), g1)

def sX6_errorPosition (n : Nat) (g : Mem) : Option (Int32 × Mem) := sBi2 (sX3_findError n g) fun r3 g4 => some (r3, g4)

def sX6_canExecute (g : Mem) (x1 : Int32) : Option (Int32) := if (g 157 1) = 98 then (sBi (sX2_canBegin g 0) fun r4 => some r4) else (if (g 157 1) = 115 then (some (1 : Int32)) else (if (g 157 1) = 116 then (sBi (sX2_canAdvance g 0 x1) fun r9 => some r9) else (sBi (sX4_isOpen g (0 + 9) x1) fun r12 => some r12)))

def sX6_executeCommand (n : Nat) (g : Mem) : Option (Int32 × Mem) := sIdx (0 : Int32) 3 fun _ => sBi (sX6_canExecute g (g 158 (0 : Int32).toNatClampNeg)) fun r4 => if r4 = 0 then (some ((0 : Int32), g)) else (if (g 157 1) = 97 then (sBi2 (sX2_makeAborted n g 0 (g 158 (0 : Int32).toNatClampNeg)) fun r9 g10 => some ((1 : Int32), g10)) else (if (g 157 1) = 98 then (sBi2 (sX2_beginAt n g 0 (g 158 (0 : Int32).toNatClampNeg)) fun r14 g15 => some ((1 : Int32), g15)) else (if (g 157 1) = 99 then (sBi (sX2_commitOutcome n g 0 (g 158 (0 : Int32).toNatClampNeg)) fun r19 => sBi (sX2_carryOut n g 0 r19 (g 158 (0 : Int32).toNatClampNeg)) fun g22 => some ((1 : Int32), g22)) else (if (g 157 1) = 114 then (sIdx (1 : Int32) 3 fun _ => sBi2 (sX2_readKey g 0 (g 158 (0 : Int32).toNatClampNeg) (g 158 (1 : Int32).toNatClampNeg)) fun r27 g28 => some ((1 : Int32), g28)) else (if (g 157 1) = 116 then (sBi2 (sX2_advanceBy n g 0 (g 158 (0 : Int32).toNatClampNeg)) fun r32 g33 => some ((1 : Int32), g33)) else (if (g 157 1) = 119 then (sIdx (1 : Int32) 3 fun _ => sIdx (2 : Int32) 3 fun _ => sBi2 (sX2_writeKey n g 0 (g 158 (0 : Int32).toNatClampNeg) (g 158 (1 : Int32).toNatClampNeg) (g 158 (2 : Int32).toNatClampNeg)) fun r39 g40 => some ((1 : Int32), g40)) else (sIdx (1 : Int32) 3 fun _ => sBi2 (sX2_synchronizeClock g 0 (g 158 (0 : Int32).toNatClampNeg) (g 158 (1 : Int32).toNatClampNeg)) fun r44 g45 => some ((1 : Int32), g45))))))))

def sX6_runText_41 (n : Nat) : Nat → Mem → Int32 → Option (Nat × Int32 × Mem)
  | 0, _, _ => none
  | f + 1, g, x1 => if (g 157 0) ≤ x1 then (some (0, x1, g)) else (sBi2 (sX3_readNextCommand n g) fun r4 g5 => if r4 = 0 then (some (0, x1, g5)) else (sBi2 (sX6_executeCommand n g5) fun r9 g10 => if r9 = 0 then (some (0, x1, g10)) else (sX6_runText_41 n f g10 (x1 + (1 : Int32)))))

def sX6_runText (n : Nat) (g : Mem) : Option (Nat × Int32 × Mem) := sBi2 (sX3_findError n g) fun r3 g4 => if r3 = (-1 : Int32) then (sBi (sX0_push n g4 0) fun g8 => sBi (sX3_rewind g8) fun g11 => sX6_runText_41 n n g11 (0 : Int32)) else (some (3, 0, g4))

def sX6_undo (n : Nat) (g : Mem) : Option (Nat × Int32 × Mem) := if (g 153 0) = 0 then (some (3, 0, g)) else (sBi (sX0_popInto n g 0) fun g4 => some (0, (g4 153 0), g4))

def sX6_requireSlot (g : Mem) (x1 : Int32) : Option (Nat) := if x1 < 0 then (some 1) else (if x1 < (2 : Int32) then (some 0) else (some 1))

def sX6_save (n : Nat) (g : Mem) (x1 : Int32) : Option (Nat × Int32 × Mem) := sReq (sX6_requireSlot g x1) (fun ec => some (ec, 0, g)) (sIdx x1 2 fun _ => sBi (sX2_copyFrom n g (17 * (x1.toNatClampNeg + 7)) 0) fun g7 => sIdx x1 2 fun _ => sLet (mput g7 156 x1.toNatClampNeg (1 : Int32)) fun g9 => some (0, (g9 0 0), g9))

def sX6_restore (n : Nat) (g : Mem) (x1 : Int32) : Option (Nat × Int32 × Mem) := sReq (sX6_requireSlot g x1) (fun ec => some (ec, 0, g)) (sIdx x1 2 fun _ => if (g 156 x1.toNatClampNeg) = 0 then (some (3, 0, g)) else (sBi (sX0_push n g 0) fun g8 => sIdx x1 2 fun _ => sBi (sX2_copyFrom n g8 0 (17 * (x1.toNatClampNeg + 7))) fun g12 => some (0, (g12 0 0), g12)))

def sX6_trueTime (g : Mem) : Option (Int32) := some (g 0 0)

def sX6_reading (g : Mem) (x1 : Int32) : Option (Nat × Int32) := sReq (sX6_requireServer g x1) (fun ec => some (ec, 0)) (sIdx x1 3 fun _ => sBi (sX1_offsetAt g (0 + 1 + 1 + x1.toNatClampNeg) (g 0 0)) fun r7 => some (0, ((g 0 0) + r7)))

def sX6_earliest (g : Mem) (x1 : Int32) : Option (Nat × Int32) := sReq (sX6_requireServer g x1) (fun ec => some (ec, 0)) (sIdx x1 3 fun _ => sBi (sX1_earliestAt g (0 + 1 + 1 + x1.toNatClampNeg) (g 0 0)) fun r7 => some (0, r7))

def sX6_latest (g : Mem) (x1 : Int32) : Option (Nat × Int32) := sReq (sX6_requireServer g x1) (fun ec => some (ec, 0)) (sIdx x1 3 fun _ => sBi (sX1_latestAt g (0 + 1 + 1 + x1.toNatClampNeg) (g 0 0)) fun r7 => some (0, r7))

def sX6_isSound (g : Mem) (x1 : Int32) : Option (Nat × Int32) := sReq (sX6_requireServer g x1) (fun ec => some (ec, 0)) (sIdx x1 3 fun _ => sBi (sX1_isSoundAt g (0 + 1 + 1 + x1.toNatClampNeg) (g 0 0)) fun r7 => some (0, r7))

def sX6_nextTimestamp (g : Mem) (x1 : Int32) : Option (Nat × Int32) := sReq (sX6_requireServer g x1) (fun ec => some (ec, 0)) (sBi (sX2_nextTimestampOf g 0 x1) fun r6 => some (0, r6))

def sX6_transactions (g : Mem) : Option (Int32) := some (g (0 + 9) 0)

def sX6_state (g : Mem) (x1 : Int32) : Option (Nat × Int32) := sReq (sX6_requireTransaction g x1) (fun ec => some (ec, 0)) (sIdx x1 40 fun _ => some (0, (g ((0 + 9) + 2) x1.toNatClampNeg)))

def sX6_timestamp (g : Mem) (x1 : Int32) : Option (Nat × Int32) := sReq (sX6_requireTransaction g x1) (fun ec => some (ec, 0)) (sIdx x1 40 fun _ => some (0, (g ((0 + 9) + 3) x1.toNatClampNeg)))

def sX6_requestTime (g : Mem) (x1 : Int32) : Option (Nat × Int32) := sReq (sX6_requireTransaction g x1) (fun ec => some (ec, 0)) (sIdx x1 40 fun _ => some (0, (g ((0 + 9) + 4) x1.toNatClampNeg)))

def sX6_commitTime (g : Mem) (x1 : Int32) : Option (Nat × Int32) := sReq (sX6_requireTransaction g x1) (fun ec => some (ec, 0)) (sIdx x1 40 fun _ => some (0, (g ((0 + 9) + 5) x1.toNatClampNeg)))

def sX6_bufferedValue (g : Mem) (x1 : Int32) (x2 : Int32) : Option (Nat × Int32) := sReq (sX6_requireTransaction g x1) (fun ec => some (ec, 0)) (sReq (sX6_requireKey g x2) (fun ec => some (ec, 0)) (sBi (sX4_bufferOf g (0 + 9) x1 x2) fun r9 => some (0, r9)))

def sX6_recordedTimestamp (g : Mem) (x1 : Int32) (x2 : Int32) : Option (Nat × Int32) := sReq (sX6_requireTransaction g x1) (fun ec => some (ec, 0)) (sReq (sX6_requireKey g x2) (fun ec => some (ec, 0)) (sBi (sX4_recordedVersion g (0 + 9) x1 x2) fun r9 => if r9 = (-1 : Int32) then (some (0, (-1 : Int32))) else (sBi (sX5_timestampOf g (0 + 5) x2 r9) fun r13 => some (0, r13))))

def sX6_ifCommitted (n : Nat) (g : Mem) (x1 : Int32) : Option (Nat × Int32) := sReq (sX6_requireTransaction g x1) (fun ec => some (ec, 0)) (sBi (sX4_isOpen g (0 + 9) x1) fun r6 => if r6 = 0 then (some (0, (-1 : Int32))) else (sBi (sX2_commitOutcome n g 0 x1) fun r10 => some (0, r10)))

def sX6_ticksToCommit (n : Nat) (g : Mem) (x1 : Int32) : Option (Nat × Int32) := sReq (sX6_requireTransaction g x1) (fun ec => some (ec, 0)) (sIdx x1 40 fun _ => if (g ((0 + 9) + 2) x1.toNatClampNeg) = (2 : Int32) then (some (0, (0 : Int32))) else (sIdx x1 40 fun _ => if (g ((0 + 9) + 2) x1.toNatClampNeg) = (1 : Int32) then (sBi (sX2_ticksUntilCommitted n g 0 x1 (10000 : Int32)) fun r10 => if r10 ≤ (10000 : Int32) then (some (0, r10)) else (some (0, (-1 : Int32)))) else (some (0, (-1 : Int32)))))

def sX6_versions (g : Mem) (x1 : Int32) : Option (Nat × Int32) := sReq (sX6_requireKey g x1) (fun ec => some (ec, 0)) (sIdx x1 8 fun _ => some (0, (g ((0 + 5) + 1) x1.toNatClampNeg)))

def sX6_versionTimestamp (g : Mem) (x1 : Int32) (x2 : Int32) : Option (Nat × Int32) := sReq (sX6_requireKey g x1) (fun ec => some (ec, 0)) (if x2 < 0 then (some (1, 0)) else (sIdx x1 8 fun _ => if x2 < (g ((0 + 5) + 1) x1.toNatClampNeg) then (sBi (sX5_timestampOf g (0 + 5) x1 x2) fun r9 => some (0, r9)) else (some (1, 0))))

def sX6_valueAt (n : Nat) (g : Mem) (x1 : Int32) (x2 : Int32) : Option (Nat × Int32) := sReq (sX6_requireKey g x1) (fun ec => some (ec, 0)) (sReq (sX6_requireNotNegative g x2) (fun ec => some (ec, 0)) (sBi (sX5_valueOf n g (0 + 5) x1 x2) fun r9 => some (0, r9)))

def sX6_replayedValueAt (n : Nat) (g : Mem) (x1 : Int32) (x2 : Int32) : Option (Nat × Int32) := sReq (sX6_requireKey g x1) (fun ec => some (ec, 0)) (sReq (sX6_requireNotNegative g x2) (fun ec => some (ec, 0)) (sBi (sX4_replay n g (0 + 9) x1 x2) fun r9 => some (0, r9)))

def sX6_waitingWriter (n : Nat) (g : Mem) (x1 : Int32) : Option (Nat × Int32) := sReq (sX6_requireKey g x1) (fun ec => some (ec, 0)) (sBi (sX4_findWaitingWriter n g (0 + 9) x1) fun r6 => some (0, r6))

def sX6_readerMark (n : Nat) (g : Mem) (x1 : Int32) : Option (Nat × Int32) := sReq (sX6_requireKey g x1) (fun ec => some (ec, 0)) (sBi (sX4_greatestReaderTimestamp n g (0 + 9) x1) fun r6 => some (0, r6))

def sX6_safeTime (n : Nat) (g : Mem) : Option (Int32) := sBi (sX2_safeTimeNow n g 0) fun r3 => some r3

def sX6_readFloor (g : Mem) : Option (Int32) := some (g 0 1)

def sX6_ticksUntilSafe (n : Nat) (g : Mem) (x1 : Int32) : Option (Nat × Int32) := sReq (sX6_requireNotNegative g x1) (fun ec => some (ec, 0)) (sBi (sX2_ticksUntilSafeAt n g 0 x1 (10000 : Int32)) fun r6 => if r6 ≤ (10000 : Int32) then (some (0, r6)) else (some (0, (-1 : Int32))))

def sX6_countInState (n : Nat) (g : Mem) (x1 : Int32) : Option (Nat × Int32) := sReq (sX6_requireRange g x1 (0 : Int32) (3 : Int32)) (fun ec => some (ec, 0)) (sBi (sX4_countWithStatus n g (0 + 9) x1) fun r6 => some (0, r6))

def sX6_totalWait (n : Nat) (g : Mem) : Option (Int32) := sBi (sX4_sumOfWaits n g (0 + 9)) fun r3 => some r3

def sX6_unsoundUses (g : Mem) : Option (Int32) := some (g 0 2)

def sX6_inversions (n : Nat) (g : Mem) : Option (Int32) := sBi (sX4_countInversions n g (0 + 9)) fun r3 => some r3

def sX6_savedStates (g : Mem) : Option (Int32) := some (g 153 0)

def sX6_textLength (g : Mem) : Option (Int32) := some (g 157 0)

def sX7_thrown (g : Mem) : Option (Int32) := some (g 0 7)

def sX7_throwsAt (g : Mem) (x1 : Int32) : Option (Int32 × Mem) := sLet (mput g 0 7 x1) fun g1 => if x1 ≤ 0 then (some ((0 : Int32), g1)) else (some ((1 : Int32), g1))

def sX7_in (g : Mem) (x0 : Int32) (x1 : Int32) (x2 : Int32) : Option (Int32) := if x0 < x1 then (some (0 : Int32)) else (if x2 < x0 then (some (0 : Int32)) else (some (1 : Int32)))

def sX7_isServer (g : Mem) (x0 : Int32) : Option (Int32) := sBi (sX7_in g x0 (0 : Int32) (2 : Int32)) fun r3 => some r3

def sX7_isKey (g : Mem) (x0 : Int32) : Option (Int32) := sBi (sX7_in g x0 (0 : Int32) (7 : Int32)) fun r3 => some r3

def sX7_isTransaction (g : Mem) (x1 : Int32) : Option (Int32) := sIdx (3 : Int32) 865 fun _ => sBi (sX7_in g x1 (0 : Int32) ((g 1 (3 : Int32).toNatClampNeg) - (1 : Int32))) fun r4 => some r4

def sX7_greater (g : Mem) (x0 : Int32) (x1 : Int32) : Option (Int32) := if x0 ≤ x1 then (some x1) else (some x0)

def sX7_saves_52 (n : Nat) : Nat → Mem → Int32 → Option (Mem)
  | 0, _, _ => none
  | f + 1, g, x1 => if (865 : Int32) ≤ x1 then (sLet (mput g 0 2 ((g 0 2) + (1 : Int32))) fun g2 => some g2) else (sIdx x1 865 fun _ => sIdx (((865 : Int32) * (g 0 2)) + x1) 5190 fun _ => sLet (mput g 2 (((865 : Int32) * (g 0 2)) + x1).toNatClampNeg (g 1 x1.toNatClampNeg)) fun g5 => sX7_saves_52 n f g5 (x1 + (1 : Int32)))

def sX7_saves_11 (n : Nat) : Nat → Mem → Int32 → Option (Mem)
  | 0, _, _ => none
  | f + 1, g, x1 => if (4325 : Int32) ≤ x1 then (sLet (mput g 0 2 ((g 0 2) - (1 : Int32))) fun g2 => sX7_saves_52 n n g2 (0 : Int32)) else (sIdx ((865 : Int32) + x1) 5190 fun _ => sIdx x1 5190 fun _ => sLet (mput g 2 x1.toNatClampNeg (g 2 ((865 : Int32) + x1).toNatClampNeg)) fun g5 => sX7_saves_11 n f g5 (x1 + (1 : Int32)))

def sX7_saves (n : Nat) (g : Mem) : Option (Mem) := if (g 0 2) = (6 : Int32) then (sX7_saves_11 n n g (0 : Int32)) else (sX7_saves_52 n n g (0 : Int32))

def sX7_down (g : Mem) (x0 : Int32) : Option (Int32) := if x0 < 0 then (some (-(((999 : Int32) - x0) / (1000 : Int32)))) else (some (x0 / (1000 : Int32)))

def sX7_clock (g : Mem) (x1 : Int32) (x2 : Int32) : Option (Int32) := sIdx (((7 : Int32) + ((6 : Int32) * x1)) + x2) 865 fun _ => some (g 1 (((7 : Int32) + ((6 : Int32) * x1)) + x2).toNatClampNeg)

def sX7_sets (g : Mem) (x1 : Int32) (x2 : Int32) (x3 : Int32) : Option (Mem) := sIdx (((7 : Int32) + ((6 : Int32) * x1)) + x2) 865 fun _ => sLet (mput g 1 (((7 : Int32) + ((6 : Int32) * x1)) + x2).toNatClampNeg x3) fun g2 => some g2

def sX7_offset (g : Mem) (x1 : Int32) (x2 : Int32) : Option (Int32) := sBi (sX7_clock g x1 (0 : Int32)) fun r3 => sBi (sX7_clock g x1 (2 : Int32)) fun r6 => sBi (sX7_clock g x1 (1 : Int32)) fun r9 => sBi (sX7_down g (r6 * (x2 - r9))) fun r12 => some (r3 + r12)

def sX7_uncertainty (g : Mem) (x1 : Int32) (x2 : Int32) : Option (Int32) := sBi (sX7_clock g x1 (3 : Int32)) fun r3 => sBi (sX7_clock g x1 (4 : Int32)) fun r6 => sBi (sX7_clock g x1 (5 : Int32)) fun r9 => some (r3 + (((r6 * (x2 - r9)) + (999 : Int32)) / (1000 : Int32)))

def sX7_earliestAt (g : Mem) (x1 : Int32) (x2 : Int32) : Option (Int32) := sBi (sX7_offset g x1 x2) fun r3 => sBi (sX7_uncertainty g x1 x2) fun r6 => some ((x2 + r3) - r6)

def sX7_latestAt (g : Mem) (x1 : Int32) (x2 : Int32) : Option (Int32) := sBi (sX7_offset g x1 x2) fun r3 => sBi (sX7_uncertainty g x1 x2) fun r6 => some ((x2 + r3) + r6)

def sX7_isSoundAt (g : Mem) (x1 : Int32) (x2 : Int32) : Option (Int32) := sBi (sX7_earliestAt g x1 x2) fun r3 => if x2 < r3 then (some (0 : Int32)) else (sBi (sX7_latestAt g x1 x2) fun r7 => if r7 < x2 then (some (0 : Int32)) else (some (1 : Int32)))

def sX7_uses (g : Mem) (x1 : Int32) : Option (Mem) := sIdx (2 : Int32) 865 fun _ => sIdx (0 : Int32) 865 fun _ => sBi (sX7_isSoundAt g x1 (g 1 (0 : Int32).toNatClampNeg)) fun r5 => if r5 = 0 then (sIdx (2 : Int32) 865 fun _ => sLet (mput g 1 (2 : Int32).toNatClampNeg ((g 1 (2 : Int32).toNatClampNeg) + (1 : Int32))) fun g8 => some g8) else (sIdx (2 : Int32) 865 fun _ => sLet (mput g 1 (2 : Int32).toNatClampNeg ((g 1 (2 : Int32).toNatClampNeg) + (0 : Int32))) fun g10 => some g10)

def sX7_of (g : Mem) (x1 : Int32) (x2 : Int32) : Option (Int32) := sIdx (((25 : Int32) + ((21 : Int32) * x1)) + x2) 865 fun _ => some (g 1 (((25 : Int32) + ((21 : Int32) * x1)) + x2).toNatClampNeg)

def sX7_lays (g : Mem) (x1 : Int32) (x2 : Int32) : Option (Mem) := sIdx ((25 : Int32) + x1) 865 fun _ => sLet (mput g 1 ((25 : Int32) + x1).toNatClampNeg x2) fun g2 => some g2

def sX7_hasWritten (g : Mem) (x1 : Int32) (x2 : Int32) : Option (Int32) := sBi (sX7_of g x1 ((5 : Int32) + x2)) fun r3 => if r3 < 0 then (some (0 : Int32)) else (some (1 : Int32))

def sX7_hasRead (g : Mem) (x1 : Int32) (x2 : Int32) : Option (Int32) := sBi (sX7_of g x1 ((13 : Int32) + x2)) fun r3 => if r3 < 0 then (some (0 : Int32)) else (some (1 : Int32))

def sX7_written_4 (n : Nat) (g : Mem) : Nat → Int32 → Int32 → Int32 → Option (Int32)
  | 0, _, _, _ => none
  | f + 1, x1, x2, x3 => if (8 : Int32) ≤ x3 then (some x2) else (sBi (sX7_hasWritten g x1 x3) fun r4 => if r4 = 0 then (sX7_written_4 n g f x1 (x2 + (0 : Int32)) (x3 + (1 : Int32))) else (sX7_written_4 n g f x1 (x2 + (1 : Int32)) (x3 + (1 : Int32))))

def sX7_written (n : Nat) (g : Mem) (x1 : Int32) : Option (Int32) := sX7_written_4 n g n x1 (0 : Int32) (0 : Int32)

def sX7_isVersion (g : Mem) (x1 : Int32) (x2 : Int32) : Option (Int32) := sBi (sX7_of g x1 (1 : Int32)) fun r3 => if r3 = (2 : Int32) then (sBi (sX7_hasWritten g x1 x2) fun r7 => if r7 = 0 then (some (0 : Int32)) else (some (1 : Int32))) else (some (0 : Int32))

def sX7_writer_5 (n : Nat) (g : Mem) : Nat → Int32 → Int32 → Int32 → Int32 → Option (Int32)
  | 0, _, _, _, _ => none
  | f + 1, x1, x2, x3, x4 => sIdx (3 : Int32) 865 fun _ => if (g 1 (3 : Int32).toNatClampNeg) ≤ x4 then (some x3) else (sBi (sX7_isVersion g x4 x1) fun r5 => if r5 = 0 then (sX7_writer_5 n g f x1 x2 x3 (x4 + (1 : Int32))) else (sBi (sX7_of g x4 (2 : Int32)) fun r9 => if x2 < r9 then (sX7_writer_5 n g f x1 x2 x3 (x4 + (1 : Int32))) else (if x3 = (-1 : Int32) then (sX7_writer_5 n g f x1 x2 x4 (x4 + (1 : Int32))) else (sBi (sX7_of g x4 (2 : Int32)) fun r14 => sBi (sX7_of g x3 (2 : Int32)) fun r17 => if r14 ≤ r17 then (sX7_writer_5 n g f x1 x2 x3 (x4 + (1 : Int32))) else (sX7_writer_5 n g f x1 x2 x4 (x4 + (1 : Int32)))))))

def sX7_writer (n : Nat) (g : Mem) (x1 : Int32) (x2 : Int32) : Option (Int32) := sX7_writer_5 n g n x1 x2 (-1 : Int32) (0 : Int32)

def sX7_value (n : Nat) (g : Mem) (x1 : Int32) (x2 : Int32) : Option (Int32) := sBi (sX7_writer n g x1 x2) fun r3 => if r3 = (-1 : Int32) then (some (0 : Int32)) else (sBi (sX7_of g r3 ((5 : Int32) + x1)) fun r7 => some r7)

def sX7_newest (n : Nat) (g : Mem) (x1 : Int32) : Option (Int32) := sBi (sX7_writer n g x1 (2000000000 : Int32)) fun r3 => if r3 = (-1 : Int32) then (some (0 : Int32)) else (sBi (sX7_of g r3 (2 : Int32)) fun r7 => some r7)

def sX7_mark_4 (n : Nat) (g : Mem) : Nat → Int32 → Int32 → Int32 → Option (Int32)
  | 0, _, _, _ => none
  | f + 1, x1, x2, x3 => sIdx (3 : Int32) 865 fun _ => if (g 1 (3 : Int32).toNatClampNeg) ≤ x3 then (some x2) else (sBi (sX7_of g x3 (1 : Int32)) fun r5 => if r5 = (2 : Int32) then (sBi (sX7_hasRead g x3 x1) fun r9 => if r9 = 0 then (sX7_mark_4 n g f x1 x2 (x3 + (1 : Int32))) else (sBi (sX7_of g x3 (2 : Int32)) fun r13 => sBi (sX7_greater g x2 r13) fun r16 => sX7_mark_4 n g f x1 r16 (x3 + (1 : Int32)))) else (sX7_mark_4 n g f x1 x2 (x3 + (1 : Int32))))

def sX7_mark (n : Nat) (g : Mem) (x1 : Int32) : Option (Int32) := sX7_mark_4 n g n x1 (0 : Int32) (0 : Int32)

def sX7_isConflict_4 (n : Nat) (g : Mem) : Nat → Int32 → Int32 → Int32 → Option (Int32)
  | 0, _, _, _ => none
  | f + 1, x1, x2, x3 => if (8 : Int32) ≤ x3 then (sBb x2 (some x2)) else (if x2 = 0 then (sBi (sX7_hasRead g x1 x3) fun r6 => if r6 = 0 then (sX7_isConflict_4 n g f x1 (0 : Int32) (x3 + (1 : Int32))) else (sBi (sX7_newest n g x3) fun r10 => sBi (sX7_of g x1 ((13 : Int32) + x3)) fun r13 => if r10 = r13 then (sX7_isConflict_4 n g f x1 (0 : Int32) (x3 + (1 : Int32))) else (sX7_isConflict_4 n g f x1 (1 : Int32) (x3 + (1 : Int32))))) else (sX7_isConflict_4 n g f x1 (1 : Int32) (x3 + (1 : Int32))))

def sX7_isConflict (n : Nat) (g : Mem) (x1 : Int32) : Option (Int32) := sX7_isConflict_4 n g n x1 (0 : Int32) (0 : Int32)

def sX7_bars_58 (n : Nat) (g : Mem) (rec5 : Int32 → Int32 → Int32 → Int32 → Option (Int32)) (x1 : Int32) (x2 : Int32) (x4 : Int32) : Option (Int32) := sBi (sX7_hasRead g x1 x4) fun r3 => if r3 = 0 then (rec5 x1 x2 (0 : Int32) (x4 + (1 : Int32))) else (sBi (sX7_hasWritten g x2 x4) fun r7 => if r7 = 0 then (rec5 x1 x2 (0 : Int32) (x4 + (1 : Int32))) else (rec5 x1 x2 (1 : Int32) (x4 + (1 : Int32))))

def sX7_bars_32 (n : Nat) (g : Mem) (rec5 : Int32 → Int32 → Int32 → Int32 → Option (Int32)) (x1 : Int32) (x2 : Int32) (x3 : Int32) (x4 : Int32) : Option (Int32) := if x3 = 0 then (sBi (sX7_hasWritten g x1 x4) fun r4 => if r4 = 0 then (sX7_bars_58 n g rec5 x1 x2 x4) else (rec5 x1 x2 (1 : Int32) (x4 + (1 : Int32)))) else (rec5 x1 x2 (1 : Int32) (x4 + (1 : Int32)))

def sX7_bars_5 (n : Nat) (g : Mem) : Nat → Int32 → Int32 → Int32 → Int32 → Option (Int32)
  | 0, _, _, _, _ => none
  | f + 1, x1, x2, x3, x4 => if (8 : Int32) ≤ x4 then (sBb x3 (some x3)) else (sBi (sX7_hasRead g x2 x4) fun r5 => if r5 = 0 then (sBi (sX7_hasWritten g x2 x4) fun r9 => if r9 = 0 then (if x3 = 0 then (sBi (sX7_hasWritten g x1 x4) fun r14 => if r14 = 0 then (sX7_bars_58 n g (sX7_bars_5 n g f) x1 x2 x4) else (sX7_bars_58 n g (sX7_bars_5 n g f) x1 x2 x4)) else (sX7_bars_5 n g f x1 x2 (1 : Int32) (x4 + (1 : Int32)))) else (sX7_bars_32 n g (sX7_bars_5 n g f) x1 x2 x3 x4)) else (sX7_bars_32 n g (sX7_bars_5 n g f) x1 x2 x3 x4))

def sX7_bars (n : Nat) (g : Mem) (x1 : Int32) (x2 : Int32) : Option (Int32) := sX7_bars_5 n g n x1 x2 (0 : Int32) (0 : Int32)

def sX7_isLocked_4 (n : Nat) (g : Mem) : Nat → Int32 → Int32 → Int32 → Option (Int32)
  | 0, _, _, _ => none
  | f + 1, x1, x2, x3 => sIdx (3 : Int32) 865 fun _ => if (g 1 (3 : Int32).toNatClampNeg) ≤ x3 then (sBb x2 (some x2)) else (if x2 = 0 then (sBi (sX7_of g x3 (1 : Int32)) fun r7 => if r7 = (1 : Int32) then (sBi (sX7_bars n g x3 x1) fun r11 => if r11 = 0 then (sX7_isLocked_4 n g f x1 (0 : Int32) (x3 + (1 : Int32))) else (sX7_isLocked_4 n g f x1 (1 : Int32) (x3 + (1 : Int32)))) else (sX7_isLocked_4 n g f x1 (0 : Int32) (x3 + (1 : Int32)))) else (sX7_isLocked_4 n g f x1 (1 : Int32) (x3 + (1 : Int32))))

def sX7_isLocked (n : Nat) (g : Mem) (x1 : Int32) : Option (Int32) := sX7_isLocked_4 n g n x1 (0 : Int32) (0 : Int32)

def sX7_next (g : Mem) (x1 : Int32) (x2 : Int32) : Option (Int32) := sIdx ((4 : Int32) + x1) 865 fun _ => sIdx (1 : Int32) 865 fun _ => sBi (sX7_greater g (g 1 ((4 : Int32) + x1).toNatClampNeg) (g 1 (1 : Int32).toNatClampNeg)) fun r5 => sBi (sX7_latestAt g x1 x2) fun r8 => sBi (sX7_greater g r8 ((1 : Int32) + r5)) fun r11 => some r11

def sX7_stamp_66 (n : Nat) (g : Mem) (rec26 : Int32 → Int32 → Int32 → Option (Int32)) (x1 : Int32) (x3 : Int32) (x4 : Int32) : Option (Int32) := sBi (sX7_hasWritten g x1 x4) fun r3 => if r3 = 0 then (rec26 x1 x3 (x4 + (1 : Int32))) else (sBi (sX7_mark n g x4) fun r7 => sBi (sX7_greater g x3 ((1 : Int32) + r7)) fun r10 => rec26 x1 r10 (x4 + (1 : Int32)))

def sX7_stamp_26 (n : Nat) (g : Mem) : Nat → Int32 → Int32 → Int32 → Option (Int32)
  | 0, _, _, _ => none
  | f + 1, x1, x3, x4 => if (8 : Int32) ≤ x4 then (some x3) else (sBi (sX7_hasRead g x1 x4) fun r4 => if r4 = 0 then (sBi (sX7_hasWritten g x1 x4) fun r14 => if r14 = 0 then (sX7_stamp_66 n g (sX7_stamp_26 n g f) x1 x3 x4) else (sBi (sX7_newest n g x4) fun r18 => sBi (sX7_greater g x3 ((1 : Int32) + r18)) fun r21 => sX7_stamp_66 n g (sX7_stamp_26 n g f) x1 r21 x4)) else (sBi (sX7_newest n g x4) fun r8 => sBi (sX7_greater g x3 ((1 : Int32) + r8)) fun r11 => sX7_stamp_66 n g (sX7_stamp_26 n g f) x1 r11 x4))

def sX7_stamp (n : Nat) (g : Mem) (x1 : Int32) : Option (Int32) := sBi (sX7_of g x1 (0 : Int32)) fun r3 => sIdx (0 : Int32) 865 fun _ => sBi (sX7_next g r3 (g 1 (0 : Int32).toNatClampNeg)) fun r7 => sBi (sX7_greater g r7 (0 : Int32)) fun r10 => sX7_stamp_26 n g n x1 r10 (0 : Int32)

def sX7_outcome (n : Nat) (g : Mem) (x1 : Int32) : Option (Int32) := sBi (sX7_isConflict n g x1) fun r3 => if r3 = 0 then (sBi (sX7_isLocked n g x1) fun r7 => if r7 = 0 then (sBi (sX7_stamp n g x1) fun r11 => some r11) else (some (-3 : Int32))) else (some (-2 : Int32))

def sX7_whyNotBegin (g : Mem) (x1 : Int32) : Option (Int32) := sBi (sX7_isServer g x1) fun r3 => if r3 = 0 then (some (1 : Int32)) else (sIdx (3 : Int32) 865 fun _ => if (g 1 (3 : Int32).toNatClampNeg) = (40 : Int32) then (some (2 : Int32)) else (some (0 : Int32)))

def sX7_whyNot (g : Mem) (x1 : Int32) : Option (Int32) := sBi (sX7_isTransaction g x1) fun r3 => if r3 = 0 then (some (1 : Int32)) else (sBi (sX7_of g x1 (1 : Int32)) fun r7 => if r7 = 0 then (some (0 : Int32)) else (some (2 : Int32)))

def sX7_whyNotRead (g : Mem) (x1 : Int32) (x2 : Int32) : Option (Int32) := sBi (sX7_isKey g x2) fun r3 => if r3 = 0 then (some (1 : Int32)) else (sBi (sX7_whyNot g x1) fun r7 => some r7)

def sX7_whyNotWrite (g : Mem) (x1 : Int32) (x2 : Int32) (x3 : Int32) : Option (Int32) := sBi (sX7_isTransaction g x1) fun r3 => if r3 = 0 then (some (1 : Int32)) else (sBi (sX7_isKey g x2) fun r7 => if r7 = 0 then (some (1 : Int32)) else (sBi (sX7_in g x3 (0 : Int32) (9999 : Int32)) fun r11 => if r11 = 0 then (some (2 : Int32)) else (sBi (sX7_of g x1 (1 : Int32)) fun r15 => if r15 = 0 then (some (0 : Int32)) else (some (3 : Int32)))))

def sX7_whyNotAdvance (g : Mem) (x1 : Int32) : Option (Int32) := sBi (sX7_in g x1 (1 : Int32) (1000 : Int32)) fun r3 => if r3 = 0 then (some (1 : Int32)) else (sIdx (0 : Int32) 865 fun _ => if ((g 1 (0 : Int32).toNatClampNeg) + x1) ≤ (1000000 : Int32) then (some (0 : Int32)) else (some (2 : Int32)))

def sX7_whyNotSynchronize (g : Mem) (x1 : Int32) (x2 : Int32) : Option (Int32) := sBi (sX7_isServer g x1) fun r3 => if r3 = 0 then (some (1 : Int32)) else (sBi (sX7_in g x2 (-500 : Int32) (500 : Int32)) fun r7 => if r7 = 0 then (some (2 : Int32)) else (some (0 : Int32)))

def sX7_begins_28 (n : Nat) : Nat → Mem → Int32 → Int32 → Option (Int32 × Mem)
  | 0, _, _, _ => none
  | f + 1, g, x2, x3 => if (21 : Int32) ≤ x3 then (sIdx (3 : Int32) 865 fun _ => sIdx (3 : Int32) 865 fun _ => sLet (mput g 1 (3 : Int32).toNatClampNeg ((g 1 (3 : Int32).toNatClampNeg) + (1 : Int32))) fun g4 => sIdx (3 : Int32) 865 fun _ => some (((g4 1 (3 : Int32).toNatClampNeg) - (1 : Int32)), g4)) else (sBi (sX7_lays g (x2 + x3) (-1 : Int32)) fun g8 => sX7_begins_28 n f g8 x2 (x3 + (1 : Int32)))

def sX7_begins (n : Nat) (g : Mem) (x1 : Int32) : Option (Int32 × Mem) := sIdx (3 : Int32) 865 fun _ => sBi (sX7_lays g (((21 : Int32) * (g 1 (3 : Int32).toNatClampNeg)) + (0 : Int32)) x1) fun g4 => sBi (sX7_lays g4 (((21 : Int32) * (g 1 (3 : Int32).toNatClampNeg)) + (1 : Int32)) (0 : Int32)) fun g7 => sX7_begins_28 n n g7 ((21 : Int32) * (g 1 (3 : Int32).toNatClampNeg)) (2 : Int32)

def sX7_reads (n : Nat) (g : Mem) (x1 : Int32) (x2 : Int32) : Option (Int32 × Mem) := sBi (sX7_hasWritten g x1 x2) fun r3 => if r3 = 0 then (sBi (sX7_hasRead g x1 x2) fun r7 => if r7 = 0 then (sBi (sX7_newest n g x2) fun r17 => sBi (sX7_lays g ((((21 : Int32) * x1) + (13 : Int32)) + x2) r17) fun g20 => sBi (sX7_of g20 x1 ((13 : Int32) + x2)) fun r23 => sBi (sX7_value n g20 x2 r23) fun r26 => some (r26, g20)) else (sBi (sX7_of g x1 ((13 : Int32) + x2)) fun r11 => sBi (sX7_value n g x2 r11) fun r14 => some (r14, g))) else (sBi (sX7_of g x1 ((5 : Int32) + x2)) fun r29 => some (r29, g))

def sX7_writes (n : Nat) (g : Mem) (x1 : Int32) (x2 : Int32) (x3 : Int32) : Option (Int32 × Mem) := sBi (sX7_lays g ((((21 : Int32) * x1) + (5 : Int32)) + x2) x3) fun g3 => sBi (sX7_written n g3 x1) fun r6 => some (r6, g3)

def sX7_requests (g : Mem) (x1 : Int32) (x2 : Int32) : Option (Mem) := if x2 = (-2 : Int32) then (sBi (sX7_lays g (((21 : Int32) * x1) + (1 : Int32)) (3 : Int32)) fun g25 => some g25) else (sBi (sX7_lays g (((21 : Int32) * x1) + (1 : Int32)) (1 : Int32)) fun g4 => sBi (sX7_lays g4 (((21 : Int32) * x1) + (2 : Int32)) x2) fun g7 => sIdx (0 : Int32) 865 fun _ => sBi (sX7_lays g7 (((21 : Int32) * x1) + (3 : Int32)) (g7 1 (0 : Int32).toNatClampNeg)) fun g11 => sBi (sX7_of g11 x1 (0 : Int32)) fun r14 => sIdx ((4 : Int32) + r14) 865 fun _ => sLet (mput g11 1 ((4 : Int32) + r14).toNatClampNeg x2) fun g16 => sBi (sX7_of g16 x1 (0 : Int32)) fun r19 => sBi (sX7_uses g16 r19) fun g22 => some g22)

def sX7_advances_22 (n : Nat) (rec4 : Mem → Int32 → Int32 → Int32 → Option (Int32 × Mem)) : Nat → Mem → Int32 → Int32 → Int32 → Int32 → Option (Int32 × Mem)
  | 0, _, _, _, _, _ => none
  | f + 1, g, x1, x2, x3, x4 => sIdx (3 : Int32) 865 fun _ => if (g 1 (3 : Int32).toNatClampNeg) ≤ x4 then (rec4 g x1 x2 (x3 + (1 : Int32))) else (sBi (sX7_of g x4 (1 : Int32)) fun r5 => if r5 = (1 : Int32) then (sBi (sX7_of g x4 (2 : Int32)) fun r9 => sBi (sX7_of g x4 (0 : Int32)) fun r12 => sIdx (0 : Int32) 865 fun _ => sBi (sX7_earliestAt g r12 (g 1 (0 : Int32).toNatClampNeg)) fun r16 => if r16 ≤ r9 then (sX7_advances_22 n rec4 f g x1 x2 x3 (x4 + (1 : Int32))) else (sBi (sX7_lays g (((21 : Int32) * x4) + (1 : Int32)) (2 : Int32)) fun g20 => sIdx (0 : Int32) 865 fun _ => sBi (sX7_lays g20 (((21 : Int32) * x4) + (4 : Int32)) (g20 1 (0 : Int32).toNatClampNeg)) fun g24 => sBi (sX7_of g24 x4 (0 : Int32)) fun r27 => sBi (sX7_uses g24 r27) fun g30 => sX7_advances_22 n rec4 f g30 x1 (x2 + (1 : Int32)) x3 (x4 + (1 : Int32)))) else (sX7_advances_22 n rec4 f g x1 x2 x3 (x4 + (1 : Int32))))

def sX7_advances_4 (n : Nat) : Nat → Mem → Int32 → Int32 → Int32 → Option (Int32 × Mem)
  | 0, _, _, _, _ => none
  | f + 1, g, x1, x2, x3 => if x1 ≤ x3 then (some (x2, g)) else (sIdx (0 : Int32) 865 fun _ => sIdx (0 : Int32) 865 fun _ => sLet (mput g 1 (0 : Int32).toNatClampNeg ((g 1 (0 : Int32).toNatClampNeg) + (1 : Int32))) fun g4 => sX7_advances_22 n (sX7_advances_4 n f) n g4 x1 x2 x3 (0 : Int32))

def sX7_advances (n : Nat) (g : Mem) (x1 : Int32) : Option (Int32 × Mem) := sX7_advances_4 n n g x1 (0 : Int32) (0 : Int32)

def sX7_synchronizes (g : Mem) (x1 : Int32) (x2 : Int32) : Option (Int32 × Mem) := sIdx (0 : Int32) 865 fun _ => sBi (sX7_offset g x1 (g 1 (0 : Int32).toNatClampNeg)) fun r4 => sBi (sX7_sets g x1 (0 : Int32) x2) fun g7 => sIdx (0 : Int32) 865 fun _ => sBi (sX7_sets g7 x1 (1 : Int32) (g7 1 (0 : Int32).toNatClampNeg)) fun g11 => sIdx (0 : Int32) 865 fun _ => sBi (sX7_sets g11 x1 (5 : Int32) (g11 1 (0 : Int32).toNatClampNeg)) fun g15 => some ((x2 - r4), g15)

def sX7_begin (n : Nat) (g : Mem) (x1 : Int32) : Option (Int32 × Mem) := sBi (sX7_whyNotBegin g x1) fun r3 => sBi2 (sX7_throwsAt g r3) fun r6 g7 => if r6 = 0 then (sBi (sX7_saves n g7) fun g11 => sBi2 (sX7_begins n g11 x1) fun r14 g15 => some (r14, g15)) else (some ((0 : Int32), g7))

def sX7_read (n : Nat) (g : Mem) (x1 : Int32) (x2 : Int32) : Option (Int32 × Mem) := sBi (sX7_whyNotRead g x1 x2) fun r3 => sBi2 (sX7_throwsAt g r3) fun r6 g7 => if r6 = 0 then (sBi (sX7_saves n g7) fun g11 => sBi2 (sX7_reads n g11 x1 x2) fun r14 g15 => some (r14, g15)) else (some ((0 : Int32), g7))

def sX7_write (n : Nat) (g : Mem) (x1 : Int32) (x2 : Int32) (x3 : Int32) : Option (Int32 × Mem) := sBi (sX7_whyNotWrite g x1 x2 x3) fun r3 => sBi2 (sX7_throwsAt g r3) fun r6 g7 => if r6 = 0 then (sBi (sX7_saves n g7) fun g11 => sBi2 (sX7_writes n g11 x1 x2 x3) fun r14 g15 => some (r14, g15)) else (some ((0 : Int32), g7))

def sX7_commit (n : Nat) (g : Mem) (x1 : Int32) : Option (Int32 × Mem) := sBi (sX7_whyNot g x1) fun r3 => sBi2 (sX7_throwsAt g r3) fun r6 g7 => if r6 = 0 then (sBi (sX7_outcome n g7 x1) fun r11 => if r11 = (-3 : Int32) then (some (r11, g7)) else (sBi (sX7_saves n g7) fun g15 => sBi (sX7_requests g15 x1 r11) fun g18 => some (r11, g18))) else (some ((0 : Int32), g7))

def sX7_abort (n : Nat) (g : Mem) (x1 : Int32) : Option (Int32 × Mem) := sBi (sX7_whyNot g x1) fun r3 => sBi2 (sX7_throwsAt g r3) fun r6 g7 => if r6 = 0 then (sBi (sX7_saves n g7) fun g11 => sBi (sX7_lays g11 (((21 : Int32) * x1) + (1 : Int32)) (3 : Int32)) fun g14 => sBi (sX7_written n g14 x1) fun r17 => some (r17, g14)) else (some ((0 : Int32), g7))

def sX7_advance (n : Nat) (g : Mem) (x1 : Int32) : Option (Int32 × Mem) := sBi (sX7_whyNotAdvance g x1) fun r3 => sBi2 (sX7_throwsAt g r3) fun r6 g7 => if r6 = 0 then (sBi (sX7_saves n g7) fun g11 => sBi2 (sX7_advances n g11 x1) fun r14 g15 => some (r14, g15)) else (some ((0 : Int32), g7))

def sX7_synchronize (n : Nat) (g : Mem) (x1 : Int32) (x2 : Int32) : Option (Int32 × Mem) := sBi (sX7_whyNotSynchronize g x1 x2) fun r3 => sBi2 (sX7_throwsAt g r3) fun r6 g7 => if r6 = 0 then (sBi (sX7_saves n g7) fun g11 => sBi2 (sX7_synchronizes g11 x1 x2) fun r14 g15 => some (r14, g15)) else (some ((0 : Int32), g7))

def sX7_setDrift (n : Nat) (g : Mem) (x1 : Int32) (x2 : Int32) : Option (Int32 × Mem) := sBi (sX7_isServer g x1) fun r3 => if r3 = 0 then (sBi2 (sX7_throwsAt g (1 : Int32)) fun r61 g62 => if r61 = 0 then (sBi (sX7_saves n g62) fun g66 => sBi (sX7_clock g66 x1 (2 : Int32)) fun r69 => sIdx (0 : Int32) 865 fun _ => sBi (sX7_offset g66 x1 (g66 1 (0 : Int32).toNatClampNeg)) fun r73 => sBi (sX7_sets g66 x1 (0 : Int32) r73) fun g76 => sIdx (0 : Int32) 865 fun _ => sBi (sX7_sets g76 x1 (1 : Int32) (g76 1 (0 : Int32).toNatClampNeg)) fun g80 => sBi (sX7_sets g80 x1 (2 : Int32) x2) fun g83 => some (r69, g83)) else (some ((0 : Int32), g62))) else (sBi (sX7_in g x2 (-100 : Int32) (100 : Int32)) fun r7 => if r7 = 0 then (sBi2 (sX7_throwsAt g (2 : Int32)) fun r36 g37 => if r36 = 0 then (sBi (sX7_saves n g37) fun g41 => sBi (sX7_clock g41 x1 (2 : Int32)) fun r44 => sIdx (0 : Int32) 865 fun _ => sBi (sX7_offset g41 x1 (g41 1 (0 : Int32).toNatClampNeg)) fun r48 => sBi (sX7_sets g41 x1 (0 : Int32) r48) fun g51 => sIdx (0 : Int32) 865 fun _ => sBi (sX7_sets g51 x1 (1 : Int32) (g51 1 (0 : Int32).toNatClampNeg)) fun g55 => sBi (sX7_sets g55 x1 (2 : Int32) x2) fun g58 => some (r44, g58)) else (some ((0 : Int32), g37))) else (sBi2 (sX7_throwsAt g (0 : Int32)) fun r11 g12 => if r11 = 0 then (sBi (sX7_saves n g12) fun g16 => sBi (sX7_clock g16 x1 (2 : Int32)) fun r19 => sIdx (0 : Int32) 865 fun _ => sBi (sX7_offset g16 x1 (g16 1 (0 : Int32).toNatClampNeg)) fun r23 => sBi (sX7_sets g16 x1 (0 : Int32) r23) fun g26 => sIdx (0 : Int32) 865 fun _ => sBi (sX7_sets g26 x1 (1 : Int32) (g26 1 (0 : Int32).toNatClampNeg)) fun g30 => sBi (sX7_sets g30 x1 (2 : Int32) x2) fun g33 => some (r19, g33)) else (some ((0 : Int32), g12))))

def sX7_setUncertainty_25 (n : Nat) (g : Mem) (x1 : Int32) (x2 : Int32) (x3 : Int32) : Option (Int32 × Mem) := sBi (sX7_isServer g x1) fun r3 => if r3 = 0 then (sBi2 (sX7_throwsAt g (1 : Int32)) fun r26 g27 => if r26 = 0 then (sBi (sX7_saves n g27) fun g31 => sBi (sX7_sets g31 x1 (3 : Int32) x2) fun g34 => sBi (sX7_sets g34 x1 (4 : Int32) x3) fun g37 => sIdx (0 : Int32) 865 fun _ => sBi (sX7_uncertainty g37 x1 (g37 1 (0 : Int32).toNatClampNeg)) fun r41 => some (r41, g37)) else (some ((0 : Int32), g27))) else (sBi2 (sX7_throwsAt g (2 : Int32)) fun r8 g9 => if r8 = 0 then (sBi (sX7_saves n g9) fun g13 => sBi (sX7_sets g13 x1 (3 : Int32) x2) fun g16 => sBi (sX7_sets g16 x1 (4 : Int32) x3) fun g19 => sIdx (0 : Int32) 865 fun _ => sBi (sX7_uncertainty g19 x1 (g19 1 (0 : Int32).toNatClampNeg)) fun r23 => some (r23, g19)) else (some ((0 : Int32), g9)))

def sX7_setUncertainty (n : Nat) (g : Mem) (x1 : Int32) (x2 : Int32) (x3 : Int32) : Option (Int32 × Mem) := sBi (sX7_in g x2 (0 : Int32) (500 : Int32)) fun r3 => if r3 = 0 then (sX7_setUncertainty_25 n g x1 x2 x3) else (sBi (sX7_in g x3 (0 : Int32) (100 : Int32)) fun r7 => if r7 = 0 then (sX7_setUncertainty_25 n g x1 x2 x3) else (sBi (sX7_isServer g x1) fun r11 => if r11 = 0 then (sBi2 (sX7_throwsAt g (1 : Int32)) fun r34 g35 => if r34 = 0 then (sBi (sX7_saves n g35) fun g39 => sBi (sX7_sets g39 x1 (3 : Int32) x2) fun g42 => sBi (sX7_sets g42 x1 (4 : Int32) x3) fun g45 => sIdx (0 : Int32) 865 fun _ => sBi (sX7_uncertainty g45 x1 (g45 1 (0 : Int32).toNatClampNeg)) fun r49 => some (r49, g45)) else (some ((0 : Int32), g35))) else (sBi2 (sX7_throwsAt g (0 : Int32)) fun r16 g17 => if r16 = 0 then (sBi (sX7_saves n g17) fun g21 => sBi (sX7_sets g21 x1 (3 : Int32) x2) fun g24 => sBi (sX7_sets g24 x1 (4 : Int32) x3) fun g27 => sIdx (0 : Int32) 865 fun _ => sBi (sX7_uncertainty g27 x1 (g27 1 (0 : Int32).toNatClampNeg)) fun r31 => some (r31, g27)) else (some ((0 : Int32), g17)))))

def sX7_safe_5 (n : Nat) (g : Mem) : Nat → Int32 → Int32 → Int32 → Option (Int32)
  | 0, _, _, _ => none
  | f + 1, x1, x2, x3 => if (3 : Int32) ≤ x3 then (some x2) else (sBi (sX7_next g x3 x1) fun r4 => if x2 ≤ (r4 - (1 : Int32)) then (sX7_safe_5 n g f x1 x2 (x3 + (1 : Int32))) else (sX7_safe_5 n g f x1 (r4 - (1 : Int32)) (x3 + (1 : Int32))))

def sX7_safe (n : Nat) (g : Mem) (x1 : Int32) : Option (Int32) := sX7_safe_5 n g n x1 (2000000000 : Int32) (0 : Int32)

def sX7_safeNow_13 (n : Nat) (g : Mem) : Nat → Int32 → Int32 → Option (Int32)
  | 0, _, _ => none
  | f + 1, x1, x2 => sIdx (3 : Int32) 865 fun _ => if (g 1 (3 : Int32).toNatClampNeg) ≤ x2 then (some x1) else (sBi (sX7_of g x2 (1 : Int32)) fun r5 => if r5 = (1 : Int32) then (sBi (sX7_of g x2 (2 : Int32)) fun r9 => if x1 ≤ (r9 - (1 : Int32)) then (sX7_safeNow_13 n g f x1 (x2 + (1 : Int32))) else (sBi (sX7_of g x2 (2 : Int32)) fun r13 => sX7_safeNow_13 n g f (r13 - (1 : Int32)) (x2 + (1 : Int32)))) else (sX7_safeNow_13 n g f x1 (x2 + (1 : Int32))))

def sX7_safeNow (n : Nat) (g : Mem) : Option (Int32) := sIdx (0 : Int32) 865 fun _ => sBi (sX7_safe n g (g 1 (0 : Int32).toNatClampNeg)) fun r4 => sX7_safeNow_13 n g n r4 (0 : Int32)

def sX7_snapshotRead (n : Nat) (g : Mem) (x1 : Int32) (x2 : Int32) : Option (Int32 × Mem) := sBi (sX7_isKey g x1) fun r3 => if r3 = 0 then (sBi2 (sX7_throwsAt g (1 : Int32)) fun r63 g64 => if r63 = 0 then (sBi (sX7_saves n g64) fun g68 => sIdx (1 : Int32) 865 fun _ => sBi (sX7_greater g68 (g68 1 (1 : Int32).toNatClampNeg) x2) fun r72 => sIdx (1 : Int32) 865 fun _ => sLet (mput g68 1 (1 : Int32).toNatClampNeg r72) fun g74 => sBi (sX7_value n g74 x1 x2) fun r77 => some (r77, g74)) else (some ((0 : Int32), g64))) else (if 0 ≤ x2 then (sBi (sX7_safeNow n g) fun r8 => if x2 ≤ r8 then (sBi2 (sX7_throwsAt g (0 : Int32)) fun r12 g13 => if r12 = 0 then (sBi (sX7_saves n g13) fun g17 => sIdx (1 : Int32) 865 fun _ => sBi (sX7_greater g17 (g17 1 (1 : Int32).toNatClampNeg) x2) fun r21 => sIdx (1 : Int32) 865 fun _ => sLet (mput g17 1 (1 : Int32).toNatClampNeg r21) fun g23 => sBi (sX7_value n g23 x1 x2) fun r26 => some (r26, g23)) else (some ((0 : Int32), g13))) else (sBi2 (sX7_throwsAt g (3 : Int32)) fun r29 g30 => if r29 = 0 then (sBi (sX7_saves n g30) fun g34 => sIdx (1 : Int32) 865 fun _ => sBi (sX7_greater g34 (g34 1 (1 : Int32).toNatClampNeg) x2) fun r38 => sIdx (1 : Int32) 865 fun _ => sLet (mput g34 1 (1 : Int32).toNatClampNeg r38) fun g40 => sBi (sX7_value n g40 x1 x2) fun r43 => some (r43, g40)) else (some ((0 : Int32), g30)))) else (sBi2 (sX7_throwsAt g (2 : Int32)) fun r46 g47 => if r46 = 0 then (sBi (sX7_saves n g47) fun g51 => sIdx (1 : Int32) 865 fun _ => sBi (sX7_greater g51 (g51 1 (1 : Int32).toNatClampNeg) x2) fun r55 => sIdx (1 : Int32) 865 fun _ => sLet (mput g51 1 (1 : Int32).toNatClampNeg r55) fun g57 => sBi (sX7_value n g57 x1 x2) fun r60 => some (r60, g57)) else (some ((0 : Int32), g47))))

def sX7_appendText (g : Mem) (x1 : Int32) : Option (Int32 × Mem) := sBi (sX7_in g x1 (32 : Int32) (126 : Int32)) fun r3 => if r3 = 0 then (sBi2 (sX7_throwsAt g (1 : Int32)) fun r24 g25 => if r24 = 0 then (sIdx (g25 0 6) 80 fun _ => sLet (mput g25 5 (g25 0 6).toNatClampNeg x1) fun g28 => sLet (mput g28 0 6 ((g28 0 6) + (1 : Int32))) fun g29 => some ((g29 0 6), g29)) else (some ((0 : Int32), g25))) else (if (g 0 6) = (80 : Int32) then (sBi2 (sX7_throwsAt g (2 : Int32)) fun r16 g17 => if r16 = 0 then (sIdx (g17 0 6) 80 fun _ => sLet (mput g17 5 (g17 0 6).toNatClampNeg x1) fun g20 => sLet (mput g20 0 6 ((g20 0 6) + (1 : Int32))) fun g21 => some ((g21 0 6), g21)) else (some ((0 : Int32), g17))) else (sBi2 (sX7_throwsAt g (0 : Int32)) fun r8 g9 => if r8 = 0 then (sIdx (g9 0 6) 80 fun _ => sLet (mput g9 5 (g9 0 6).toNatClampNeg x1) fun g12 => sLet (mput g12 0 6 ((g12 0 6) + (1 : Int32))) fun g13 => some ((g13 0 6), g13)) else (some ((0 : Int32), g9))))

def sX7_clearText (g : Mem) : Option (Int32 × Mem) := sLet (mput g 0 7 (0 : Int32)) fun g1 => sLet (mput g1 0 6 (0 : Int32)) fun g2 => some ((g1 0 6), g2)

def sX7_sign (g : Mem) (x1 : Int32) : Option (Int32) := if (g 0 6) ≤ x1 then (some (-1 : Int32)) else (sIdx x1 80 fun _ => some (g 5 x1.toNatClampNeg))

def sX7_digit (g : Mem) (x1 : Int32) : Option (Int32) := sBi (sX7_sign g x1) fun r3 => sBi (sX7_in g r3 (48 : Int32) (57 : Int32)) fun r6 => if r6 = 0 then (some (-1 : Int32)) else (sBi (sX7_sign g x1) fun r10 => some (r10 - (48 : Int32)))

def sX7_numberEnd_34 (n : Nat) (g : Mem) : Nat → Int32 → Int32 → Int32 → Option (Int32)
  | 0, _, _, _ => none
  | f + 1, x3, x4, x5 => if x4 ≤ 0 then (some x5) else (sBi (sX7_digit g x5) fun r4 => if r4 < 0 then (some x5) else (sBi (sX7_digit g x5) fun r8 => if x3 < (((10 : Int32) * x4) + r8) then (some x5) else (sBi (sX7_digit g x5) fun r12 => sX7_numberEnd_34 n g f x3 (((10 : Int32) * x4) + r12) (x5 + (1 : Int32)))))

def sX7_numberEnd (n : Nat) (g : Mem) (x1 : Int32) (x2 : Int32) (x3 : Int32) : Option (Int32) := if 0 ≤ x1 then (sBi (sX7_digit g x1) fun r4 => if r4 < x2 then (some ((-1 : Int32) - x1)) else (if r4 ≤ x3 then (sX7_numberEnd_34 n g n x3 r4 (x1 + (1 : Int32))) else (some ((-1 : Int32) - x1)))) else (some x1)

def sX7_behind (g : Mem) (x1 : Int32) (x2 : Int32) : Option (Int32) := if 0 ≤ x1 then (sBi (sX7_sign g x1) fun r4 => if r4 = x2 then (some (x1 + (1 : Int32))) else (some ((-1 : Int32) - x1))) else (some x1)

def sX7_numberBehind (n : Nat) (g : Mem) (x1 : Int32) (x2 : Int32) : Option (Int32) := sBi (sX7_behind g x1 (44 : Int32)) fun r3 => sBi (sX7_numberEnd n g r3 (0 : Int32) x2) fun r6 => some r6

def sX7_offsetEnd_26 (n : Nat) (g : Mem) (x2 : Int32) : Option (Int32) := sBi (sX7_numberEnd n g x2 (0 : Int32) (500 : Int32)) fun r5 => some r5

def sX7_offsetEnd (n : Nat) (g : Mem) (x1 : Int32) : Option (Int32) := sBi (sX7_behind g x1 (44 : Int32)) fun r3 => if r3 < 0 then (sX7_offsetEnd_26 n g r3) else (sBi (sX7_sign g r3) fun r7 => if r7 = (45 : Int32) then (sBi (sX7_numberEnd n g (r3 + (1 : Int32)) (1 : Int32) (500 : Int32)) fun r13 => some r13) else (sX7_offsetEnd_26 n g r3))

def sX7_commandEnd (n : Nat) (g : Mem) (x1 : Int32) : Option (Int32) := sBi (sX7_sign g x1) fun r3 => if r3 = 97 then (sBi (sX7_numberEnd n g (x1 + (1 : Int32)) (0 : Int32) (39 : Int32)) fun r7 => some r7) else (if r3 = 98 then (sBi (sX7_numberEnd n g (x1 + (1 : Int32)) (0 : Int32) (2 : Int32)) fun r11 => some r11) else (if r3 = 99 then (sBi (sX7_numberEnd n g (x1 + (1 : Int32)) (0 : Int32) (39 : Int32)) fun r15 => some r15) else (if r3 = 114 then (sBi (sX7_numberEnd n g (x1 + (1 : Int32)) (0 : Int32) (39 : Int32)) fun r19 => sBi (sX7_numberBehind n g r19 (7 : Int32)) fun r22 => some r22) else (if r3 = 115 then (sBi (sX7_numberEnd n g (x1 + (1 : Int32)) (0 : Int32) (2 : Int32)) fun r26 => sBi (sX7_offsetEnd n g r26) fun r29 => some r29) else (if r3 = 116 then (sBi (sX7_numberEnd n g (x1 + (1 : Int32)) (1 : Int32) (1000 : Int32)) fun r33 => some r33) else (if r3 = 119 then (sBi (sX7_numberEnd n g (x1 + (1 : Int32)) (0 : Int32) (39 : Int32)) fun r37 => sBi (sX7_numberBehind n g r37 (7 : Int32)) fun r40 => sBi (sX7_numberBehind n g r40 (9999 : Int32)) fun r43 => some r43) else (some ((-1 : Int32) - x1))))))))

def sX7_error_4 (n : Nat) (g : Mem) : Nat → Int32 → Int32 → Option (Int32)
  | 0, _, _ => none
  | f + 1, x1, x2 => if (80 : Int32) ≤ x2 then (some (-1 : Int32)) else (sBi (sX7_commandEnd n g x1) fun r4 => if 0 ≤ r4 then (if r4 = (g 0 6) then (some (-1 : Int32)) else (sBi (sX7_sign g r4) fun r9 => if r9 = (59 : Int32) then (sX7_error_4 n g f (r4 + (1 : Int32)) (x2 + (1 : Int32))) else (some r4))) else (some ((-1 : Int32) - r4)))

def sX7_error (n : Nat) (g : Mem) : Option (Int32) := sX7_error_4 n g n (0 : Int32) (0 : Int32)

def sX7_errorPosition (n : Nat) (g : Mem) : Option (Int32 × Mem) := sLet (mput g 0 7 (0 : Int32)) fun g1 => sBi (sX7_error n g1) fun r4 => some (r4, g1)

def sX7_numberAt_31 (n : Nat) (g : Mem) : Nat → Int32 → Int32 → Int32 → Option (Int32)
  | 0, _, _, _ => none
  | f + 1, x2, x3, x4 => sBi (sX7_digit g x4) fun r3 => if r3 < 0 then (if x2 = 0 then (some x3) else (some (-x3))) else (sBi (sX7_digit g x4) fun r8 => sX7_numberAt_31 n g f x2 (((10 : Int32) * x3) + r8) (x4 + (1 : Int32)))

def sX7_numberAt (n : Nat) (g : Mem) (x1 : Int32) : Option (Int32) := sBi (sX7_sign g x1) fun r3 => if r3 = (45 : Int32) then (sX7_numberAt_31 n g n (1 : Int32) (0 : Int32) (x1 + (1 : Int32))) else (sX7_numberAt_31 n g n (0 : Int32) (0 : Int32) x1)

def sX7_argument_2 (n : Nat) (g : Mem) : Nat → Int32 → Option (Int32)
  | 0, _ => none
  | f + 1, x2 => if (g 0 6) ≤ x2 then (some (x2 + (1 : Int32))) else (sBi (sX7_sign g x2) fun r4 => if r4 = (44 : Int32) then (some (x2 + (1 : Int32))) else (sX7_argument_2 n g f (x2 + (1 : Int32))))

def sX7_argument (n : Nat) (g : Mem) (x1 : Int32) : Option (Int32) := sX7_argument_2 n g n x1

def sX7_ends (n : Nat) (g : Mem) (x1 : Int32) (x2 : Int32) (x3 : Int32) : Option (Mem) := if x2 = 0 then (some g) else (if x3 = 0 then (sBi (sX7_lays g (((21 : Int32) * x1) + (1 : Int32)) (3 : Int32)) fun g12 => some g12) else (sBi (sX7_outcome n g x1) fun r5 => if r5 = (-3 : Int32) then (some g) else (sBi (sX7_requests g x1 r5) fun g9 => some g9)))

def sX7_executes (n : Nat) (g : Mem) (x1 : Int32) : Option (Int32 × Mem) := sBi (sX7_numberAt n g (x1 + (1 : Int32))) fun r3 => sBi (sX7_argument n g x1) fun r6 => sBi (sX7_numberAt n g r6) fun r9 => sBi (sX7_argument n g x1) fun r12 => sBi (sX7_argument n g r12) fun r15 => sBi (sX7_numberAt n g r15) fun r18 => sBi (sX7_sign g x1) fun r21 => if r21 = 98 then (sBi (sX7_whyNotBegin g r3) fun r25 => if r25 = 0 then (sBi2 (sX7_begins n g r3) fun r30 g31 => if r25 = 0 then (some ((1 : Int32), g31)) else (some ((0 : Int32), g31))) else (if r25 = 0 then (some ((1 : Int32), g)) else (some ((0 : Int32), g)))) else (if r21 = 114 then (sBi (sX7_whyNotRead g r3 r9) fun r36 => if r36 = 0 then (sBi2 (sX7_reads n g r3 r9) fun r41 g42 => if r36 = 0 then (some ((1 : Int32), g42)) else (some ((0 : Int32), g42))) else (if r36 = 0 then (some ((1 : Int32), g)) else (some ((0 : Int32), g)))) else (if r21 = 115 then (sBi (sX7_whyNotSynchronize g r3 r9) fun r47 => if r47 = 0 then (sBi2 (sX7_synchronizes g r3 r9) fun r52 g53 => if r47 = 0 then (some ((1 : Int32), g53)) else (some ((0 : Int32), g53))) else (if r47 = 0 then (some ((1 : Int32), g)) else (some ((0 : Int32), g)))) else (if r21 = 116 then (sBi (sX7_whyNotAdvance g r3) fun r58 => if r58 = 0 then (sBi2 (sX7_advances n g r3) fun r63 g64 => if r58 = 0 then (some ((1 : Int32), g64)) else (some ((0 : Int32), g64))) else (if r58 = 0 then (some ((1 : Int32), g)) else (some ((0 : Int32), g)))) else (if r21 = 119 then (sBi (sX7_whyNotWrite g r3 r9 r18) fun r69 => if r69 = 0 then (sBi2 (sX7_writes n g r3 r9 r18) fun r74 g75 => if r69 = 0 then (some ((1 : Int32), g75)) else (some ((0 : Int32), g75))) else (if r69 = 0 then (some ((1 : Int32), g)) else (some ((0 : Int32), g)))) else (sBi (sX7_whyNot g r3) fun r79 => if r79 = 0 then (sBi (sX7_sign g x1) fun r95 => if r95 = (99 : Int32) then (sBi (sX7_ends n g r3 (1 : Int32) (1 : Int32)) fun g103 => if r79 = 0 then (some ((1 : Int32), g103)) else (some ((0 : Int32), g103))) else (sBi (sX7_ends n g r3 (1 : Int32) (0 : Int32)) fun g99 => if r79 = 0 then (some ((1 : Int32), g99)) else (some ((0 : Int32), g99)))) else (sBi (sX7_sign g x1) fun r83 => if r83 = (99 : Int32) then (sBi (sX7_ends n g r3 (0 : Int32) (1 : Int32)) fun g91 => if r79 = 0 then (some ((1 : Int32), g91)) else (some ((0 : Int32), g91))) else (sBi (sX7_ends n g r3 (0 : Int32) (0 : Int32)) fun g87 => if r79 = 0 then (some ((1 : Int32), g87)) else (some ((0 : Int32), g87)))))))))

def sX7_runText_30 (n : Nat) : Nat → Mem → Int32 → Int32 → Option (Int32 × Mem)
  | 0, _, _, _ => none
  | f + 1, g, x1, x2 => if (g 0 6) ≤ x2 then (some (x1, g)) else (sBi2 (sX7_executes n g x2) fun r4 g5 => if r4 = 0 then (some (x1, g5)) else (sBi (sX7_commandEnd n g5 x2) fun r9 => sX7_runText_30 n f g5 (x1 + (1 : Int32)) (r9 + (1 : Int32))))

def sX7_runText (n : Nat) (g : Mem) : Option (Int32 × Mem) := sBi (sX7_error n g) fun r3 => if r3 = (-1 : Int32) then (sBi2 (sX7_throwsAt g (0 : Int32)) fun r15 g16 => if r15 = 0 then (sBi (sX7_saves n g16) fun g20 => sX7_runText_30 n n g20 (0 : Int32) (0 : Int32)) else (some ((0 : Int32), g16))) else (sBi2 (sX7_throwsAt g (1 : Int32)) fun r7 g8 => if r7 = 0 then (sBi (sX7_saves n g8) fun g12 => sX7_runText_30 n n g12 (0 : Int32) (0 : Int32)) else (some ((0 : Int32), g8)))

def sX7_undo_33 (n : Nat) : Nat → Mem → Int32 → Option (Int32 × Mem)
  | 0, _, _ => none
  | f + 1, g, x1 => if (865 : Int32) ≤ x1 then (some ((g 0 2), g)) else (sIdx (((865 : Int32) * (g 0 2)) + x1) 5190 fun _ => sIdx x1 865 fun _ => sLet (mput g 1 x1.toNatClampNeg (g 2 (((865 : Int32) * (g 0 2)) + x1).toNatClampNeg)) fun g4 => sX7_undo_33 n f g4 (x1 + (1 : Int32)))

def sX7_undo (n : Nat) (g : Mem) : Option (Int32 × Mem) := if (g 0 2) = 0 then (sBi2 (sX7_throwsAt g (1 : Int32)) fun r10 g11 => if r10 = 0 then (sLet (mput g11 0 2 ((g11 0 2) - (1 : Int32))) fun g13 => sX7_undo_33 n n g13 (0 : Int32)) else (some ((0 : Int32), g11))) else (sBi2 (sX7_throwsAt g (0 : Int32)) fun r4 g5 => if r4 = 0 then (sLet (mput g5 0 2 ((g5 0 2) - (1 : Int32))) fun g7 => sX7_undo_33 n n g7 (0 : Int32)) else (some ((0 : Int32), g5)))

def sX7_save_25 (n : Nat) : Nat → Mem → Int32 → Int32 → Option (Int32 × Mem)
  | 0, _, _, _ => none
  | f + 1, g, x1, x2 => if (865 : Int32) ≤ x2 then (sIdx x1 2 fun _ => sLet (mput g 4 x1.toNatClampNeg (1 : Int32)) fun g3 => sIdx (0 : Int32) 865 fun _ => some ((g3 1 (0 : Int32).toNatClampNeg), g3)) else (sIdx x2 865 fun _ => sIdx (((865 : Int32) * x1) + x2) 1730 fun _ => sLet (mput g 3 (((865 : Int32) * x1) + x2).toNatClampNeg (g 1 x2.toNatClampNeg)) fun g7 => sX7_save_25 n f g7 x1 (x2 + (1 : Int32)))

def sX7_save (n : Nat) (g : Mem) (x1 : Int32) : Option (Int32 × Mem) := sBi (sX7_in g x1 (0 : Int32) (1 : Int32)) fun r3 => if r3 = 0 then (sBi2 (sX7_throwsAt g (1 : Int32)) fun r7 g8 => if r7 = 0 then (sX7_save_25 n n g8 x1 (0 : Int32)) else (some ((0 : Int32), g8))) else (sBi2 (sX7_throwsAt g (0 : Int32)) fun r12 g13 => if r12 = 0 then (sX7_save_25 n n g13 x1 (0 : Int32)) else (some ((0 : Int32), g13)))

def sX7_restore_42 (n : Nat) : Nat → Mem → Int32 → Int32 → Option (Int32 × Mem)
  | 0, _, _, _ => none
  | f + 1, g, x1, x2 => if (865 : Int32) ≤ x2 then (sIdx (0 : Int32) 865 fun _ => some ((g 1 (0 : Int32).toNatClampNeg), g)) else (sIdx (((865 : Int32) * x1) + x2) 1730 fun _ => sIdx x2 865 fun _ => sLet (mput g 1 x2.toNatClampNeg (g 3 (((865 : Int32) * x1) + x2).toNatClampNeg)) fun g5 => sX7_restore_42 n f g5 x1 (x2 + (1 : Int32)))

def sX7_restore (n : Nat) (g : Mem) (x1 : Int32) : Option (Int32 × Mem) := sBi (sX7_in g x1 (0 : Int32) (1 : Int32)) fun r3 => if r3 = 0 then (sBi2 (sX7_throwsAt g (1 : Int32)) fun r25 g26 => if r25 = 0 then (sBi (sX7_saves n g26) fun g30 => sX7_restore_42 n n g30 x1 (0 : Int32)) else (some ((0 : Int32), g26))) else (sIdx x1 2 fun _ => if (g 4 x1.toNatClampNeg) = 0 then (sBi2 (sX7_throwsAt g (2 : Int32)) fun r9 g10 => if r9 = 0 then (sBi (sX7_saves n g10) fun g14 => sX7_restore_42 n n g14 x1 (0 : Int32)) else (some ((0 : Int32), g10))) else (sBi2 (sX7_throwsAt g (0 : Int32)) fun r17 g18 => if r17 = 0 then (sBi (sX7_saves n g18) fun g22 => sX7_restore_42 n n g22 x1 (0 : Int32)) else (some ((0 : Int32), g18))))

def sX7_trueTime (g : Mem) : Option (Int32 × Mem) := sLet (mput g 0 7 (0 : Int32)) fun g1 => sIdx (0 : Int32) 865 fun _ => some ((g1 1 (0 : Int32).toNatClampNeg), g1)

def sX7_reading (g : Mem) (x1 : Int32) : Option (Int32 × Mem) := sBi (sX7_isServer g x1) fun r3 => if r3 = 0 then (sBi2 (sX7_throwsAt g (1 : Int32)) fun r7 g8 => if r7 = 0 then (sIdx (0 : Int32) 865 fun _ => sIdx (0 : Int32) 865 fun _ => sBi (sX7_offset g8 x1 (g8 1 (0 : Int32).toNatClampNeg)) fun r14 => some (((g8 1 (0 : Int32).toNatClampNeg) + r14), g8)) else (some ((0 : Int32), g8))) else (sBi2 (sX7_throwsAt g (0 : Int32)) fun r17 g18 => if r17 = 0 then (sIdx (0 : Int32) 865 fun _ => sIdx (0 : Int32) 865 fun _ => sBi (sX7_offset g18 x1 (g18 1 (0 : Int32).toNatClampNeg)) fun r24 => some (((g18 1 (0 : Int32).toNatClampNeg) + r24), g18)) else (some ((0 : Int32), g18)))

def sX7_earliest (g : Mem) (x1 : Int32) : Option (Int32 × Mem) := sBi (sX7_isServer g x1) fun r3 => if r3 = 0 then (sBi2 (sX7_throwsAt g (1 : Int32)) fun r7 g8 => if r7 = 0 then (sIdx (0 : Int32) 865 fun _ => sBi (sX7_earliestAt g8 x1 (g8 1 (0 : Int32).toNatClampNeg)) fun r13 => some (r13, g8)) else (some ((0 : Int32), g8))) else (sBi2 (sX7_throwsAt g (0 : Int32)) fun r16 g17 => if r16 = 0 then (sIdx (0 : Int32) 865 fun _ => sBi (sX7_earliestAt g17 x1 (g17 1 (0 : Int32).toNatClampNeg)) fun r22 => some (r22, g17)) else (some ((0 : Int32), g17)))

def sX7_latest (g : Mem) (x1 : Int32) : Option (Int32 × Mem) := sBi (sX7_isServer g x1) fun r3 => if r3 = 0 then (sBi2 (sX7_throwsAt g (1 : Int32)) fun r7 g8 => if r7 = 0 then (sIdx (0 : Int32) 865 fun _ => sBi (sX7_latestAt g8 x1 (g8 1 (0 : Int32).toNatClampNeg)) fun r13 => some (r13, g8)) else (some ((0 : Int32), g8))) else (sBi2 (sX7_throwsAt g (0 : Int32)) fun r16 g17 => if r16 = 0 then (sIdx (0 : Int32) 865 fun _ => sBi (sX7_latestAt g17 x1 (g17 1 (0 : Int32).toNatClampNeg)) fun r22 => some (r22, g17)) else (some ((0 : Int32), g17)))

def sX7_isSound (g : Mem) (x1 : Int32) : Option (Int32 × Mem) := sBi (sX7_isServer g x1) fun r3 => if r3 = 0 then (sBi2 (sX7_throwsAt g (1 : Int32)) fun r7 g8 => if r7 = 0 then (sIdx (0 : Int32) 865 fun _ => sBi (sX7_isSoundAt g8 x1 (g8 1 (0 : Int32).toNatClampNeg)) fun r13 => if r13 = 0 then (some ((0 : Int32), g8)) else (some ((1 : Int32), g8))) else (some ((0 : Int32), g8))) else (sBi2 (sX7_throwsAt g (0 : Int32)) fun r17 g18 => if r17 = 0 then (sIdx (0 : Int32) 865 fun _ => sBi (sX7_isSoundAt g18 x1 (g18 1 (0 : Int32).toNatClampNeg)) fun r23 => if r23 = 0 then (some ((0 : Int32), g18)) else (some ((1 : Int32), g18))) else (some ((0 : Int32), g18)))

def sX7_nextTimestamp (g : Mem) (x1 : Int32) : Option (Int32 × Mem) := sBi (sX7_isServer g x1) fun r3 => if r3 = 0 then (sBi2 (sX7_throwsAt g (1 : Int32)) fun r7 g8 => if r7 = 0 then (sIdx (0 : Int32) 865 fun _ => sBi (sX7_next g8 x1 (g8 1 (0 : Int32).toNatClampNeg)) fun r13 => some (r13, g8)) else (some ((0 : Int32), g8))) else (sBi2 (sX7_throwsAt g (0 : Int32)) fun r16 g17 => if r16 = 0 then (sIdx (0 : Int32) 865 fun _ => sBi (sX7_next g17 x1 (g17 1 (0 : Int32).toNatClampNeg)) fun r22 => some (r22, g17)) else (some ((0 : Int32), g17)))

def sX7_transactions (g : Mem) : Option (Int32 × Mem) := sLet (mput g 0 7 (0 : Int32)) fun g1 => sIdx (3 : Int32) 865 fun _ => some ((g1 1 (3 : Int32).toNatClampNeg), g1)

def sX7_throwsFor (g : Mem) (x1 : Int32) : Option (Int32 × Mem) := sBi (sX7_isTransaction g x1) fun r3 => if r3 = 0 then (sBi2 (sX7_throwsAt g (1 : Int32)) fun r7 g8 => some (r7, g8)) else (sBi2 (sX7_throwsAt g (0 : Int32)) fun r11 g12 => some (r11, g12))

def sX7_isStamped (g : Mem) (x1 : Int32) : Option (Int32) := sBi (sX7_of g x1 (1 : Int32)) fun r3 => if r3 = (1 : Int32) then (some (1 : Int32)) else (sBi (sX7_of g x1 (1 : Int32)) fun r7 => if r7 = (2 : Int32) then (some (1 : Int32)) else (some (0 : Int32)))

def sX7_state (g : Mem) (x1 : Int32) : Option (Int32 × Mem) := sBi2 (sX7_throwsFor g x1) fun r3 g4 => if r3 = 0 then (sBi (sX7_of g4 x1 (1 : Int32)) fun r8 => some (r8, g4)) else (some ((0 : Int32), g4))

def sX7_timestamp (g : Mem) (x1 : Int32) : Option (Int32 × Mem) := sBi2 (sX7_throwsFor g x1) fun r3 g4 => if r3 = 0 then (sBi (sX7_isStamped g4 x1) fun r8 => if r8 = 0 then (some ((-1 : Int32), g4)) else (sBi (sX7_of g4 x1 (2 : Int32)) fun r12 => some (r12, g4))) else (some ((0 : Int32), g4))

def sX7_requestTime (g : Mem) (x1 : Int32) : Option (Int32 × Mem) := sBi2 (sX7_throwsFor g x1) fun r3 g4 => if r3 = 0 then (sBi (sX7_isStamped g4 x1) fun r8 => if r8 = 0 then (some ((-1 : Int32), g4)) else (sBi (sX7_of g4 x1 (3 : Int32)) fun r12 => some (r12, g4))) else (some ((0 : Int32), g4))

def sX7_commitTime (g : Mem) (x1 : Int32) : Option (Int32 × Mem) := sBi2 (sX7_throwsFor g x1) fun r3 g4 => if r3 = 0 then (sBi (sX7_of g4 x1 (1 : Int32)) fun r8 => if r8 = (2 : Int32) then (sBi (sX7_of g4 x1 (4 : Int32)) fun r12 => some (r12, g4)) else (some ((-1 : Int32), g4))) else (some ((0 : Int32), g4))

def sX7_bufferedValue_19 (g : Mem) (x1 : Int32) (x2 : Int32) : Option (Int32 × Mem) := sBi2 (sX7_throwsAt g (1 : Int32)) fun r4 g5 => if r4 = 0 then (sBi (sX7_of g5 x1 ((5 : Int32) + x2)) fun r9 => some (r9, g5)) else (some ((0 : Int32), g5))

def sX7_bufferedValue (g : Mem) (x1 : Int32) (x2 : Int32) : Option (Int32 × Mem) := sBi (sX7_isTransaction g x1) fun r3 => if r3 = 0 then (sX7_bufferedValue_19 g x1 x2) else (sBi (sX7_isKey g x2) fun r7 => if r7 = 0 then (sX7_bufferedValue_19 g x1 x2) else (sBi2 (sX7_throwsAt g (0 : Int32)) fun r12 g13 => if r12 = 0 then (sBi (sX7_of g13 x1 ((5 : Int32) + x2)) fun r17 => some (r17, g13)) else (some ((0 : Int32), g13))))

def sX7_recordedTimestamp_19 (g : Mem) (x1 : Int32) (x2 : Int32) : Option (Int32 × Mem) := sBi2 (sX7_throwsAt g (1 : Int32)) fun r4 g5 => if r4 = 0 then (sBi (sX7_of g5 x1 ((13 : Int32) + x2)) fun r9 => some (r9, g5)) else (some ((0 : Int32), g5))

def sX7_recordedTimestamp (g : Mem) (x1 : Int32) (x2 : Int32) : Option (Int32 × Mem) := sBi (sX7_isTransaction g x1) fun r3 => if r3 = 0 then (sX7_recordedTimestamp_19 g x1 x2) else (sBi (sX7_isKey g x2) fun r7 => if r7 = 0 then (sX7_recordedTimestamp_19 g x1 x2) else (sBi2 (sX7_throwsAt g (0 : Int32)) fun r12 g13 => if r12 = 0 then (sBi (sX7_of g13 x1 ((13 : Int32) + x2)) fun r17 => some (r17, g13)) else (some ((0 : Int32), g13))))

def sX7_ifCommitted (n : Nat) (g : Mem) (x1 : Int32) : Option (Int32 × Mem) := sBi2 (sX7_throwsFor g x1) fun r3 g4 => if r3 = 0 then (sBi (sX7_of g4 x1 (1 : Int32)) fun r8 => if r8 = 0 then (sBi (sX7_outcome n g4 x1) fun r12 => some (r12, g4)) else (some ((-1 : Int32), g4))) else (some ((0 : Int32), g4))

def sX7_ticksToCommit_38 (n : Nat) : Nat → Mem → Int32 → Int32 → Option (Int32 × Mem)
  | 0, _, _, _ => none
  | f + 1, g, x1, x2 => if (10000 : Int32) < x2 then (some ((-1 : Int32), g)) else (sBi (sX7_of g x1 (2 : Int32)) fun r4 => sBi (sX7_of g x1 (0 : Int32)) fun r7 => sIdx (0 : Int32) 865 fun _ => sBi (sX7_earliestAt g r7 ((g 1 (0 : Int32).toNatClampNeg) + x2)) fun r11 => if r11 ≤ r4 then (sX7_ticksToCommit_38 n f g x1 (x2 + (1 : Int32))) else (some (x2, g)))

def sX7_ticksToCommit (n : Nat) (g : Mem) (x1 : Int32) : Option (Int32 × Mem) := sBi2 (sX7_throwsFor g x1) fun r3 g4 => if r3 = 0 then (sBi (sX7_of g4 x1 (1 : Int32)) fun r8 => if r8 = (1 : Int32) then (sX7_ticksToCommit_38 n n g4 x1 (1 : Int32)) else (sBi (sX7_of g4 x1 (1 : Int32)) fun r12 => if r12 = (2 : Int32) then (some ((0 : Int32), g4)) else (some ((-1 : Int32), g4)))) else (some ((0 : Int32), g4))

def sX7_versions_25 (n : Nat) : Nat → Mem → Int32 → Int32 → Int32 → Option (Int32 × Mem)
  | 0, _, _, _, _ => none
  | f + 1, g, x1, x2, x3 => sIdx (3 : Int32) 865 fun _ => if (g 1 (3 : Int32).toNatClampNeg) ≤ x3 then (some (x2, g)) else (sBi (sX7_isVersion g x3 x1) fun r5 => if r5 = 0 then (sX7_versions_25 n f g x1 (x2 + (0 : Int32)) (x3 + (1 : Int32))) else (sX7_versions_25 n f g x1 (x2 + (1 : Int32)) (x3 + (1 : Int32))))

def sX7_versions (n : Nat) (g : Mem) (x1 : Int32) : Option (Int32 × Mem) := sBi (sX7_isKey g x1) fun r3 => if r3 = 0 then (sBi2 (sX7_throwsAt g (1 : Int32)) fun r7 g8 => if r7 = 0 then (sX7_versions_25 n n g8 x1 (1 : Int32) (0 : Int32)) else (some ((0 : Int32), g8))) else (sBi2 (sX7_throwsAt g (0 : Int32)) fun r12 g13 => if r12 = 0 then (sX7_versions_25 n n g13 x1 (1 : Int32) (0 : Int32)) else (some ((0 : Int32), g13)))

def sX7_stampAt_24 (n : Nat) (g : Mem) (rec8 : Int32 → Int32 → Int32 → Option (Int32)) : Nat → Int32 → Int32 → Int32 → Int32 → Int32 → Option (Int32)
  | 0, _, _, _, _, _ => none
  | f + 1, x1, x2, x3, x4, x5 => sIdx (3 : Int32) 865 fun _ => if (g 1 (3 : Int32).toNatClampNeg) ≤ x5 then (sBi (sX7_isVersion g x3 x1) fun r5 => if r5 = 0 then (rec8 x1 x2 (x3 + (1 : Int32))) else (if x4 = x2 then (sBi (sX7_of g x3 (2 : Int32)) fun r10 => some r10) else (rec8 x1 x2 (x3 + (1 : Int32))))) else (sBi (sX7_isVersion g x5 x1) fun r13 => if r13 = 0 then (sX7_stampAt_24 n g rec8 f x1 x2 x3 (x4 + (0 : Int32)) (x5 + (1 : Int32))) else (sBi (sX7_of g x5 (2 : Int32)) fun r17 => sBi (sX7_of g x3 (2 : Int32)) fun r20 => if r20 ≤ r17 then (sX7_stampAt_24 n g rec8 f x1 x2 x3 (x4 + (0 : Int32)) (x5 + (1 : Int32))) else (sX7_stampAt_24 n g rec8 f x1 x2 x3 (x4 + (1 : Int32)) (x5 + (1 : Int32)))))

def sX7_stampAt_8 (n : Nat) (g : Mem) : Nat → Int32 → Int32 → Int32 → Option (Int32)
  | 0, _, _, _ => none
  | f + 1, x1, x2, x3 => sIdx (3 : Int32) 865 fun _ => if (g 1 (3 : Int32).toNatClampNeg) ≤ x3 then (some (-1 : Int32)) else (sX7_stampAt_24 n g (sX7_stampAt_8 n g f) n x1 x2 x3 (1 : Int32) (0 : Int32))

def sX7_stampAt (n : Nat) (g : Mem) (x1 : Int32) (x2 : Int32) : Option (Int32) := if x2 = 0 then (some (0 : Int32)) else (sX7_stampAt_8 n g n x1 x2 (0 : Int32))

def sX7_versionTimestamp (n : Nat) (g : Mem) (x1 : Int32) (x2 : Int32) : Option (Int32 × Mem) := sBi (sX7_isKey g x1) fun r3 => if r3 = 0 then (sBi2 (sX7_throwsAt g (1 : Int32)) fun r8 g9 => if r8 = 0 then (some ((-1 : Int32), g9)) else (some ((0 : Int32), g9))) else (sBi (sX7_stampAt n g x1 x2) fun r13 => if r13 = (-1 : Int32) then (sBi2 (sX7_throwsAt g (1 : Int32)) fun r22 g23 => if r22 = 0 then (some (r13, g23)) else (some ((0 : Int32), g23))) else (sBi2 (sX7_throwsAt g (0 : Int32)) fun r17 g18 => if r17 = 0 then (some (r13, g18)) else (some ((0 : Int32), g18))))

def sX7_throwsForValue (g : Mem) (x1 : Int32) (x2 : Int32) : Option (Int32 × Mem) := sBi (sX7_isKey g x1) fun r3 => if r3 = 0 then (sBi2 (sX7_throwsAt g (1 : Int32)) fun r16 g17 => some (r16, g17)) else (if 0 ≤ x2 then (sBi2 (sX7_throwsAt g (0 : Int32)) fun r8 g9 => some (r8, g9)) else (sBi2 (sX7_throwsAt g (2 : Int32)) fun r12 g13 => some (r12, g13)))

def sX7_valueAt (n : Nat) (g : Mem) (x1 : Int32) (x2 : Int32) : Option (Int32 × Mem) := sBi2 (sX7_throwsForValue g x1 x2) fun r3 g4 => if r3 = 0 then (sBi (sX7_value n g4 x1 x2) fun r8 => some (r8, g4)) else (some ((0 : Int32), g4))

def sX7_nextApplied_53 (n : Nat) (g : Mem) (rec4 : Int32 → Int32 → Int32 → Option (Int32)) (x1 : Int32) (x2 : Int32) (x3 : Int32) : Option (Int32) := sBi (sX7_of g x3 (1 : Int32)) fun r3 => if r3 = (2 : Int32) then (if x2 = (-1 : Int32) then (rec4 x1 x3 (x3 + (1 : Int32))) else (sBi (sX7_of g x3 (2 : Int32)) fun r9 => sBi (sX7_of g x2 (2 : Int32)) fun r12 => if r12 ≤ r9 then (rec4 x1 x2 (x3 + (1 : Int32))) else (rec4 x1 x3 (x3 + (1 : Int32))))) else (rec4 x1 x2 (x3 + (1 : Int32)))

def sX7_nextApplied_57 (n : Nat) (g : Mem) (rec4 : Int32 → Int32 → Int32 → Option (Int32)) (x1 : Int32) (x2 : Int32) (x3 : Int32) : Option (Int32) := sBi (sX7_of g x3 (1 : Int32)) fun r3 => if r3 = (2 : Int32) then (rec4 x1 x2 (x3 + (1 : Int32))) else (rec4 x1 x2 (x3 + (1 : Int32)))

def sX7_nextApplied_4 (n : Nat) (g : Mem) : Nat → Int32 → Int32 → Int32 → Option (Int32)
  | 0, _, _, _ => none
  | f + 1, x1, x2, x3 => sIdx (3 : Int32) 865 fun _ => if (g 1 (3 : Int32).toNatClampNeg) ≤ x3 then (some x2) else (if x1 = (-1 : Int32) then (sX7_nextApplied_53 n g (sX7_nextApplied_4 n g f) x1 x2 x3) else (sBi (sX7_of g x3 (2 : Int32)) fun r6 => sBi (sX7_of g x1 (2 : Int32)) fun r9 => if 0 < (r6 - r9) then (sX7_nextApplied_53 n g (sX7_nextApplied_4 n g f) x1 x2 x3) else (if (r6 - r9) = 0 then (if x3 ≤ x1 then (sX7_nextApplied_57 n g (sX7_nextApplied_4 n g f) x1 x2 x3) else (sX7_nextApplied_53 n g (sX7_nextApplied_4 n g f) x1 x2 x3)) else (sX7_nextApplied_57 n g (sX7_nextApplied_4 n g f) x1 x2 x3))))

def sX7_nextApplied (n : Nat) (g : Mem) (x1 : Int32) : Option (Int32) := sX7_nextApplied_4 n g n x1 (-1 : Int32) (0 : Int32)

def sX7_replayedValueAt_20 (n : Nat) : Nat → Mem → Int32 → Int32 → Int32 → Int32 → Option (Int32 × Mem)
  | 0, _, _, _, _, _ => none
  | f + 1, g, x1, x2, x3, x4 => if x4 = (-1 : Int32) then (some (x3, g)) else (sBi (sX7_of g x4 (2 : Int32)) fun r4 => if x2 < r4 then (some (x3, g)) else (sBi (sX7_hasWritten g x4 x1) fun r8 => if r8 = 0 then (sBi (sX7_nextApplied n g x4) fun r12 => sX7_replayedValueAt_20 n f g x1 x2 x3 r12) else (sBi (sX7_of g x4 ((5 : Int32) + x1)) fun r15 => sBi (sX7_nextApplied n g x4) fun r18 => sX7_replayedValueAt_20 n f g x1 x2 r15 r18)))

def sX7_replayedValueAt (n : Nat) (g : Mem) (x1 : Int32) (x2 : Int32) : Option (Int32 × Mem) := sBi2 (sX7_throwsForValue g x1 x2) fun r3 g4 => if r3 = 0 then (sBi (sX7_nextApplied n g4 (-1 : Int32)) fun r8 => sX7_replayedValueAt_20 n n g4 x1 x2 (0 : Int32) r8) else (some ((0 : Int32), g4))

def sX7_waitingWriter_23 (n : Nat) : Nat → Mem → Int32 → Int32 → Option (Int32 × Mem)
  | 0, _, _, _ => none
  | f + 1, g, x1, x2 => sIdx (3 : Int32) 865 fun _ => if (g 1 (3 : Int32).toNatClampNeg) ≤ x2 then (some ((-1 : Int32), g)) else (sBi (sX7_of g x2 (1 : Int32)) fun r5 => if r5 = (1 : Int32) then (sBi (sX7_hasWritten g x2 x1) fun r9 => if r9 = 0 then (sX7_waitingWriter_23 n f g x1 (x2 + (1 : Int32))) else (some (x2, g))) else (sX7_waitingWriter_23 n f g x1 (x2 + (1 : Int32))))

def sX7_waitingWriter (n : Nat) (g : Mem) (x1 : Int32) : Option (Int32 × Mem) := sBi (sX7_isKey g x1) fun r3 => if r3 = 0 then (sBi2 (sX7_throwsAt g (1 : Int32)) fun r7 g8 => if r7 = 0 then (sX7_waitingWriter_23 n n g8 x1 (0 : Int32)) else (some ((0 : Int32), g8))) else (sBi2 (sX7_throwsAt g (0 : Int32)) fun r12 g13 => if r12 = 0 then (sX7_waitingWriter_23 n n g13 x1 (0 : Int32)) else (some ((0 : Int32), g13)))

def sX7_readerMark (n : Nat) (g : Mem) (x1 : Int32) : Option (Int32 × Mem) := sBi (sX7_isKey g x1) fun r3 => if r3 = 0 then (sBi2 (sX7_throwsAt g (1 : Int32)) fun r7 g8 => if r7 = 0 then (sBi (sX7_mark n g8 x1) fun r12 => some (r12, g8)) else (some ((0 : Int32), g8))) else (sBi2 (sX7_throwsAt g (0 : Int32)) fun r15 g16 => if r15 = 0 then (sBi (sX7_mark n g16 x1) fun r20 => some (r20, g16)) else (some ((0 : Int32), g16)))

def sX7_safeTime (n : Nat) (g : Mem) : Option (Int32 × Mem) := sLet (mput g 0 7 (0 : Int32)) fun g1 => sBi (sX7_safeNow n g1) fun r4 => some (r4, g1)

def sX7_readFloor (g : Mem) : Option (Int32 × Mem) := sLet (mput g 0 7 (0 : Int32)) fun g1 => sIdx (1 : Int32) 865 fun _ => some ((g1 1 (1 : Int32).toNatClampNeg), g1)

def sX7_ticksOfServers_2 (n : Nat) (g : Mem) : Nat → Int32 → Int32 → Option (Int32)
  | 0, _, _ => none
  | f + 1, x1, x3 => if (10000 : Int32) < x3 then (some (-1 : Int32)) else (sIdx (0 : Int32) 865 fun _ => sBi (sX7_safe n g ((g 1 (0 : Int32).toNatClampNeg) + x3)) fun r5 => if r5 < x1 then (sX7_ticksOfServers_2 n g f x1 (x3 + (1 : Int32))) else (some x3))

def sX7_ticksOfServers (n : Nat) (g : Mem) (x1 : Int32) (x2 : Int32) : Option (Int32) := sX7_ticksOfServers_2 n g n x1 x2

def sX7_ticksOfWaiting_39 (n : Nat) (g : Mem) (rec4 : Int32 → Int32 → Int32 → Option (Int32)) : Nat → Int32 → Int32 → Int32 → Int32 → Option (Int32)
  | 0, _, _, _, _ => none
  | f + 1, x1, x2, x3, x4 => if (10000 : Int32) < x4 then (sBi (sX7_greater g x2 x4) fun r4 => rec4 x1 r4 (x3 + (1 : Int32))) else (sBi (sX7_of g x3 (2 : Int32)) fun r7 => sBi (sX7_of g x3 (0 : Int32)) fun r10 => sIdx (0 : Int32) 865 fun _ => sBi (sX7_earliestAt g r10 ((g 1 (0 : Int32).toNatClampNeg) + x4)) fun r14 => if r7 < r14 then (sBi (sX7_greater g x2 x4) fun r18 => rec4 x1 r18 (x3 + (1 : Int32))) else (sX7_ticksOfWaiting_39 n g rec4 f x1 x2 x3 (x4 + (1 : Int32))))

def sX7_ticksOfWaiting_4 (n : Nat) (g : Mem) : Nat → Int32 → Int32 → Int32 → Option (Int32)
  | 0, _, _, _ => none
  | f + 1, x1, x2, x3 => sIdx (3 : Int32) 865 fun _ => if (g 1 (3 : Int32).toNatClampNeg) ≤ x3 then (if x2 ≤ (10000 : Int32) then (some x2) else (some (-1 : Int32))) else (sBi (sX7_of g x3 (1 : Int32)) fun r6 => if r6 = (1 : Int32) then (sBi (sX7_of g x3 (2 : Int32)) fun r10 => if x1 ≤ (r10 - (1 : Int32)) then (sX7_ticksOfWaiting_4 n g f x1 x2 (x3 + (1 : Int32))) else (sX7_ticksOfWaiting_39 n g (sX7_ticksOfWaiting_4 n g f) n x1 x2 x3 (1 : Int32))) else (sX7_ticksOfWaiting_4 n g f x1 x2 (x3 + (1 : Int32))))

def sX7_ticksOfWaiting (n : Nat) (g : Mem) (x1 : Int32) : Option (Int32) := sX7_ticksOfWaiting_4 n g n x1 (0 : Int32) (0 : Int32)

def sX7_ticksUntilSafe (n : Nat) (g : Mem) (x1 : Int32) : Option (Int32 × Mem) := if 0 ≤ x1 then (sBi2 (sX7_throwsAt g (0 : Int32)) fun r4 g5 => if r4 = 0 then (sBi (sX7_ticksOfWaiting n g5 x1) fun r9 => if r9 = (-1 : Int32) then (some ((-1 : Int32), g5)) else (sBi (sX7_ticksOfServers n g5 x1 r9) fun r13 => some (r13, g5))) else (some ((0 : Int32), g5))) else (sBi2 (sX7_throwsAt g (1 : Int32)) fun r16 g17 => if r16 = 0 then (sBi (sX7_ticksOfWaiting n g17 x1) fun r21 => if r21 = (-1 : Int32) then (some ((-1 : Int32), g17)) else (sBi (sX7_ticksOfServers n g17 x1 r21) fun r25 => some (r25, g17))) else (some ((0 : Int32), g17)))

def sX7_count_4 (n : Nat) (g : Mem) : Nat → Int32 → Int32 → Int32 → Option (Int32)
  | 0, _, _, _ => none
  | f + 1, x1, x2, x3 => sIdx (3 : Int32) 865 fun _ => if (g 1 (3 : Int32).toNatClampNeg) ≤ x3 then (some x2) else (sBi (sX7_of g x3 (1 : Int32)) fun r5 => if r5 = x1 then (sX7_count_4 n g f x1 (x2 + (1 : Int32)) (x3 + (1 : Int32))) else (sX7_count_4 n g f x1 (x2 + (0 : Int32)) (x3 + (1 : Int32))))

def sX7_count (n : Nat) (g : Mem) (x1 : Int32) : Option (Int32) := sX7_count_4 n g n x1 (0 : Int32) (0 : Int32)

def sX7_countInState (n : Nat) (g : Mem) (x1 : Int32) : Option (Int32 × Mem) := sBi (sX7_in g x1 (0 : Int32) (3 : Int32)) fun r3 => if r3 = 0 then (sBi2 (sX7_throwsAt g (1 : Int32)) fun r7 g8 => if r7 = 0 then (sBi (sX7_count n g8 x1) fun r12 => some (r12, g8)) else (some ((0 : Int32), g8))) else (sBi2 (sX7_throwsAt g (0 : Int32)) fun r15 g16 => if r15 = 0 then (sBi (sX7_count n g16 x1) fun r20 => some (r20, g16)) else (some ((0 : Int32), g16)))

def sX7_totalWait_9 (n : Nat) : Nat → Mem → Int32 → Int32 → Option (Int32 × Mem)
  | 0, _, _, _ => none
  | f + 1, g, x1, x2 => sIdx (3 : Int32) 865 fun _ => if (g 1 (3 : Int32).toNatClampNeg) ≤ x2 then (some (x1, g)) else (sBi (sX7_of g x2 (1 : Int32)) fun r5 => if r5 = (2 : Int32) then (sBi (sX7_of g x2 (4 : Int32)) fun r9 => sBi (sX7_of g x2 (3 : Int32)) fun r12 => sX7_totalWait_9 n f g (x1 + (r9 - r12)) (x2 + (1 : Int32))) else (sX7_totalWait_9 n f g (x1 + (0 : Int32)) (x2 + (1 : Int32))))

def sX7_totalWait (n : Nat) (g : Mem) : Option (Int32 × Mem) := sLet (mput g 0 7 (0 : Int32)) fun g1 => sX7_totalWait_9 n n g1 (0 : Int32) (0 : Int32)

def sX7_unsoundUses (g : Mem) : Option (Int32 × Mem) := sLet (mput g 0 7 (0 : Int32)) fun g1 => sIdx (2 : Int32) 865 fun _ => some ((g1 1 (2 : Int32).toNatClampNeg), g1)

def sX7_isInverted_37 (g : Mem) (x1 : Int32) (x2 : Int32) : Option (Int32) := some (0 : Int32)

def sX7_isInverted (g : Mem) (x1 : Int32) (x2 : Int32) : Option (Int32) := sBi (sX7_of g x1 (1 : Int32)) fun r3 => if r3 = (2 : Int32) then (sBi (sX7_isStamped g x2) fun r7 => if r7 = 0 then (sX7_isInverted_37 g x1 x2) else (sBi (sX7_of g x1 (4 : Int32)) fun r11 => sBi (sX7_of g x2 (3 : Int32)) fun r14 => if r14 < r11 then (sX7_isInverted_37 g x1 x2) else (sBi (sX7_of g x1 (2 : Int32)) fun r19 => sBi (sX7_of g x2 (2 : Int32)) fun r22 => if r19 < r22 then (some (0 : Int32)) else (some (1 : Int32))))) else (sX7_isInverted_37 g x1 x2)

def sX7_inversions_21 (n : Nat) (rec9 : Mem → Int32 → Int32 → Option (Int32 × Mem)) : Nat → Mem → Int32 → Int32 → Int32 → Option (Int32 × Mem)
  | 0, _, _, _, _ => none
  | f + 1, g, x1, x2, x3 => sIdx (3 : Int32) 865 fun _ => if (g 1 (3 : Int32).toNatClampNeg) ≤ x3 then (rec9 g x1 (x2 + (1 : Int32))) else (sBi (sX7_isInverted g x2 x3) fun r5 => if r5 = 0 then (sX7_inversions_21 n rec9 f g (x1 + (0 : Int32)) x2 (x3 + (1 : Int32))) else (sX7_inversions_21 n rec9 f g (x1 + (1 : Int32)) x2 (x3 + (1 : Int32))))

def sX7_inversions_9 (n : Nat) : Nat → Mem → Int32 → Int32 → Option (Int32 × Mem)
  | 0, _, _, _ => none
  | f + 1, g, x1, x2 => sIdx (3 : Int32) 865 fun _ => if (g 1 (3 : Int32).toNatClampNeg) ≤ x2 then (some (x1, g)) else (sX7_inversions_21 n (sX7_inversions_9 n f) n g x1 x2 (0 : Int32))

def sX7_inversions (n : Nat) (g : Mem) : Option (Int32 × Mem) := sLet (mput g 0 7 (0 : Int32)) fun g1 => sX7_inversions_9 n n g1 (0 : Int32) (0 : Int32)

def sX7_savedStates (g : Mem) : Option (Int32 × Mem) := sLet (mput g 0 7 (0 : Int32)) fun g1 => some ((g1 0 2), g1)

def sX7_textLength (g : Mem) : Option (Int32 × Mem) := sLet (mput g 0 7 (0 : Int32)) fun g1 => some ((g1 0 6), g1)

