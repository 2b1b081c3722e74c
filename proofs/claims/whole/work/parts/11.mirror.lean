def F_J6_bitCount_0f7a4 (p0 : Int32) : Option (Int32) := nmd ((p0.toUInt32 >>> ((1 : Int32).toUInt32 &&& Int32.toUInt32 31)).toInt32) fun v1 => nmd (((p0 - (v1 &&& 1431655765)).toUInt32 >>> ((2 : Int32).toUInt32 &&& Int32.toUInt32 31)).toInt32) fun v2 => nmd (((p0 - (v1 &&& 1431655765)) &&& 858993459) + (v2 &&& 858993459)) fun v3 => nmd ((v3.toUInt32 >>> ((4 : Int32).toUInt32 &&& Int32.toUInt32 31)).toInt32) fun v4 => nmd ((((v3 + v4) &&& 252645135).toUInt32 >>> ((8 : Int32).toUInt32 &&& Int32.toUInt32 31)).toInt32) fun v5 => nmd (((((v3 + v4) &&& 252645135) + v5).toUInt32 >>> ((16 : Int32).toUInt32 &&& Int32.toUInt32 31)).toInt32) fun v6 => nmd (((((v3 + v4) &&& 252645135) + v5) + v6) &&& 63) fun v7 => some v7
def F_J9_floorMod_7cf53 (p0 : Int32) (p1 : Int32) : Option (Int32) := ck (nz p1) (if 0 ≤ (p0 ^^^ p1) then (some (p0 - p0 / p1 * p1)) else (if (p0 - p0 / p1 * p1) = 0 then (some (p0 - p0 / p1 * p1)) else (some ((p0 - p0 / p1 * p1) + p1))))
def F_X4_isPlace (p0 : Int32) : Option (Int32) := if p0 < 0 then (some 0) else (if 24 ≤ p0 then (some 0) else (some 1))
def F_X4_isPower (p0 : Int32) : Option (Int32) := if p0 < (-9999) then (some 0) else (if 9999 < p0 then (some 0) else (some 1))
def F_X4_asNumber (p0 : Int32) : Option (Int32) := if p0 = 0 then (some 0) else (some 1)
def F_X4_only (p0 : Int32) : Option (Int32) := some ((1 : Int32) <<< (p0 &&& 31))
def F_X4_has (p0 : Int32) (p1 : Int32) : Option (Int32) := if (p0 &&& ((1 : Int32) <<< (p1 &&& 31))) = 0 then (some 0) else (some 1)
def F_X4_lowest_2 : Nat → Int32 → Int32 → Option (Int32)
  | 0, _, _ => none
  | n + 1, x0, x1 => if 24 ≤ x1 then (some (-5)) else (Option.bind (F_X4_has x0 x1) fun r2 => if r2 = 0 then (F_X4_lowest_2 n x0 (x1 + 1)) else (some x1))
def F_X4_lowest (p0 : Int32) : Option (Int32) := F_X4_lowest_2 10000 p0 0
def F_X4_leastCommonMultiple_9 : Nat → Int32 → Int32 → Int32 → Option (Int32)
  | 0, _, _, _ => none
  | n + 1, x0, x1, x2 => if x1 ≤ x2 then (some (x0 * x1)) else (ck (nz x1) (if ((x0 * x2) - (x0 * x2) / x1 * x1) = 0 then (some (x0 * x2)) else (F_X4_leastCommonMultiple_9 n x0 x1 (x2 + 1))))
def F_X4_leastCommonMultiple (p0 : Int32) (p1 : Int32) : Option (Int32) := if 1 ≤ p1 then (F_X4_leastCommonMultiple_9 10000 p0 p1 1) else (some p0)
def F_X1_target (ft : Nat → Int32) (p1 : Int32) : Option (Int32) := Option.bind (F_X4_isPlace p1) fun r1 => if r1 = 0 then (some (-1)) else (ck (ok p1 24) (some (ft (Int32.toNatClampNeg p1))))
def F_X1_source (fu : Nat → Int32) (p1 : Int32) : Option (Int32) := Option.bind (F_X4_isPlace p1) fun r1 => if r1 = 0 then (some (-1)) else (ck (ok p1 24) (some (fu (Int32.toNatClampNeg p1))))
def F_X1_round_7 (ft : Nat → Int32) : Nat → Int32 → Int32 → Int32 → Int32 → Option (Int32)
  | 0, _, _, _, _ => none
  | n + 1, x1, x2, x3, x4 => if 24 ≤ x4 then (some x2) else (Option.bind (F_X4_isPlace x3) fun r2 => if r2 = 0 then (some x2) else (Option.bind (F_X4_has x2 x3) fun r4 => if r4 = 0 then (Option.bind (F_X4_only x3) fun r6 => ck (ok x3 24) (F_X1_round_7 ft n x1 (x2 ||| r6) (ft (Int32.toNatClampNeg x3)) (x4 + 1))) else (some x2)))
def F_X1_round (ft : Nat → Int32) (p1 : Int32) : Option (Int32) := F_X1_round_7 ft 10000 p1 0 p1 0
def F_X1_order_6 (ft : Nat → Int32) : Nat → Int32 → Int32 → Int32 → Option (Int32)
  | 0, _, _, _ => none
  | n + 1, x1, x2, x3 => if 24 ≤ x3 then (some x1) else (Option.bind (F_X4_has x2 x3) fun r2 => if r2 = 0 then (Option.bind (F_X1_round ft x3) fun r4 => Option.bind (F_J6_bitCount_0f7a4 r4) fun r5 => Option.bind (F_X4_leastCommonMultiple x1 r5) fun r6 => F_X1_order_6 ft n r6 (x2 ||| r4) (x3 + 1)) else (F_X1_order_6 ft n x1 x2 (x3 + 1)))
def F_X1_order (ft : Nat → Int32) : Option (Int32) := F_X1_order_6 ft 10000 1 0 0
def F_X1_rounds_6 (ft : Nat → Int32) : Nat → Int32 → Int32 → Int32 → Option (Int32)
  | 0, _, _, _ => none
  | n + 1, x1, x2, x3 => if 24 ≤ x3 then (some x1) else (Option.bind (F_X4_has x2 x3) fun r2 => if r2 = 0 then (Option.bind (F_X1_round ft x3) fun r4 => F_X1_rounds_6 ft n (x1 + 1) (x2 ||| r4) (x3 + 1)) else (F_X1_rounds_6 ft n x1 x2 (x3 + 1)))
def F_X1_rounds (ft : Nat → Int32) : Option (Int32) := F_X1_rounds_6 ft 10000 0 0 0
def F_X1_fixedPlaces_4 (ft : Nat → Int32) : Nat → Int32 → Int32 → Option (Int32)
  | 0, _, _ => none
  | n + 1, x1, x2 => if 24 ≤ x2 then (some x1) else (ck (ok x2 24) (if (ft (Int32.toNatClampNeg x2)) = x2 then (F_X1_fixedPlaces_4 ft n (x1 + 1) (x2 + 1)) else (F_X1_fixedPlaces_4 ft n x1 (x2 + 1))))
def F_X1_fixedPlaces (ft : Nat → Int32) : Option (Int32) := F_X1_fixedPlaces_4 ft 10000 0 0
def F_X1_longestRound_4 (ft : Nat → Int32) : Nat → Int32 → Int32 → Option (Int32)
  | 0, _, _ => none
  | n + 1, x1, x2 => if 24 ≤ x2 then (some x1) else (Option.bind (F_X1_round ft x2) fun r2 => Option.bind (F_J6_bitCount_0f7a4 r2) fun r3 => nmd (if x1 < r3 then r3 else x1) fun v4 => F_X1_longestRound_4 ft n v4 (x2 + 1))
def F_X1_longestRound (ft : Nat → Int32) : Option (Int32) := F_X1_longestRound_4 ft 10000 0 0
def F_X1_isEven (ft : Nat → Int32) : Option (Int32) := Option.bind (F_X1_rounds ft) fun r1 => if (((24 : Int32) - r1) - ((24 : Int32) - r1) / 2 * 2) = 0 then (some 1) else (some 0)
def F_X1_leavesAll (ft : Nat → Int32) (p1 : Int32) : Option (Int32) := Option.bind (F_X1_order ft) fun r1 => if r1 ≤ 0 then (some 0) else (ck (nz r1) (if (p1 - p1 / r1 * r1) = 0 then (some 1) else (some 0)))
def F_X1_targetBehind_29 (ft : Nat → Int32) : Nat → Int32 → Int32 → Int32 → Int32 → Int32 → Int32 → Option (Int32)
  | 0, _, _, _, _, _, _ => none
  | n + 1, x1, x2, x3, x4, x5, x6 => if x4 ≤ x6 then (some x5) else (Option.bind (F_X4_isPlace x5) fun r6 => if r6 = 0 then (some x5) else (ck (ok x5 24) (F_X1_targetBehind_29 ft n x1 x2 x3 x4 (ft (Int32.toNatClampNeg x5)) (x6 + 1))))
def F_X1_targetBehind (ft : Nat → Int32) (p1 : Int32) (p2 : Int32) : Option (Int32) := Option.bind (F_X1_round ft p1) fun r1 => Option.bind (F_J6_bitCount_0f7a4 r1) fun r2 => if 1 ≤ r2 then (Option.bind (F_J9_floorMod_7cf53 p2 r2) fun r4 => F_X1_targetBehind_29 ft 10000 p1 p2 r2 r4 p1 0) else (some p1)
def F_X1_moved_4 (ft : Nat → Int32) : Nat → Int32 → Int32 → Int32 → Option (Int32)
  | 0, _, _, _ => none
  | n + 1, x1, x2, x3 => if 24 ≤ x3 then (some x2) else (Option.bind (F_X4_has x1 x3) fun r2 => if r2 = 0 then (F_X1_moved_4 ft n x1 x2 (x3 + 1)) else (ck (ok x3 24) (Option.bind (F_X4_only (ft (Int32.toNatClampNeg x3))) fun r5 => F_X1_moved_4 ft n x1 (x2 ||| r5) (x3 + 1))))
def F_X1_moved (ft : Nat → Int32) (p1 : Int32) : Option (Int32) := F_X1_moved_4 ft 10000 p1 0 0
def F_X1_movedBy_5 (ft : Nat → Int32) : Nat → Int32 → Int32 → Int32 → Int32 → Option (Int32)
  | 0, _, _, _, _ => none
  | n + 1, x1, x2, x3, x4 => if 24 ≤ x4 then (some x3) else (Option.bind (F_X4_has x1 x4) fun r2 => if r2 = 0 then (F_X1_movedBy_5 ft n x1 x2 x3 (x4 + 1)) else (Option.bind (F_X1_targetBehind ft x4 x2) fun r4 => Option.bind (F_X4_only r4) fun r5 => F_X1_movedBy_5 ft n x1 x2 (x3 ||| r5) (x4 + 1)))
def F_X1_movedBy (ft : Nat → Int32) (p1 : Int32) (p2 : Int32) : Option (Int32) := F_X1_movedBy_5 ft 10000 p1 p2 0 0
def F_X1_movesUntilAlike_11 (ft : Nat → Int32) : Nat → Int32 → Int32 → Int32 → Int32 → Int32 → Option (Int32)
  | 0, _, _, _, _, _ => none
  | n + 1, x1, x2, x3, x4, x5 => if x3 ≤ x5 then (some (-5)) else (if x4 = x2 then (some x5) else (Option.bind (F_X1_moved ft x4) fun r4 => F_X1_movesUntilAlike_11 ft n x1 x2 x3 r4 (x5 + 1)))
def F_X1_movesUntilAlike (ft : Nat → Int32) (p1 : Int32) (p2 : Int32) : Option (Int32) := Option.bind (F_X1_order ft) fun r1 => F_X1_movesUntilAlike_11 ft 10000 p1 p2 r1 p1 0
def F_X1_movesUntilSame (ft : Nat → Int32) (p1 : Int32) : Option (Int32) := Option.bind (F_X1_moved ft p1) fun r1 => Option.bind (F_X1_movesUntilAlike ft r1 p1) fun r2 => some (r2 + 1)
def F_X1_movesUntilMeeting_5 (ft : Nat → Int32) : Nat → Int32 → Int32 → Int32 → Int32 → Option (Int32)
  | 0, _, _, _, _ => none
  | n + 1, x1, x2, x3, x4 => if 24 ≤ x4 then (some (-5)) else (if (x3 &&& x2) = 0 then (Option.bind (F_X1_moved ft x3) fun r3 => F_X1_movesUntilMeeting_5 ft n x1 x2 r3 (x4 + 1)) else (some x4))
def F_X1_movesUntilMeeting (ft : Nat → Int32) (p1 : Int32) (p2 : Int32) : Option (Int32) := F_X1_movesUntilMeeting_5 ft 10000 p1 p2 p1 0
def F_X1_hasLikeNumbersInRounds_2 (ft : Nat → Int32) : Nat → Int32 → Int32 → Int32 → Option (Int32)
  | 0, _, _, _ => none
  | n + 1, x1, x2, x3 => if 24 ≤ x3 then (some 1) else (Option.bind (F_X1_round ft x3) fun r2 => Option.bind (F_J6_bitCount_0f7a4 (x1 &&& r2)) fun r3 => Option.bind (F_J6_bitCount_0f7a4 (x2 &&& r2)) fun r4 => if r3 = r4 then (F_X1_hasLikeNumbersInRounds_2 ft n x1 x2 (x3 + 1)) else (some 0))
def F_X1_hasLikeNumbersInRounds (ft : Nat → Int32) (p1 : Int32) (p2 : Int32) : Option (Int32) := F_X1_hasLikeNumbersInRounds_2 ft 10000 p1 p2 0
def F_X1_send (ft : Nat → Int32) (fu : Nat → Int32) (p1 : Int32) (p2 : Int32) : Option ((Nat → Int32) × (Nat → Int32)) := Option.bind (F_X4_isPlace p1) fun r1 => if r1 = 0 then (some (ft, fu)) else (Option.bind (F_X4_isPlace p2) fun r3 => if r3 = 0 then (some (ft, fu)) else (ck (ok p1 24) (ck (ok p2 24) (some (upd ft (Int32.toNatClampNeg p1) p2, upd fu (Int32.toNatClampNeg p2) p1)))))
def F_X1_swapTargets (ft : Nat → Int32) (fu : Nat → Int32) (p1 : Int32) (p2 : Int32) : Option ((Nat → Int32) × (Nat → Int32)) := Option.bind (F_X1_target ft p1) fun r1 => Option.bind (F_X1_target ft p2) fun r2 => Option.bind (F_X1_send ft fu p1 r2) fun r3 => Option.bind (F_X1_send r3.1 r3.2 p2 r1) fun r4 => some (r4.1, r4.2)
def F_X1_copy (ft : Nat → Int32) (fu : Nat → Int32) (sft : Nat → Int32) (sfu : Nat → Int32) : Option ((Nat → Int32) × (Nat → Int32)) := some (va_cpy sft ft (Int32.toNatClampNeg 0) (Int32.toNatClampNeg 0) (Int32.toNatClampNeg 24), va_cpy sfu fu (Int32.toNatClampNeg 0) (Int32.toNatClampNeg 0) (Int32.toNatClampNeg 24))
def F_X1_turnBack (qt : Nat) (qu : Nat) : Option (Nat × Nat) := some (qu, qt)
