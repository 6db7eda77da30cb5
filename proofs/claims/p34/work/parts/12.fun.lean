/-! The methods as functions of their arguments and of the ints and longs of the cells; by program out of the bytecode. -/
def Ba_change (a1 : Int32) (a2 : Int32) (M : hyM) : hyM :=
  (wI (wI M 4 0 a1) 4 1 a2)

def Ba_numberAt (a1 : Int32) (M : hyM) : Option Int32 :=
  (if (if a1 < (M.1 4 1) then true else (!decide (0 < (M.1 4 0)))) then some 0 else (jdv (a1 - (M.1 4 1)) (M.1 4 0)).bind fun v3 =>
  some (1 + v3))

def Ba_unitsBefore (a1 : Int32) (M : hyM) : Option Int32 :=
  (if (if a1 < (M.1 4 1) then true else (!decide (0 < (M.1 4 0)))) then some a1 else (jrm (a1 - (M.1 4 1)) (M.1 4 0)).bind fun v3 =>
  some v3)

def Ba_unitsFrom (a1 : Int32) (M : hyM) : Option Int32 :=
  (Ba_unitsBefore a1 M).bind fun v2 =>
  some ((if (M.1 4 1) ≤ a1 then (M.1 4 0) else (M.1 4 1)) - v2)

def Ba_divide (a1 : Int32) (M : hyM) : Option Bool :=
  (if (M.1 4 0) ≤ 0 then some false else (jrm a1 (M.1 4 0)).bind fun v2 =>
  some (decide (v2 = 0)))

def In_codeAt (a1 : Int32) (M : hyM) : Int32 :=
  (atf 60 (M.1 29) a1)

def In_isDigit (a1 : Int32) (M : hyM) : Bool :=
  (if a1 < 48 then false else (!decide (57 < a1)))

def Bo_sizeOf (a1 : Int32) (M : hyM) : Int32 :=
  (atf 8 (M.1 27) a1)

def Bo_push (a1 : Int32) (M : hyM) : hyM :=
  (putf (putf M 26 192 (((M.1 25 2) * 24) + (Bo_sizeOf (M.1 25 2) M)) a1) 27 8 ((putf M 26 192 (((M.1 25 2) * 24) + (Bo_sizeOf (M.1 25 2) M)) a1).1 25 2) ((Bo_sizeOf (M.1 25 2) M) + 1))

def Bo_numberAt (a1 : Int32) (a2 : Int32) (M : hyM) : Int32 :=
  (atf 192 (M.1 26) ((a1 * 24) + a2))

def Bo_pushAllAgain_L11 (M : hyM) : Nat → Int32 → hyM → Option (Int32 × hyM)
  | 0, _, _ => none
  | f + 1, x1, M2 =>
  (if (Bo_sizeOf (M.1 25 2) M) ≤ x1 then some (x1, M2) else (some (Bo_push (Bo_numberAt (M2.1 25 2) x1 M2) M2)).bind fun M4 =>
  Bo_pushAllAgain_L11 M f (x1 + 1) M4)

def Bo_pushAllAgain (M : hyM) : Option hyM :=
  (Bo_pushAllAgain_L11 M hyFu 0 M).bind fun (y1, NM2) =>
  some NM2

def Bo_take_L16  : Nat → Int32 → Int32 → hyM → Option (Int32 × Int32 × hyM)
  | 0, _, _, _ => none
  | f + 1, x2, x3, M4 =>
  (if (M4.1 28 1) ≤ x3 then some (x2, x3, M4) else (if (In_isDigit (In_codeAt x3 M4) M4) then Bo_take_L16 f ((10 * x2) + ((In_codeAt x3 M4) - 48)) (x3 + 1) M4 else (if (In_codeAt x3 M4) = 46 then (some (Bo_push x2 M4)).bind fun M8 =>
  Bo_take_L16 f 0 (x3 + 1) M8 else Bo_take_L16 f x2 (x3 + 1) M4)))

def Bo_take (M : hyM) : Option hyM :=
  (some (putf M 27 8 (M.1 25 2) 0)).bind fun M1 =>
  (Bo_take_L16  hyFu 0 0 M1).bind fun (y2, y3, NM4) =>
  (if y2 ≤ 0 then (Bo_pushAllAgain NM4).bind fun M11 =>
  (some (wI M11 25 2 ((M11.1 25 2) + 1))).bind fun M12 =>
  some M12 else (some (Bo_push y2 NM4)).bind fun M13 =>
  (some (wI M13 25 2 ((M13.1 25 2) + 1))).bind fun M14 =>
  some M14)

def Bo_remove_L37 (x2 : Int32) : Nat → Int32 → hyM → Option (Int32 × hyM)
  | 0, _, _ => none
  | f + 1, x6, M7 =>
  (if (Bo_sizeOf (x2 + 1) M7) ≤ x6 then some (x6, M7) else (some (putf M7 26 192 ((x2 * 24) + x6) (Bo_numberAt (x2 + 1) x6 M7))).bind fun M9 =>
  Bo_remove_L37 x2 f (x6 + 1) M9)

def Bo_remove_L12  : Nat → Int32 → hyM → Option (Int32 × hyM)
  | 0, _, _ => none
  | f + 1, x2, M3 =>
  (if (M3.1 25 2) ≤ x2 then some (x2, M3) else (some (putf M3 27 8 x2 (Bo_sizeOf (x2 + 1) M3))).bind fun M5 =>
  (Bo_remove_L37 x2 hyFu 0 M5).bind fun (y6, NM7) =>
  Bo_remove_L12 f (x2 + 1) NM7)

def Bo_remove (a1 : Int32) (M : hyM) : Option hyM :=
  (some (wI M 25 2 ((M.1 25 2) - 1))).bind fun M1 =>
  (Bo_remove_L12  hyFu a1 M1).bind fun (y2, NM3) =>
  some NM3

def Or_phraseAt (a1 : Int32) (M : hyM) : Int32 :=
  (atf 80 (M.1 19) a1)

def Ph_firstOf (a1 : Int32) (M : hyM) : Int32 :=
  (atf 40 (M.1 15) a1)

def Ph_lastOf (a1 : Int32) (M : hyM) : Int32 :=
  (atf 40 (M.1 16) a1)

def Ph_syllableOf (a1 : Int32) (M : hyM) : Int32 :=
  (atf 40 (M.1 14) a1)

def Ve_rowOf (a1 : Int32) (a2 : Int32) (M : hyM) : Int32 :=
  ((a1 * 24) + a2)

def Ve_syllablesOf (a1 : Int32) (a2 : Int32) (M : hyM) : Int32 :=
  (atf 96 (M.1 10) (Ve_rowOf a1 a2 M))

def Ve_hasSyllable (a1 : Int32) (a2 : Int32) (a3 : Int32) (M : hyM) : Bool :=
  (if 24 ≤ a2 then false else (if a3 < 0 then false else (!decide ((Ve_syllablesOf a1 a2 M) ≤ a3))))

def Ve_packedAt (a1 : Int32) (a2 : Int32) (a3 : Int32) (M : hyM) : Int32 :=
  (atf 2880 (M.1 11) (((Ve_rowOf a1 a2 M) * 30) + a3))

def Ve_lengthAt (a1 : Int32) (a2 : Int32) (a3 : Int32) (M : hyM) : Int32 :=
  (((Ve_packedAt a1 a2 a3 M) >>> (7 &&& 31)) &&& 15)

def Ve_widestBelow_L5 (a1 : Int32) (a2 : Int32) (M : hyM) : Nat → Int32 → Int32 → Option (Int32 × Int32)
  | 0, _, _ => none
  | f + 1, x1, x2 =>
  (if 4 ≤ x2 then some (x1, x2) else Ve_widestBelow_L5 a1 a2 M f (if (Ve_hasSyllable x2 a1 a2 M) then (jmax x1 (Ve_lengthAt x2 a1 a2 M)) else x1) (x2 + 1))

def Ve_widestBelow (a1 : Int32) (a2 : Int32) (M : hyM) : Option Int32 :=
  (Ve_widestBelow_L5 a1 a2 M hyFu 0 0).bind fun (y1, y2) =>
  some y1

def Co_widthOf (a1 : Int32) (M : hyM) : Int32 :=
  (atf 40 (M.1 22) a1)

def Co_widen (a1 : Int32) (a2 : Int32) (M : hyM) : hyM :=
  (putf M 22 40 a1 (jmax (Co_widthOf a1 M) a2))

def Co_findWidths_L3  : Nat → Int32 → hyM → Option (Int32 × hyM)
  | 0, _, _ => none
  | f + 1, x1, M2 =>
  (if 40 ≤ x1 then some (x1, M2) else (some (putf M2 22 40 x1 3)).bind fun M4 =>
  Co_findWidths_L3 f (x1 + 1) M4)

def Co_findWidths_L61 (x6 : Int32) (M7 : hyM) : Nat → Int32 → hyM → Option (Int32 × hyM)
  | 0, _, _ => none
  | f + 1, x10, M11 =>
  (if (Ph_lastOf (Or_phraseAt x6 M7) M11) < x10 then some (x10, M11) else (Ve_widestBelow x6 (Ph_syllableOf x10 M11) M11).bind fun v13 =>
  (some (Co_widen x10 (v13 + 1) M11)).bind fun M14 =>
  Co_findWidths_L61 x6 M7 f (x10 + 1) M14)

def Co_findWidths_L29  : Nat → Int32 → hyM → Option (Int32 × hyM)
  | 0, _, _ => none
  | f + 1, x6, M7 =>
  (if (if (M7.1 18 2) ≤ x6 then false else (!decide (24 ≤ x6))) then (Co_findWidths_L61 x6 M7 hyFu (Ph_firstOf (Or_phraseAt x6 M7) M7) M7).bind fun (y10, NM11) =>
  Co_findWidths_L29 f (x6 + 1) NM11 else some (x6, M7))

def Co_findWidths (M : hyM) : Option hyM :=
  (Co_findWidths_L3  hyFu 0 M).bind fun (y1, NM2) =>
  (Co_findWidths_L29  hyFu 0 NM2).bind fun (y6, NM7) =>
  some NM7

def Co_sumOf_L5 (a2 : Int32) (M : hyM) : Nat → Int32 → Int32 → Option (Int32 × Int32)
  | 0, _, _ => none
  | f + 1, x1, x2 =>
  (if a2 < x2 then some (x1, x2) else Co_sumOf_L5 a2 M f (x1 + (Co_widthOf x2 M)) (x2 + 1))

def Co_sumOf (a1 : Int32) (a2 : Int32) (M : hyM) : Option Int32 :=
  (Co_sumOf_L5 a2 M hyFu 0 a1).bind fun (y1, y2) =>
  some y1

def Co_findSystems_L13 (a1 : Int32) : Nat → Int32 → Int32 → Int32 → hyM → Option (Int32 × Int32 × Int32 × hyM)
  | 0, _, _, _, _ => none
  | f + 1, x2, x3, x4, M5 =>
  (if (M5.1 12 5) ≤ x4 then some (x2, x3, x4, M5) else (Co_sumOf (Ph_firstOf x4 M5) (Ph_lastOf x4 M5) M5).bind fun v7 =>
  (some (wI M5 21 4 ((M5.1 21 4) + v7))).bind fun M10 =>
  (some (putf M10 23 40 x4 v7)).bind fun M11 =>
  (some (putf M11 24 40 x4 (if x4 ≤ 0 then x2 else (if (x3 + v7) ≤ a1 then x2 else (x2 + 1))))).bind fun M12 =>
  Co_findSystems_L13 a1 f (if x4 ≤ 0 then x2 else (if (x3 + v7) ≤ a1 then x2 else (x2 + 1))) ((if x4 ≤ 0 then x3 else (if (x3 + v7) ≤ a1 then x3 else 0)) + v7) (x4 + 1) M12)

def Co_findSystems (a1 : Int32) (M : hyM) : Option hyM :=
  (some (wI M 21 4 0)).bind fun M1 =>
  (Co_findSystems_L13 a1 hyFu 0 0 0 M1).bind fun (y2, y3, y4, NM5) =>
  (some (wI NM5 21 3 (if (NM5.1 12 5) ≤ 0 then 0 else (y2 + 1)))).bind fun M16 =>
  some M16

def Co_widthOfPhrase (a1 : Int32) (M : hyM) : Int32 :=
  (atf 40 (M.1 23) a1)

def Co_systemOf (a1 : Int32) (M : hyM) : Int32 :=
  (atf 40 (M.1 24) a1)

def In_push (a1 : Int32) (M : hyM) : hyM :=
  (wI (putf M 29 60 (M.1 28 1) a1) 28 1 (((putf M 29 60 (M.1 28 1) a1).1 28 1) + 1))

def In_isOfSyllable (a1 : Int32) (M : hyM) : Bool :=
  (if a1 < 97 then (if a1 < 65 then (decide (a1 = 39)) else (if a1 ≤ 90 then true else (decide (a1 = 39)))) else (if a1 ≤ 122 then true else (if a1 < 65 then (decide (a1 = 39)) else (if a1 ≤ 90 then true else (decide (a1 = 39))))))

def In_errorAsLine_L4 (M : hyM) : Nat → Int32 → Int32 → Option (Int32 ⊕ (Int32 × Int32))
  | 0, _, _ => none
  | f + 1, x1, x2 =>
  (if (M.1 28 1) ≤ x2 then some (.inr (x1, x2)) else (if (if (In_isOfSyllable (In_codeAt x2 M) M) then (!decide (12 ≤ x1)) else false) then In_errorAsLine_L4 M f (x1 + 1) (x2 + 1) else (if (if (In_codeAt x2 M) = 45 then (!decide (x1 ≤ 0)) else (if (In_codeAt x2 M) = 32 then (!decide (x1 ≤ 0)) else false)) then In_errorAsLine_L4 M f 0 (x2 + 1) else some (.inl x2))))

def In_errorAsLine (M : hyM) : Option Int32 :=
  (In_errorAsLine_L4 M hyFu 0 0).bind fun z => match z with
  | .inl r9 => some r9
  | .inr (y1, y2) =>
  some (M.1 28 1)

def In_goesOn (a1 : Int32) (a2 : Int32) (M : hyM) : Bool :=
  (if ((10 * a1) + (a2 - 48)) ≤ 0 then false else (!decide (20 < ((10 * a1) + (a2 - 48)))))

def Hp_flag (a1 : Bool) (M : hyM) : Int32 :=
  (bI a1)

def In_canDouble (a1 : Int32) (M : hyM) : Bool :=
  (if a1 ≤ 0 then false else (!decide (24 < (2 * a1))))

def In_errorAsMetre_L9 (M : hyM) : Nat → Int32 → Int32 → Bool → Int32 → Option (Int32 ⊕ (Int32 × Int32 × Bool × Int32))
  | 0, _, _, _, _ => none
  | f + 1, x1, x2, x3, x4 =>
  (if (M.1 28 1) ≤ x4 then some (.inr (x1, x2, x3, x4)) else (if (if (In_isDigit (In_codeAt x4 M) M) then (if x3 then false else (In_goesOn x2 (In_codeAt x4 M) M)) else false) then In_errorAsMetre_L9 M f (x1 + (Hp_flag (decide (x2 = 0)) M)) ((10 * x2) + ((In_codeAt x4 M) - 48)) x3 (x4 + 1) else (if (if (In_codeAt x4 M) = 46 then (if x2 ≤ 0 then false else (!decide (24 ≤ x1))) else false) then In_errorAsMetre_L9 M f x1 0 x3 (x4 + 1) else (if (if (In_codeAt x4 M) = 68 then (if x3 then false else (if x2 = 0 then (In_canDouble x1 M) else false)) else false) then In_errorAsMetre_L9 M f x1 x2 true (x4 + 1) else some (.inl x4)))))

def In_errorAsMetre (M : hyM) : Option Int32 :=
  (In_errorAsMetre_L9 M hyFu 0 0 false 0).bind fun z => match z with
  | .inl r9 => some r9
  | .inr (y1, y2, y3, y4) =>
  some (M.1 28 1)

def In_isLine (M : hyM) : Option Bool :=
  (if (M.1 28 1) ≤ 0 then some false else (In_errorAsLine M).bind fun v2 =>
  some (if v2 = (M.1 28 1) then (In_isOfSyllable (In_codeAt ((M.1 28 1) - 1) M) M) else false))

def In_isMetre (M : hyM) : Option Bool :=
  (if (M.1 28 1) ≤ 0 then some false else (In_errorAsMetre M).bind fun v2 =>
  some (if v2 = (M.1 28 1) then (if (In_isDigit (In_codeAt ((M.1 28 1) - 1) M) M) then true else (decide ((In_codeAt ((M.1 28 1) - 1) M) = 68))) else false))

def Jm_floorMod (a1 : Int32) (a2 : Int32) (M : hyM) : Option Int32 :=
  (jrm a1 a2).bind fun v1 =>
  (if (if 0 ≤ (a1 ^^^ a2) then false else (!decide (v1 = 0))) then some (v1 + a2) else some v1)

def Ke_degreeInKey_L11 (v1 : Int32) : Nat → Int32 → Option (Int32 ⊕ (Int32))
  | 0, _ => none
  | f + 1, x2 =>
  (if 7 ≤ x2 then some (.inr (x2)) else (if (atf (hyKl 0) (hyKf 0) x2) = v1 then some (.inl x2) else Ke_degreeInKey_L11 v1 f (x2 + 1)))

def Ke_degreeInKey (a1 : Int32) (a2 : Int32) (M : hyM) : Option Int32 :=
  (Jm_floorMod (a2 - a1) 12 M).bind fun v1 =>
  (Ke_degreeInKey_L11 v1 hyFu 0).bind fun z => match z with
  | .inl r9 => some r9
  | .inr (y2) =>
  some (-1)

def Ke_isRaised (a1 : Int32) (a2 : Int32) (M : hyM) : Option Bool :=
  (Ke_degreeInKey a1 a2 M).bind fun v1 =>
  some (decide (v1 = (-1)))

def Ke_written (a1 : Int32) (a2 : Int32) (M : hyM) : Option Int32 :=
  (Ke_degreeInKey a1 a2 M).bind fun v1 =>
  some (if v1 = (-1) then (a2 - 1) else a2)

def Ke_degreeOf (a1 : Int32) (a2 : Int32) (M : hyM) : Option Int32 :=
  (Ke_degreeInKey a1 a2 M).bind fun v1 =>
  (if v1 = (-1) then (Ke_degreeInKey a1 (a2 - 1) M).bind fun v3 =>
  some v3 else some v1)

def Jm_floorDiv (a1 : Int32) (a2 : Int32) (M : hyM) : Option Int32 :=
  (jdv a1 a2).bind fun v1 =>
  (if (if 0 ≤ (a1 ^^^ a2) then false else (!decide ((v1 * a2) = a1))) then some (v1 - 1) else some v1)

def Ke_stepOf (a1 : Int32) (a2 : Int32) (M : hyM) : Option Int32 :=
  (Ke_degreeOf a1 a2 M).bind fun v1 =>
  (Ke_written a1 a2 M).bind fun v2 =>
  (Jm_floorDiv ((v2 - (atf (hyKl 0) (hyKf 0) (((atf (hyKl 1) (hyKf 1) a1) + v1) - ((atf (hyKl 1) (hyKf 1) a1) + v1) / 7 * 7))) + 2) 12 M).bind fun v3 =>
  some ((7 * v3) + (((atf (hyKl 1) (hyKf 1) a1) + v1) - ((atf (hyKl 1) (hyKf 1) a1) + v1) / 7 * 7))

def Ke_shapeOf (a1 : Int32) (a2 : Int32) (M : hyM) : Option Int32 :=
  (Ke_degreeOf a1 a2 M).bind fun v1 =>
  some (atf (hyKl 2) (hyKf 2) v1)

def Ke_ledgerLines (a1 : Int32) (a2 : Int32) (M : hyM) : Int32 :=
  (if a1 ≤ ((atf (hyKl 3) (hyKf 3) a2) + 8) then (if (atf (hyKl 3) (hyKf 3) a2) ≤ a1 then 0 else (((atf (hyKl 3) (hyKf 3) a2) - a1) / 2)) else ((a1 - ((atf (hyKl 3) (hyKf 3) a2) + 8)) / 2))

def Or_timesOf (a1 : Int32) (M : hyM) : Int32 :=
  (atf 40 (M.1 20) a1)

def Or_push (a1 : Int32) (M : hyM) : hyM :=
  (wI (putf (putf M 19 80 (M.1 18 2) a1) 20 40 a1 ((Or_timesOf a1 (putf M 19 80 (M.1 18 2) a1)) + 1)) 18 2 (((putf (putf M 19 80 (M.1 18 2) a1) 20 40 a1 ((Or_timesOf a1 (putf M 19 80 (M.1 18 2) a1)) + 1)).1 18 2) + 1))

def Re_endingWith_L2 (a1 : Int32) (M : hyM) : Nat → Int32 → Option (Int32 ⊕ (Int32))
  | 0, _ => none
  | f + 1, x1 =>
  (if (M.1 5 3) ≤ x1 then some (.inr (x1)) else (if (atf 3 (M.1 7) x1) = a1 then some (.inl x1) else Re_endingWith_L2 a1 M f (x1 + 1)))

def Re_endingWith (a1 : Int32) (M : hyM) : Option Int32 :=
  (Re_endingWith_L2 a1 M hyFu 0).bind fun z => match z with
  | .inl r9 => some r9
  | .inr (y1) =>
  some (-1)

def Re_firstOf (a1 : Int32) (M : hyM) : Int32 :=
  (atf 3 (M.1 6) a1)

def Re_lastAgainOf (a1 : Int32) (M : hyM) : Int32 :=
  ((atf 3 (M.1 7) a1) - (atf 3 (M.1 8) a1))

def Or_pushAgain_L2 (a2 : Int32) : Nat → Int32 → hyM → Option (Int32 × hyM)
  | 0, _, _ => none
  | f + 1, x1, M2 =>
  (if a2 < x1 then some (x1, M2) else (some (Or_push x1 M2)).bind fun M4 =>
  Or_pushAgain_L2 a2 f (x1 + 1) M4)

def Or_pushAgain (a1 : Int32) (a2 : Int32) (M : hyM) : Option hyM :=
  (Or_pushAgain_L2 a2 hyFu a1 M).bind fun (y1, NM2) =>
  some NM2

def Or_find_L7 (a1 : Int32) : Nat → Int32 → hyM → Option (Int32 × hyM)
  | 0, _, _ => none
  | f + 1, x2, M3 =>
  (if a1 ≤ x2 then some (x2, M3) else (some (putf M3 20 40 x2 0)).bind fun M5 =>
  Or_find_L7 a1 f (x2 + 1) M5)

def Or_find_L29 (a1 : Int32) : Nat → Int32 → hyM → Option (Int32 × hyM)
  | 0, _, _ => none
  | f + 1, x7, M8 =>
  (if a1 ≤ x7 then some (x7, M8) else (some (Or_push x7 M8)).bind fun M10 =>
  (Re_endingWith x7 M10).bind fun v11 =>
  (if v11 = (-1) then Or_find_L29 a1 f (x7 + 1) M10 else (Or_pushAgain (Re_firstOf v11 M10) (Re_lastAgainOf v11 M10) M10).bind fun M13 =>
  Or_find_L29 a1 f (x7 + 1) M13))

def Or_find (a1 : Int32) (M : hyM) : Option hyM :=
  (some (wI M 18 2 0)).bind fun M1 =>
  (Or_find_L7 a1 hyFu 0 M1).bind fun (y2, NM3) =>
  (Or_find_L29 a1 hyFu 0 NM3).bind fun (y7, NM8) =>
  some NM8

def Ph_open (a1 : Int32) (M : hyM) : hyM :=
  (wI (putf (putf M 15 40 (M.1 12 5) a1) 17 40 ((putf M 15 40 (M.1 12 5) a1).1 12 5) 0) 12 5 (((putf (putf M 15 40 (M.1 12 5) a1) 17 40 ((putf M 15 40 (M.1 12 5) a1).1 12 5) 0).1 12 5) + 1))

def Hp_hasBit (a1 : Int64) (a2 : Int32) (M : hyM) : Bool :=
  (!decide ((lg_cmp ((jlushr a1 a2) &&& 1) 0) = 0))

def Ph_syllablesOf (a1 : Int32) (M : hyM) : Int32 :=
  (atf 40 (M.1 17) a1)

def Ph_take (a1 : Int32) (a2 : Bool) (M : hyM) : hyM :=
  (putf (putf (putf (putf M 16 40 ((M.1 12 5) - 1) a1) 13 40 a1 ((M.1 12 5) - 1)) 14 40 a1 (if a2 then (-1) else (Ph_syllablesOf ((M.1 12 5) - 1) (putf (putf M 16 40 ((M.1 12 5) - 1) a1) 13 40 a1 ((M.1 12 5) - 1))))) 17 40 ((M.1 12 5) - 1) ((Ph_syllablesOf ((M.1 12 5) - 1) (putf (putf (putf M 16 40 ((M.1 12 5) - 1) a1) 13 40 a1 ((M.1 12 5) - 1)) 14 40 a1 (if a2 then (-1) else (Ph_syllablesOf ((M.1 12 5) - 1) (putf (putf M 16 40 ((M.1 12 5) - 1) a1) 13 40 a1 ((M.1 12 5) - 1)))))) + (Hp_flag (!a2) (putf (putf (putf M 16 40 ((M.1 12 5) - 1) a1) 13 40 a1 ((M.1 12 5) - 1)) 14 40 a1 (if a2 then (-1) else (Ph_syllablesOf ((M.1 12 5) - 1) (putf (putf M 16 40 ((M.1 12 5) - 1) a1) 13 40 a1 ((M.1 12 5) - 1))))))))

def Ph_find_L9  : Nat → Bool → Int32 → hyM → Option (Bool × Int32 × hyM)
  | 0, _, _, _ => none
  | f + 1, x2, x3, M4 =>
  (if (M4.1 1 4) ≤ x3 then some (x2, x3, M4) else (if x2 then (some (Ph_open x3 M4)).bind fun M11 =>
  (some (Ph_take x3 (if x2 then false else (Hp_hasBit (M11.2 1 2) x3 M11)) M11)).bind fun M14 =>
  Ph_find_L9 f (Hp_hasBit (M14.2 1 3) x3 M14) (x3 + 1) M14 else (some (Ph_take x3 (if x2 then false else (Hp_hasBit (M4.2 1 2) x3 M4)) M4)).bind fun M9 =>
  Ph_find_L9 f (Hp_hasBit (M9.2 1 3) x3 M9) (x3 + 1) M9))

def Ph_find (M : hyM) : Option hyM :=
  (some (wI M 12 5 0)).bind fun M1 =>
  (Ph_find_L9  hyFu true 0 M1).bind fun (y2, y3, NM4) =>
  some NM4

def Ph_phraseOf (a1 : Int32) (M : hyM) : Int32 :=
  (atf 40 (M.1 13) a1)

def Ph_notesOf (a1 : Int32) (M : hyM) : Int32 :=
  (((Ph_lastOf a1 M) - (Ph_firstOf a1 M)) + 1)

def Re_push (a1 : Int32) (a2 : Int32) (a3 : Int32) (M : hyM) : hyM :=
  (wI (putf (putf (putf M 6 3 (M.1 5 3) a1) 7 3 ((putf M 6 3 (M.1 5 3) a1).1 5 3) a2) 8 3 ((putf (putf M 6 3 (M.1 5 3) a1) 7 3 ((putf M 6 3 (M.1 5 3) a1).1 5 3) a2).1 5 3) a3) 5 3 (((putf (putf (putf M 6 3 (M.1 5 3) a1) 7 3 ((putf M 6 3 (M.1 5 3) a1).1 5 3) a2) 8 3 ((putf (putf M 6 3 (M.1 5 3) a1) 7 3 ((putf M 6 3 (M.1 5 3) a1).1 5 3) a2).1 5 3) a3).1 5 3) + 1))

def Re_touch_L2 (a1 : Int32) (a2 : Int32) (M : hyM) : Nat → Int32 → Option (Bool ⊕ (Int32))
  | 0, _ => none
  | f + 1, x1 =>
  (if (M.1 5 3) ≤ x1 then some (.inr (x1)) else (if (if (atf 3 (M.1 7) x1) < a1 then false else (!decide (a2 < (atf 3 (M.1 6) x1)))) then some (.inl true) else Re_touch_L2 a1 a2 M f (x1 + 1)))

def Re_touch (a1 : Int32) (a2 : Int32) (M : hyM) : Option Bool :=
  (Re_touch_L2 a1 a2 M hyFu 0).bind fun z => match z with
  | .inl r9 => some r9
  | .inr (y1) =>
  some false

def Re_keepWithin_L12 (a1 : Int32) (M : hyM) : Nat → Int32 → hyM → Option (Int32 × hyM)
  | 0, _, _ => none
  | f + 1, x2, M3 =>
  (if (M.1 5 3) ≤ x2 then some (x2, M3) else (if a1 ≤ (atf 3 (M3.1 7) x2) then Re_keepWithin_L12 a1 M f (x2 + 1) M3 else (some (Re_push (atf 3 (M3.1 6) x2) (atf 3 (M3.1 7) x2) (atf 3 (M3.1 8) x2) M3)).bind fun M6 =>
  Re_keepWithin_L12 a1 M f (x2 + 1) M6))

def Re_keepWithin (a1 : Int32) (M : hyM) : Option hyM :=
  (some (wI M 5 3 0)).bind fun M1 =>
  (Re_keepWithin_L12 a1 M hyFu 0 M1).bind fun (y2, NM3) =>
  some NM3

def Tu_restart (a1 : Int32) (M : hyM) : hyM :=
  (wI (wL (wL (wI M 1 4 0) 1 2 0) 1 3 0) 1 5 a1)

def Tu_changePitch (a1 : Int32) (a2 : Int32) (a3 : Int32) (M : hyM) : hyM :=
  (putf M 3 160 ((a1 * 4) + a2) a3)

def Tu_push (a1 : Int32) (a2 : Int32) (a3 : Int32) (a4 : Int32) (a5 : Int32) (M : hyM) : Option hyM :=
  (some (putf M 2 40 (M.1 1 4) a1)).bind fun M1 =>
  (some (Tu_changePitch (M1.1 1 4) 0 a2 M1)).bind fun M2 =>
  (some (Tu_changePitch (M2.1 1 4) 1 a3 M2)).bind fun M3 =>
  (some (Tu_changePitch (M3.1 1 4) 2 a4 M3)).bind fun M4 =>
  (some (Tu_changePitch (M4.1 1 4) 3 a5 M4)).bind fun M5 =>
  (some (wI M5 1 4 ((M5.1 1 4) + 1))).bind fun M6 =>
  some M6

def Hp_withBit (a1 : Int64) (a2 : Int32) (a3 : Bool) (M : hyM) : Int64 :=
  (if a3 then (a1 ||| (jlshl 1 a2)) else (a1 &&& ((jlshl 1 a2) ^^^ (-1))))

def Tu_pop (M : hyM) : hyM :=
  (wL (wL (wI M 1 4 ((M.1 1 4) - 1)) 1 2 (Hp_withBit ((wI M 1 4 ((M.1 1 4) - 1)).2 1 2) ((wI M 1 4 ((M.1 1 4) - 1)).1 1 4) false (wI M 1 4 ((M.1 1 4) - 1)))) 1 3 (Hp_withBit ((wL (wI M 1 4 ((M.1 1 4) - 1)) 1 2 (Hp_withBit ((wI M 1 4 ((M.1 1 4) - 1)).2 1 2) ((wI M 1 4 ((M.1 1 4) - 1)).1 1 4) false (wI M 1 4 ((M.1 1 4) - 1)))).2 1 3) ((wL (wI M 1 4 ((M.1 1 4) - 1)) 1 2 (Hp_withBit ((wI M 1 4 ((M.1 1 4) - 1)).2 1 2) ((wI M 1 4 ((M.1 1 4) - 1)).1 1 4) false (wI M 1 4 ((M.1 1 4) - 1)))).1 1 4) false (wL (wI M 1 4 ((M.1 1 4) - 1)) 1 2 (Hp_withBit ((wI M 1 4 ((M.1 1 4) - 1)).2 1 2) ((wI M 1 4 ((M.1 1 4) - 1)).1 1 4) false (wI M 1 4 ((M.1 1 4) - 1))))))

def Tu_lengthOf (a1 : Int32) (M : hyM) : Int32 :=
  (atf 40 (M.1 2) a1)

def Tu_pitchOf (a1 : Int32) (a2 : Int32) (M : hyM) : Int32 :=
  (atf 160 (M.1 3) ((a1 * 4) + a2))

def Tu_startOf_L4 (a1 : Int32) (M : hyM) : Nat → Int32 → Int32 → Option (Int32 × Int32)
  | 0, _, _ => none
  | f + 1, x1, x2 =>
  (if a1 ≤ x2 then some (x1, x2) else Tu_startOf_L4 a1 M f (x1 + (Tu_lengthOf x2 M)) (x2 + 1))

def Tu_startOf (a1 : Int32) (M : hyM) : Option Int32 :=
  (Tu_startOf_L4 a1 M hyFu 0 0).bind fun (y1, y2) =>
  some y1

def Tu_canMove_L2 (a1 : Int32) (M : hyM) : Nat → Int32 → Option (Bool ⊕ (Int32))
  | 0, _ => none
  | f + 1, x1 =>
  (if ((M.1 1 4) * 4) ≤ x1 then some (.inr (x1)) else (if (if ((atf 160 (M.1 3) x1) + a1) < 36 then true else (!decide (((atf 160 (M.1 3) x1) + a1) ≤ 84))) then some (.inl false) else Tu_canMove_L2 a1 M f (x1 + 1)))

def Tu_canMove (a1 : Int32) (M : hyM) : Option Bool :=
  (Tu_canMove_L2 a1 M hyFu 0).bind fun z => match z with
  | .inl r9 => some r9
  | .inr (y1) =>
  some true

def Tu_move_L2 (a1 : Int32) : Nat → Int32 → hyM → Option (Int32 × hyM)
  | 0, _, _ => none
  | f + 1, x1, M2 =>
  (if ((M2.1 1 4) * 4) ≤ x1 then some (x1, M2) else (some (putf M2 3 160 x1 ((atf 160 (M2.1 3) x1) + a1))).bind fun M4 =>
  Tu_move_L2 a1 f (x1 + 1) M4)

def Tu_move (a1 : Int32) (M : hyM) : Option hyM :=
  (Tu_move_L2 a1 hyFu 0 M).bind fun (y1, NM2) =>
  (Jm_floorMod ((NM2.1 1 5) + a1) 12 NM2).bind fun v6 =>
  (some (wI NM2 1 5 v6)).bind fun M7 =>
  some M7

def Tu_goParallel (a1 : Int32) (a2 : Int32) (a3 : Int32) (M : hyM) : Option Bool :=
  (if 1 ≤ a1 then (Jm_floorMod ((Tu_pitchOf a1 a2 M) - (Tu_pitchOf a1 a3 M)) 12 M).bind fun v6 =>
  (if (if (if (Tu_pitchOf a1 a2 M) ≤ (Tu_pitchOf (a1 - 1) a2 M) then false else (!decide ((Tu_pitchOf a1 a3 M) ≤ (Tu_pitchOf (a1 - 1) a3 M)))) then (if v6 = 0 then true else (decide (v6 = 7))) else (if (if (Tu_pitchOf (a1 - 1) a2 M) ≤ (Tu_pitchOf a1 a2 M) then false else (!decide ((Tu_pitchOf (a1 - 1) a3 M) ≤ (Tu_pitchOf a1 a3 M)))) then (if v6 = 0 then true else (decide (v6 = 7))) else false)) then (Jm_floorMod ((Tu_pitchOf (a1 - 1) a2 M) - (Tu_pitchOf (a1 - 1) a3 M)) 12 M).bind fun v13 =>
  some (decide (v6 = v13)) else some false) else some false)

def Tu_parallelsTo_L19 (a1 : Int32) (M : hyM) (x3 : Int32) : Nat → Int32 → Int32 → Int32 → Option (Int32 × Int32 × Int32)
  | 0, _, _, _ => none
  | f + 1, x5, x6, x7 =>
  (if 4 ≤ x7 then some (x5, x6, x7) else (Tu_goParallel a1 x3 x7 M).bind fun v9 =>
  Tu_parallelsTo_L19 a1 M x3 f (if v9 then (x5 ||| (1 <<< (x6 &&& 31))) else x5) (x6 + 1) (x7 + 1))

def Tu_parallelsTo_L7 (a1 : Int32) (M : hyM) : Nat → Int32 → Int32 → Int32 → Option (Int32 × Int32 × Int32)
  | 0, _, _, _ => none
  | f + 1, x1, x2, x3 =>
  (if 4 ≤ x3 then some (x1, x2, x3) else (Tu_parallelsTo_L19 a1 M x3 hyFu x1 x2 (x3 + 1)).bind fun (y5, y6, y7) =>
  Tu_parallelsTo_L7 a1 M f y5 y6 (x3 + 1))

def Tu_parallelsTo (a1 : Int32) (M : hyM) : Option Int32 :=
  (Tu_parallelsTo_L7 a1 M hyFu 0 0 0).bind fun (y1, y2, y3) =>
  some y1

def Tu_notesWithParallels_L4 (M : hyM) : Nat → Int32 → Int32 → Option (Int32 × Int32)
  | 0, _, _ => none
  | f + 1, x1, x2 =>
  (if (M.1 1 4) ≤ x2 then some (x1, x2) else (Tu_parallelsTo x2 M).bind fun v4 =>
  Tu_notesWithParallels_L4 M f (x1 + (Hp_flag (!decide (v4 = 0)) M)) (x2 + 1))

def Tu_notesWithParallels (M : hyM) : Option Int32 :=
  (Tu_notesWithParallels_L4 M hyFu 0 0).bind fun (y1, y2) =>
  some y1

def Ve_push (a1 : Int32) (a2 : Int32) (a3 : Int32) (a4 : Bool) (M : hyM) : hyM :=
  (putf (putf M 11 2880 ((a1 * 30) + (atf 96 (M.1 10) a1)) ((a2 + (a3 <<< (7 &&& 31))) + ((Hp_flag a4 M) <<< (11 &&& 31)))) 10 96 a1 ((atf 96 (M.1 10) a1) + 1))

def Ve_take_L27 (a1 : Int32) (a2 : Int32) (M : hyM) : Nat → Int32 → Int32 → Int32 → hyM → Option (Int32 × Int32 × Int32 × hyM)
  | 0, _, _, _, _ => none
  | f + 1, x2, x3, x4, M5 =>
  (if (M5.1 28 1) ≤ x4 then some (x2, x3, x4, M5) else (if (In_isOfSyllable (In_codeAt x4 M5) M5) then Ve_take_L27 a1 a2 M f (if x3 = 0 then (In_codeAt x4 M5) else x2) (x3 + 1) (x4 + 1) M5 else (some (Ve_push (Ve_rowOf a1 a2 M) x2 x3 (decide ((In_codeAt x4 M5) = 45)) M5)).bind fun M11 =>
  Ve_take_L27 a1 a2 M f x2 0 (x4 + 1) M11))

def Ve_take (a1 : Int32) (a2 : Int32) (M : hyM) : Option hyM :=
  (some (putf M 10 96 (Ve_rowOf a1 a2 M) 0)).bind fun M1 =>
  (Ve_take_L27 a1 a2 M hyFu 0 0 0 M1).bind fun (y2, y3, y4, NM5) =>
  (some (Ve_push (Ve_rowOf a1 a2 M) y2 y3 false NM5)).bind fun M14 =>
  some M14

def Ve_removeLines_L4 (a1 : Int32) : Nat → Int32 → Int32 → hyM → Option (Int32 × Int32 × hyM)
  | 0, _, _, _ => none
  | f + 1, x1, x2, M3 =>
  (if 24 ≤ x2 then some (x1, x2, M3) else (some (putf M3 10 96 (Ve_rowOf a1 x2 M3) 0)).bind fun M6 =>
  Ve_removeLines_L4 a1 f (x1 + (Hp_flag (!decide ((Ve_syllablesOf a1 x2 M3) ≤ 0)) M3)) (x2 + 1) M6)

def Ve_removeLines (a1 : Int32) (M : hyM) : Option (Int32 × hyM) :=
  (Ve_removeLines_L4 a1 hyFu 0 0 M).bind fun (y1, y2, NM3) =>
  some (y1, NM3)

def Ve_isLinked (a1 : Int32) (a2 : Int32) (a3 : Int32) (M : hyM) : Bool :=
  (!decide (((Ve_packedAt a1 a2 a3 M) >>> (11 &&& 31)) = 0))

def Ve_wordsOf_L5 (a1 : Int32) (a2 : Int32) (M : hyM) : Nat → Int32 → Int32 → Option (Int32 × Int32)
  | 0, _, _ => none
  | f + 1, x1, x2 =>
  (if (Ve_syllablesOf a1 a2 M) ≤ x2 then some (x1, x2) else Ve_wordsOf_L5 a1 a2 M f (x1 + (Hp_flag (!(Ve_isLinked a1 a2 x2 M)) M)) (x2 + 1))

def Ve_wordsOf (a1 : Int32) (a2 : Int32) (M : hyM) : Option Int32 :=
  (Ve_wordsOf_L5 a1 a2 M hyFu 0 0).bind fun (y1, y2) =>
  some y1

def Ve_longestOf_L5 (a1 : Int32) (a2 : Int32) (M : hyM) : Nat → Int32 → Int32 → Option (Int32 × Int32)
  | 0, _, _ => none
  | f + 1, x1, x2 =>
  (if (Ve_syllablesOf a1 a2 M) ≤ x2 then some (x1, x2) else Ve_longestOf_L5 a1 a2 M f (jmax x1 (Ve_lengthAt a1 a2 x2 M)) (x2 + 1))

def Ve_longestOf (a1 : Int32) (a2 : Int32) (M : hyM) : Option Int32 :=
  (Ve_longestOf_L5 a1 a2 M hyFu 0 0).bind fun (y1, y2) =>
  some y1

def Ve_signAt (a1 : Int32) (a2 : Int32) (a3 : Int32) (M : hyM) : Int32 :=
  ((Ve_packedAt a1 a2 a3 M) &&& 127)

def Hp_checkRange (a1 : Int32) (a2 : Int32) (a3 : Int32) (M : hyM) : (Nat ⊕ Unit) :=
  (if (if a1 < a2 then true else (!decide (a1 ≤ a3))) then (.inl 1) else (.inr ()))

def Hp_layOut (M : hyM) : Option hyM :=
  (Ph_find M).bind fun M1 =>
  (Re_keepWithin (M1.1 12 5) M1).bind fun M2 =>
  (Or_find (M2.1 12 5) M2).bind fun M3 =>
  (Co_findWidths M3).bind fun M4 =>
  (Co_findSystems (M4.1 0 9) M4).bind fun M5 =>
  some M5

def Hp_begin_L42  : Nat → Int32 → hyM → Option (Int32 × hyM)
  | 0, _, _ => none
  | f + 1, x7, M8 =>
  (if 4 ≤ x7 then some (x7, M8) else (Ve_removeLines x7 M8).bind fun (v11, M10) =>
  Hp_begin_L42 f (x7 + 1) M10)

def Hp_begin (a1 : Int32) (M : hyM) : Option ((Nat ⊕ Int32) × hyM) :=
  (match Hp_checkRange a1 0 11 M with
  | .inl k2 => some ((.inl k2), M)
  | .inr r3 => (some (Tu_restart a1 M)).bind fun M4 =>
  (some (Ba_change 4 0 M4)).bind fun M5 =>
  (some (wI M5 5 3 0)).bind fun M6 =>
  (Hp_begin_L42  hyFu 0 M6).bind fun (y7, NM8) =>
  (some (wI NM8 0 9 80)).bind fun M13 =>
  (Hp_layOut M13).bind fun M14 =>
  some ((.inr (M.1 1 4)), M14))

def Hp_checkPitch (a1 : Int32) (M : hyM) : (Nat ⊕ Unit) :=
  (match Hp_checkRange a1 36 84 M with
  | .inl k2 => (.inl k2)
  | .inr r3 => (.inr ()))

def Hp_addNote (a1 : Int32) (a2 : Int32) (a3 : Int32) (a4 : Int32) (a5 : Int32) (M : hyM) : Option ((Nat ⊕ Int32) × hyM) :=
  (match Hp_checkRange a1 1 8 M with
  | .inl k2 => some ((.inl k2), M)
  | .inr r3 => (match Hp_checkPitch a2 M with
  | .inl k5 => some ((.inl k5), M)
  | .inr r6 => (match Hp_checkPitch a3 M with
  | .inl k8 => some ((.inl k8), M)
  | .inr r9 => (match Hp_checkPitch a4 M with
  | .inl k11 => some ((.inl k11), M)
  | .inr r12 => (match Hp_checkPitch a5 M with
  | .inl k14 => some ((.inl k14), M)
  | .inr r15 => (if (M.1 1 4) < 40 then (Tu_push a1 a2 a3 a4 a5 M).bind fun M17 =>
  (Hp_layOut M17).bind fun M18 =>
  some ((.inr ((M18.1 1 4) - 1)), M18) else some ((.inl 2), M)))))))

def Hp_dropNote (M : hyM) : Option ((Nat ⊕ Int32) × hyM) :=
  (if 0 < (M.1 1 4) then (some (Tu_pop M)).bind fun M2 =>
  (Hp_layOut M2).bind fun M3 =>
  some ((.inr (M3.1 1 4)), M3) else some ((.inl 2), M))

def Hp_checkIndex (a1 : Int32) (a2 : Int32) (M : hyM) : (Nat ⊕ Unit) :=
  (if (if a1 < 0 then true else (!decide (a1 < a2))) then (.inl 3) else (.inr ()))

def Hp_setPitch (a1 : Int32) (a2 : Int32) (a3 : Int32) (M : hyM) : ((Nat ⊕ Int32) × hyM) :=
  (match Hp_checkIndex a1 (M.1 1 4) M with
  | .inl k2 => ((.inl k2), M)
  | .inr r3 => (match Hp_checkIndex a2 4 M with
  | .inl k5 => ((.inl k5), M)
  | .inr r6 => (match Hp_checkPitch a3 M with
  | .inl k8 => ((.inl k8), M)
  | .inr r9 => ((.inr (Tu_pitchOf a1 a2 M)), (Tu_changePitch a1 a2 a3 M)))))

def Hp_mark (a1 : Int32) (a2 : Bool) (a3 : Bool) (M : hyM) : Option ((Nat ⊕ Int32) × hyM) :=
  (match Hp_checkIndex a1 (M.1 1 4) M with
  | .inl k2 => some ((.inl k2), M)
  | .inr r3 => (if a2 then (some (wL M 1 3 (Hp_withBit (M.2 1 3) a1 a3 M))).bind fun M7 =>
  (Hp_layOut M7).bind fun M8 =>
  some ((.inr (M8.1 12 5)), M8) else (some (wL M 1 2 (Hp_withBit (M.2 1 2) a1 a3 M))).bind fun M5 =>
  (Hp_layOut M5).bind fun M6 =>
  some ((.inr (M6.1 12 5)), M6)))

def Hp_setBars (a1 : Int32) (a2 : Int32) (M : hyM) : ((Nat ⊕ Int32) × hyM) :=
  (match Hp_checkRange a1 2 24 M with
  | .inl k2 => ((.inl k2), M)
  | .inr r3 => (match Hp_checkRange a2 0 (a1 - 1) M with
  | .inl k5 => ((.inl k5), M)
  | .inr r6 => ((.inr (M.1 4 0)), (Ba_change a1 a2 M))))

def Hp_repeat (a1 : Int32) (a2 : Int32) (a3 : Int32) (M : hyM) : Option ((Nat ⊕ Int32) × hyM) :=
  (match Hp_checkIndex a1 (M.1 12 5) M with
  | .inl k2 => some ((.inl k2), M)
  | .inr r3 => (match Hp_checkIndex a2 (M.1 12 5) M with
  | .inl k5 => some ((.inl k5), M)
  | .inr r6 => (match Hp_checkRange a3 0 (a2 - a1) M with
  | .inl k8 => some ((.inl k8), M)
  | .inr r9 => (if (M.1 5 3) < 3 then (Re_touch a1 a2 M).bind fun v11 =>
  (if v11 then some ((.inl 2), M) else (some (Re_push a1 a2 a3 M)).bind fun M13 =>
  (Hp_layOut M13).bind fun M14 =>
  some ((.inr (M14.1 18 2)), M14)) else some ((.inl 2), M)))))

def Hp_clearRepeats (M : hyM) : Option (Int32 × hyM) :=
  (some (wI M 5 3 0)).bind fun M1 =>
  (Hp_layOut M1).bind fun M2 =>
  some ((M.1 5 3), M2)

def Hp_transpose (a1 : Int32) (M : hyM) : Option ((Nat ⊕ Int32) × hyM) :=
  (match Hp_checkRange a1 (-24) 24 M with
  | .inl k2 => some ((.inl k2), M)
  | .inr r3 => (Tu_canMove a1 M).bind fun v4 =>
  (if v4 then (Tu_move a1 M).bind fun M6 =>
  some ((.inr (M6.1 1 5)), M6) else some ((.inl 2), M)))

def Hp_setWidth (a1 : Int32) (M : hyM) : Option ((Nat ⊕ Int32) × hyM) :=
  (match Hp_checkRange a1 20 200 M with
  | .inl k2 => some ((.inl k2), M)
  | .inr r3 => (some (wI M 0 9 a1)).bind fun M4 =>
  (Hp_layOut M4).bind fun M5 =>
  some ((.inr (M5.1 21 3)), M5))

def Hp_append (a1 : Int32) (M : hyM) : ((Nat ⊕ Int32) × hyM) :=
  (match Hp_checkRange a1 32 126 M with
  | .inl k2 => ((.inl k2), M)
  | .inr r3 => (if (M.1 28 1) < 60 then ((.inr ((In_push a1 M).1 28 1)), (In_push a1 M)) else ((.inl 2), M)))

def Hp_clearInput (M : hyM) : (Int32 × hyM) :=
  ((M.1 28 1), (wI M 28 1 0))

def Hp_firstError (a1 : Bool) (M : hyM) : Option Int32 :=
  (if a1 then (In_errorAsMetre M).bind fun v3 =>
  some v3 else (In_errorAsLine M).bind fun v2 =>
  some v2)

def Hp_setLine (a1 : Int32) (a2 : Int32) (M : hyM) : Option ((Nat ⊕ Int32) × hyM) :=
  (match Hp_checkIndex a1 4 M with
  | .inl k2 => some ((.inl k2), M)
  | .inr r3 => (match Hp_checkIndex a2 24 M with
  | .inl k5 => some ((.inl k5), M)
  | .inr r6 => (In_isLine M).bind fun v7 =>
  (if v7 then (Ve_take a1 a2 M).bind fun M9 =>
  (some (wI M9 28 1 0)).bind fun M10 =>
  (Hp_layOut M10).bind fun M11 =>
  some ((.inr (Ve_syllablesOf a1 a2 M11)), M11) else some ((.inl 1), M))))

def Hp_clearVerse (a1 : Int32) (M : hyM) : Option ((Nat ⊕ Int32) × hyM) :=
  (match Hp_checkIndex a1 4 M with
  | .inl k2 => some ((.inl k2), M)
  | .inr r3 => (Ve_removeLines a1 M).bind fun (v5, M4) =>
  (Hp_layOut M4).bind fun M6 =>
  some ((.inr v5), M6))

def Hp_addMetre (M : hyM) : Option ((Nat ⊕ Int32) × hyM) :=
  (In_isMetre M).bind fun v1 =>
  (if v1 then (if (M.1 25 2) < 8 then (Bo_take M).bind fun M4 =>
  (some (wI M4 28 1 0)).bind fun M5 =>
  some ((.inr ((M5.1 25 2) - 1)), M5) else some ((.inl 2), M)) else some ((.inl 1), M))

def Hp_dropMetre (a1 : Int32) (M : hyM) : Option ((Nat ⊕ Int32) × hyM) :=
  (match Hp_checkIndex a1 (M.1 25 2) M with
  | .inl k2 => some ((.inl k2), M)
  | .inr r3 => (Bo_remove a1 M).bind fun M4 =>
  some ((.inr (M4.1 25 2)), M4))

def Hp_noteProperty (a1 : Int32) (a2 : Int32) (M : hyM) : Option Int32 :=
  (Tu_startOf a1 M).bind fun v1 =>
  (if a2 = 0 then some (Tu_lengthOf a1 M) else (if a2 = 1 then some (Hp_flag (decide ((Ph_syllableOf a1 M) = (-1))) M) else (if a2 = 2 then some (Ph_phraseOf a1 M) else (if a2 = 3 then some (a1 - (Ph_firstOf (Ph_phraseOf a1 M) M)) else (if a2 = 4 then (Ba_numberAt v1 M).bind fun v13 =>
  some v13 else (if a2 = 5 then (Ba_unitsBefore v1 M).bind fun v14 =>
  some v14 else (if a2 = 6 then (Ba_unitsFrom v1 M).bind fun v15 =>
  some (Hp_flag (!decide ((Tu_lengthOf a1 M) ≤ v15)) M) else (if a2 = 7 then some (Co_widthOf a1 M) else (Tu_parallelsTo a1 M).bind fun v10 =>
  some v10))))))))

def Hp_note (a1 : Int32) (a2 : Int32) (M : hyM) : Option (Nat ⊕ Int32) :=
  (match Hp_checkIndex a1 (M.1 1 4) M with
  | .inl k2 => some (.inl k2)
  | .inr r3 => (match Hp_checkRange a2 0 8 M with
  | .inl k5 => some (.inl k5)
  | .inr r6 => (Hp_noteProperty a1 a2 M).bind fun v7 =>
  some (.inr v7)))

def Hp_partProperty (a1 : Int32) (a2 : Int32) (a3 : Int32) (M : hyM) : Option Int32 :=
  (Ke_isRaised (M.1 1 5) (Tu_pitchOf a1 a2 M) M).bind fun v1 =>
  (if a3 = 0 then some (Tu_pitchOf a1 a2 M) else (if a3 = 1 then (Ke_degreeOf (M.1 1 5) (Tu_pitchOf a1 a2 M) M).bind fun v8 =>
  some v8 else (if a3 = 2 then (Ke_stepOf (M.1 1 5) (Tu_pitchOf a1 a2 M) M).bind fun v9 =>
  some v9 else (if a3 = 3 then some (Hp_flag v1 M) else (if a3 = 4 then (if v1 then some (-1) else (Ke_shapeOf (M.1 1 5) (Tu_pitchOf a1 a2 M) M).bind fun v11 =>
  some v11) else (Ke_stepOf (M.1 1 5) (Tu_pitchOf a1 a2 M) M).bind fun v7 =>
  some (Ke_ledgerLines v7 (a2 / 2) M))))))

def Hp_part (a1 : Int32) (a2 : Int32) (a3 : Int32) (M : hyM) : Option (Nat ⊕ Int32) :=
  (match Hp_checkIndex a1 (M.1 1 4) M with
  | .inl k2 => some (.inl k2)
  | .inr r3 => (match Hp_checkIndex a2 4 M with
  | .inl k5 => some (.inl k5)
  | .inr r6 => (match Hp_checkRange a3 0 5 M with
  | .inl k8 => some (.inl k8)
  | .inr r9 => (Hp_partProperty a1 a2 a3 M).bind fun v10 =>
  some (.inr v10))))

def Hp_headsOf (a1 : Int32) (a2 : Int32) (M : hyM) : Option Int32 :=
  (Ke_stepOf (M.1 1 5) (Tu_pitchOf a1 (2 * a2) M) M).bind fun v1 =>
  (Ke_stepOf (M.1 1 5) (Tu_pitchOf a1 ((2 * a2) + 1) M) M).bind fun v2 =>
  some (((Hp_flag (decide ((Tu_pitchOf a1 (2 * a2) M) = (Tu_pitchOf a1 ((2 * a2) + 1) M))) M) + (2 * (Hp_flag (if (decide ((Tu_pitchOf a1 (2 * a2) M) = (Tu_pitchOf a1 ((2 * a2) + 1) M))) then false else (!decide (1 < (jabs (v1 - v2))))) M))) + (4 * (Hp_flag (!decide ((Tu_pitchOf a1 ((2 * a2) + 1) M) ≤ (Tu_pitchOf a1 (2 * a2) M))) M)))

def Hp_heads (a1 : Int32) (a2 : Int32) (M : hyM) : Option (Nat ⊕ Int32) :=
  (match Hp_checkIndex a1 (M.1 1 4) M with
  | .inl k2 => some (.inl k2)
  | .inr r3 => (match Hp_checkIndex a2 2 M with
  | .inl k5 => some (.inl k5)
  | .inr r6 => (Hp_headsOf a1 a2 M).bind fun v7 =>
  some (.inr v7)))

def Hp_phraseProperty (a1 : Int32) (a2 : Int32) (M : hyM) : Int32 :=
  (if a2 = 0 then (Ph_firstOf a1 M) else (if a2 = 1 then (Ph_lastOf a1 M) else (if a2 = 2 then (Ph_syllablesOf a1 M) else (if a2 = 3 then (Co_widthOfPhrase a1 M) else (if a2 = 4 then (Co_systemOf a1 M) else (Or_timesOf a1 M))))))

def Hp_phrase (a1 : Int32) (a2 : Int32) (M : hyM) : (Nat ⊕ Int32) :=
  (match Hp_checkIndex a1 (M.1 12 5) M with
  | .inl k2 => (.inl k2)
  | .inr r3 => (match Hp_checkRange a2 0 5 M with
  | .inl k5 => (.inl k5)
  | .inr r6 => (.inr (Hp_phraseProperty a1 a2 M))))

def Hp_sung (a1 : Int32) (M : hyM) : (Nat ⊕ Int32) :=
  (match Hp_checkIndex a1 (M.1 18 2) M with
  | .inl k2 => (.inl k2)
  | .inr r3 => (.inr (Or_phraseAt a1 M)))

def Hp_syllablesSung (a1 : Int32) (M : hyM) : Int32 :=
  (Ph_syllablesOf (Or_phraseAt a1 M) M)

def Hp_firstMisfit_L2 (a1 : Int32) (M : hyM) : Nat → Int32 → Option (Int32 ⊕ (Int32))
  | 0, _ => none
  | f + 1, x1 =>
  (if 24 ≤ x1 then some (.inr (x1)) else (if (Ve_syllablesOf a1 x1 M) = (if (M.1 18 2) ≤ x1 then 0 else (Hp_syllablesSung x1 M)) then Hp_firstMisfit_L2 a1 M f (x1 + 1) else some (.inl x1)))

def Hp_firstMisfit (a1 : Int32) (M : hyM) : Option Int32 :=
  (Hp_firstMisfit_L2 a1 M hyFu 0).bind fun z => match z with
  | .inl r9 => some r9
  | .inr (y1) =>
  some (if (M.1 18 2) ≤ 24 then (-1) else 24)

def Hp_fit (a1 : Int32) (M : hyM) : Option (Nat ⊕ Int32) :=
  (match Hp_checkIndex a1 4 M with
  | .inl k2 => some (.inl k2)
  | .inr r3 => (Hp_firstMisfit a1 M).bind fun v4 =>
  some (.inr v4))

def Hp_lineProperty (a1 : Int32) (a2 : Int32) (a3 : Int32) (M : hyM) : Option Int32 :=
  (if a3 = 0 then some (Ve_syllablesOf a1 a2 M) else (if a3 = 1 then (Ve_wordsOf a1 a2 M).bind fun v4 =>
  some v4 else (Ve_longestOf a1 a2 M).bind fun v3 =>
  some v3))

def Hp_line (a1 : Int32) (a2 : Int32) (a3 : Int32) (M : hyM) : Option (Nat ⊕ Int32) :=
  (match Hp_checkIndex a1 4 M with
  | .inl k2 => some (.inl k2)
  | .inr r3 => (match Hp_checkIndex a2 24 M with
  | .inl k5 => some (.inl k5)
  | .inr r6 => (match Hp_checkRange a3 0 2 M with
  | .inl k8 => some (.inl k8)
  | .inr r9 => (Hp_lineProperty a1 a2 a3 M).bind fun v10 =>
  some (.inr v10))))

def Hp_belowProperty (a1 : Int32) (a2 : Int32) (a3 : Int32) (a4 : Int32) (M : hyM) : Int32 :=
  (if (Ve_hasSyllable a1 a2 (Ph_syllableOf ((Ph_firstOf (Or_phraseAt a2 M) M) + a3) M) M) then (if a4 = 0 then (Ph_syllableOf ((Ph_firstOf (Or_phraseAt a2 M) M) + a3) M) else (if a4 = 1 then (Ve_lengthAt a1 a2 (Ph_syllableOf ((Ph_firstOf (Or_phraseAt a2 M) M) + a3) M) M) else (if a4 = 2 then (Ve_signAt a1 a2 (Ph_syllableOf ((Ph_firstOf (Or_phraseAt a2 M) M) + a3) M) M) else (Hp_flag (Ve_isLinked a1 a2 (Ph_syllableOf ((Ph_firstOf (Or_phraseAt a2 M) M) + a3) M) M) M)))) else (-1))

def Hp_below (a1 : Int32) (a2 : Int32) (a3 : Int32) (a4 : Int32) (M : hyM) : (Nat ⊕ Int32) :=
  (match Hp_checkIndex a1 4 M with
  | .inl k2 => (.inl k2)
  | .inr r3 => (match Hp_checkIndex a2 (M.1 18 2) M with
  | .inl k5 => (.inl k5)
  | .inr r6 => (match Hp_checkIndex a3 (Ph_notesOf (Or_phraseAt a2 M) M) M with
  | .inl k8 => (.inl k8)
  | .inr r9 => (match Hp_checkRange a4 0 3 M with
  | .inl k11 => (.inl k11)
  | .inr r12 => (.inr (Hp_belowProperty a1 a2 a3 a4 M))))))

def Hp_distanceOf_L24 (a1 : Int32) (M : hyM) : Nat → Int32 → Int32 → Option (Int32 × Int32)
  | 0, _, _ => none
  | f + 1, x2, x3 =>
  (if (M.1 18 2) ≤ x3 then some (x2, x3) else Hp_distanceOf_L24 a1 M f (x2 + (jabs ((Bo_numberAt a1 x3 M) - (Hp_syllablesSung x3 M)))) (x3 + 1))

def Hp_distanceOf (a1 : Int32) (M : hyM) : Option Int32 :=
  (if (Bo_sizeOf a1 M) = (M.1 18 2) then (Hp_distanceOf_L24 a1 M hyFu 0 0).bind fun (y2, y3) =>
  some y2 else some (-1))

def Hp_distance (a1 : Int32) (M : hyM) : Option (Nat ⊕ Int32) :=
  (match Hp_checkIndex a1 (M.1 25 2) M with
  | .inl k2 => some (.inl k2)
  | .inr r3 => (Hp_distanceOf a1 M).bind fun v4 =>
  some (.inr v4))

def Hp_nearest_L6 (M : hyM) : Nat → Int32 → Int32 → Int32 → Option (Int32 × Int32 × Int32)
  | 0, _, _, _ => none
  | f + 1, x1, x2, x3 =>
  (if (M.1 25 2) ≤ x3 then some (x1, x2, x3) else (Hp_distanceOf x3 M).bind fun v5 =>
  Hp_nearest_L6 M f (if v5 = (-1) then x1 else (if x1 = (-1) then x3 else (if x2 ≤ v5 then x1 else x3))) (if v5 = (-1) then x2 else (if x1 = (-1) then v5 else (if x2 ≤ v5 then x2 else v5))) (x3 + 1))

def Hp_nearest (M : hyM) : Option Int32 :=
  (Hp_nearest_L6 M hyFu (-1) (-1) 0).bind fun (y1, y2, y3) =>
  some y1

def Hp_metre (a1 : Int32) (a2 : Int32) (M : hyM) : (Nat ⊕ Int32) :=
  (match Hp_checkIndex a1 (M.1 25 2) M with
  | .inl k2 => (.inl k2)
  | .inr r3 => (if (if a2 < 0 then true else (!decide (a2 < (Bo_sizeOf a1 M)))) then (.inr (-1)) else (.inr (Bo_numberAt a1 a2 M))))

def Hp_countOfTune (a1 : Int32) (M : hyM) : Int32 :=
  (if a1 = 0 then (M.1 1 4) else (if a1 = 1 then (M.1 1 5) else (if a1 = 2 then (M.1 12 5) else (if a1 = 3 then (M.1 18 2) else (if a1 = 4 then (M.1 5 3) else (if a1 = 5 then (M.1 4 0) else (M.1 4 1)))))))

def Hp_fittingVerses_L4 (M : hyM) : Nat → Int32 → Int32 → Option (Int32 × Int32)
  | 0, _, _ => none
  | f + 1, x1, x2 =>
  (if 4 ≤ x2 then some (x1, x2) else (Hp_firstMisfit x2 M).bind fun v4 =>
  Hp_fittingVerses_L4 M f (if v4 = (-1) then (x1 ||| (1 <<< (x2 &&& 31))) else x1) (x2 + 1))

def Hp_fittingVerses (M : hyM) : Option Int32 :=
  (Hp_fittingVerses_L4 M hyFu 0 0).bind fun (y1, y2) =>
  some y1

def Hp_countOfPage (a1 : Int32) (M : hyM) : Option Int32 :=
  (Tu_startOf (M.1 1 4) M).bind fun v1 =>
  (if a1 = 7 then some v1 else (if a1 = 8 then (Ba_divide v1 M).bind fun v9 =>
  some (Hp_flag v9 M) else (if a1 = 9 then some (M.1 0 9) else (if a1 = 10 then some (M.1 21 3) else (if a1 = 11 then some (M.1 25 2) else (if a1 = 12 then (Hp_fittingVerses M).bind fun v10 =>
  some v10 else (Tu_notesWithParallels M).bind fun v8 =>
  some v8))))))

def Hp_count (a1 : Int32) (M : hyM) : Option (Nat ⊕ Int32) :=
  (match Hp_checkRange a1 0 13 M with
  | .inl k2 => some (.inl k2)
  | .inr r3 => (if 7 ≤ a1 then (Hp_countOfPage a1 M).bind fun v5 =>
  some (.inr v5) else some (.inr (Hp_countOfTune a1 M))))

def Hp_meanWidth (M : hyM) : Option UInt64 :=
  (if 0 < (M.1 21 3) then (ckD (FP.ddiv (FP.i2d (M.1 21 4)) (FP.i2d (M.1 21 3)))).bind fun d2 =>
  some d2 else some FP.dconst0)

def La_at (a1 : Int32) (a2 : Int32) (M : hyM) : Option Int32 :=
  (jrm (jiushr a1 1) a2).bind fun v1 =>
  some v1

def La_end (a1 : Int32) (M : hyM) : Option Bool :=
  (ldE 60 (M.1 31) (5 * a1)).bind fun v1 =>
  (if (v1 &&& 2) = 0 then (ldE 6 (M.1 30) 1).bind fun v3 =>
  some (decide (a1 = (v3 - 1))) else some true)

def La_phraseOf_L5 (a1 : Int32) (M : hyM) : Nat → Int32 → Int32 → Option (Int32 × Int32)
  | 0, _, _ => none
  | f + 1, x1, x2 =>
  (if a1 ≤ x2 then some (x1, x2) else (La_end x2 M).bind fun v4 =>
  La_phraseOf_L5 a1 M f (x1 + (bI v4)) (x2 + 1))

def La_phraseOf (a1 : Int32) (M : hyM) : Option Int32 :=
  (La_phraseOf_L5 a1 M hyFu 0 0).bind fun (y1, y2) =>
  some y1

def La_phrases (M : hyM) : Option Int32 :=
  (ldE 6 (M.1 30) 1).bind fun v1 =>
  (if v1 = 0 then some 0 else (ldE 6 (M.1 30) 1).bind fun v3 =>
  (La_phraseOf (v3 - 1) M).bind fun v4 =>
  some (v4 + 1))

def La_first_L2 (a1 : Int32) (M : hyM) : Nat → Int32 → Option (Int32)
  | 0, _ => none
  | f + 1, x1 =>
  (La_phraseOf x1 M).bind fun v2 =>
  (if a1 ≤ v2 then some (x1) else La_first_L2 a1 M f (x1 + 1))

def La_first (a1 : Int32) (M : hyM) : Option Int32 :=
  (La_first_L2 a1 M hyFu 0).bind fun (y1) =>
  some y1

def La_last_L6 (a1 : Int32) (M : hyM) : Nat → Int32 → Option (Int32)
  | 0, _ => none
  | f + 1, x2 =>
  (La_phraseOf x2 M).bind fun v3 =>
  (if v3 ≤ a1 then some (x2) else La_last_L6 a1 M f (x2 + (-1)))

def La_last (a1 : Int32) (M : hyM) : Option Int32 :=
  (ldE 6 (M.1 30) 1).bind fun v1 =>
  (La_last_L6 a1 M hyFu (v1 - 1)).bind fun (y2) =>
  some y2

def La_slurred (a1 : Int32) (M : hyM) : Option Bool :=
  (ldE 60 (M.1 31) (5 * a1)).bind fun v1 =>
  (if (if (v1 &&& 1) = 1 then (!decide (a1 ≤ 0)) else false) then (La_end (a1 - 1) M).bind fun v4 =>
  some (!v4) else some false)

def La_syllables_L6 (a2 : Int32) (M : hyM) : Nat → Int32 → Int32 → Option (Int32 × Int32)
  | 0, _, _ => none
  | f + 1, x1, x2 =>
  (if a2 < x2 then some (x1, x2) else (La_slurred x2 M).bind fun v4 =>
  La_syllables_L6 a2 M f (x1 + (bI (!v4))) (x2 + 1))

def La_syllables (a1 : Int32) (a2 : Int32) (M : hyM) : Option Int32 :=
  (La_syllables_L6 a2 M hyFu 0 a1).bind fun (y1, y2) =>
  some y1

def La_sung_L22 (x2 : Int32) (M3 : hyM) : Nat → Int32 → Int32 → Option (Int32 × Int32)
  | 0, _, _ => none
  | f + 1, x6, x7 =>
  (ldE 6 (M3.1 30) 5).bind fun v8 =>
  (if v8 ≤ x7 then some (x6, x7) else (ldE 9 (M3.1 32) (3 * x7)).bind fun v10 =>
  La_sung_L22 x2 M3 f ((if v10 = x2 then x7 else x6) : Int32) (x7 + 1))

def La_sung_L88 (y6 : Int32) (x16 : Int32) : Nat → Int32 → Int32 → hyM → Option (Int32 × Int32 × hyM)
  | 0, _, _, _ => none
  | f + 1, x20, x21, M22 =>
  (ldE 9 (M22.1 32) ((3 * y6) + 1)).bind fun v23 =>
  (if x16 = 0 then (if (v23 - 0) < x21 then some (x20, x21, M22) else (stE M22 34 30 x20 x21).bind fun M29 =>
  La_sung_L88 y6 x16 f (x20 + 1) (x21 + 1) M29) else (ldE 9 (M22.1 32) ((3 * y6) + 2)).bind fun v25 =>
  (if (v23 - v25) < x21 then some (x20, x21, M22) else (stE M22 34 30 x20 x21).bind fun M27 =>
  La_sung_L88 y6 x16 f (x20 + 1) (x21 + 1) M27))

def La_sung_L74 (y6 : Int32) : Nat → Int32 → Int32 → hyM → Option (Int32 × Int32 × hyM)
  | 0, _, _, _ => none
  | f + 1, x15, x16, M17 =>
  (if 2 ≤ x16 then some (x15, x16, M17) else (ldE 9 (M17.1 32) (3 * y6)).bind fun v19 =>
  (La_sung_L88 y6 x16 hyFu x15 v19 M17).bind fun (y20, y21, NM22) =>
  La_sung_L74 y6 f y20 (x16 + 1) NM22)

def La_sung_L6  : Nat → Int32 → Int32 → hyM → Option (Int32 × Int32 × hyM)
  | 0, _, _, _ => none
  | f + 1, x1, x2, M3 =>
  (La_phrases M3).bind fun v4 =>
  (if v4 ≤ x2 then some (x1, x2, M3) else (La_sung_L22 x2 M3 hyFu (-1) 0).bind fun (y6, y7) =>
  (if 0 ≤ y6 then (La_sung_L74 y6 hyFu x1 0 M3).bind fun (y15, y16, NM17) =>
  (ldE 9 (NM17.1 32) ((3 * y6) + 1)).bind fun v33 =>
  La_sung_L6 f y15 (v33 + 1) NM17 else (stE M3 34 30 x1 x2).bind fun M35 =>
  La_sung_L6 f (x1 + 1) (x2 + 1) M35))

def La_sung (M : hyM) : Option (Int32 × hyM) :=
  (La_sung_L6  hyFu 0 0 M).bind fun (y1, y2, NM3) =>
  some (y1, NM3)

def La_size_L2 (a1 : Int32) : Nat → Int32 → Option (Int32)
  | 0, _ => none
  | f + 1, x1 =>
  (if (if 6 ≤ x1 then false else (!decide (((a1 >>> ((4 * x1) &&& 31)) &&& 15) ≤ 0))) then La_size_L2 a1 f (x1 + 1) else some (x1))

def La_size (a1 : Int32) (M : hyM) : Option Int32 :=
  (La_size_L2 a1 hyFu 0).bind fun (y1) =>
  some y1

def La_below (a1 : Int32) (a2 : Int32) (a3 : Int32) (M : hyM) : Option Int32 :=
  (La_slurred a3 M).bind fun v1 =>
  (if (if v1 then true else (if 7 < a2 then true else (!decide (a1 ≤ 1)))) then some 0 else (La_phraseOf a3 M).bind fun v5 =>
  (La_first v5 M).bind fun v6 =>
  (La_syllables v6 a3 M).bind fun v7 =>
  (ldE 16 (M.1 33) ((8 * a1) + a2)).bind fun v8 =>
  (La_size v8 M).bind fun v9 =>
  (if v9 ≤ (v7 - 1) then some 0 else (ldE 16 (M.1 33) ((8 * a1) + a2)).bind fun v11 =>
  some ((v11 >>> ((4 * (v7 - 1)) &&& 31)) &&& 15)))

def La_column_L15 (a1 : Int32) (M : hyM) (x2 : Int32) : Nat → Int32 → Int32 → Option (Int32 × Int32)
  | 0, _, _ => none
  | f + 1, x4, x5 =>
  (if 2 ≤ x5 then some (x4, x5) else (ldE 30 (M.1 34) x2).bind fun v7 =>
  (La_phraseOf a1 M).bind fun v8 =>
  (if v7 = v8 then (La_below x5 x2 a1 M).bind fun v12 =>
  La_column_L15 a1 M x2 f ((if (v12 + 1) ≤ x4 then x4 else (v12 + 1)) : Int32) (x5 + 1) else La_column_L15 a1 M x2 f ((if (0 + 1) ≤ x4 then x4 else (0 + 1)) : Int32) (x5 + 1)))

def La_column_L6 (a1 : Int32) (a2 : Int32) (M : hyM) : Nat → Int32 → Int32 → Option (Int32 × Int32)
  | 0, _, _ => none
  | f + 1, x1, x2 =>
  (if a2 ≤ x2 then some (x1, x2) else (La_column_L15 a1 M x2 hyFu x1 0).bind fun (y4, y5) =>
  La_column_L6 a1 a2 M f y4 (x2 + 1))

def La_column (a1 : Int32) (a2 : Int32) (M : hyM) : Option Int32 :=
  (La_column_L6 a1 a2 M hyFu 3 0).bind fun (y1, y2) =>
  some y1

def La_semitones (a1 : Int32) (M : hyM) : Int32 :=
  ((if 3 ≤ a1 then ((2 * a1) - 1) else (2 * a1)) : Int32)

def La_degree_L2 (a1 : Int32) (M : hyM) : Nat → Int32 → Option (Int32 ⊕ (Int32))
  | 0, _ => none
  | f + 1, x1 =>
  (if 7 ≤ x1 then some (.inr (x1)) else (ldE 6 (M.1 30) 0).bind fun v3 =>
  (if ((((a1 + 120) - v3) - (La_semitones x1 M)) - (((a1 + 120) - v3) - (La_semitones x1 M)) / 12 * 12) = 0 then some (.inl x1) else La_degree_L2 a1 M f (x1 + 1)))

def La_degree (a1 : Int32) (M : hyM) : Option Int32 :=
  (La_degree_L2 a1 M hyFu 0).bind fun z => match z with
  | .inl r9 => some r9
  | .inr (y1) =>
  some (-1)

def La_step_L80 (a1 : Int32) : Nat → Int32 → Int32 → Int32 → Option (Int32 × Int32 × Int32)
  | 0, _, _, _ => none
  | f + 1, x14, x15, x16 =>
  (if a1 ≤ x15 then some (x14, x15, x16) else La_step_L80 a1 f (x14 + 1) (x15 + ((if x16 = 2 then 1 else (if x16 = 6 then 1 else 2)) : Int32)) ((x16 + 1) - (x16 + 1) / 7 * 7))

def La_step_L80b (a1 : Int32) : Nat → Int32 → Int32 → Int32 → Option (Int32 × Int32 × Int32)
  | 0, _, _, _ => none
  | f + 1, x25, x26, x27 =>
  (if a1 ≤ x26 then some (x25, x26, x27) else La_step_L80b a1 f (x25 + 1) (x26 + ((if x27 = 2 then 1 else (if x27 = 6 then 1 else 2)) : Int32)) ((x27 + 1) - (x27 + 1) / 7 * 7))

def La_step_L80bb (a1 : Int32) : Nat → Int32 → Int32 → Int32 → Option (Int32 × Int32 × Int32)
  | 0, _, _, _ => none
  | f + 1, x35, x36, x37 =>
  (if a1 ≤ x36 then some (x35, x36, x37) else La_step_L80bb a1 f (x35 + 1) (x36 + ((if x37 = 2 then 1 else (if x37 = 6 then 1 else 2)) : Int32)) ((x37 + 1) - (x37 + 1) / 7 * 7))

def La_step_L80bbb (a1 : Int32) : Nat → Int32 → Int32 → Int32 → Option (Int32 × Int32 × Int32)
  | 0, _, _, _ => none
  | f + 1, x45, x46, x47 =>
  (if a1 ≤ x46 then some (x45, x46, x47) else La_step_L80bbb a1 f (x45 + 1) (x46 + ((if x47 = 2 then 1 else (if x47 = 6 then 1 else 2)) : Int32)) ((x47 + 1) - (x47 + 1) / 7 * 7))

def La_step_L80bbbb (a1 : Int32) : Nat → Int32 → Int32 → Int32 → Option (Int32 × Int32 × Int32)
  | 0, _, _, _ => none
  | f + 1, x55, x56, x57 =>
  (if a1 ≤ x56 then some (x55, x56, x57) else La_step_L80bbbb a1 f (x55 + 1) (x56 + ((if x57 = 2 then 1 else (if x57 = 6 then 1 else 2)) : Int32)) ((x57 + 1) - (x57 + 1) / 7 * 7))

def La_step_L80bbbbb (a1 : Int32) : Nat → Int32 → Int32 → Int32 → Option (Int32 × Int32 × Int32)
  | 0, _, _, _ => none
  | f + 1, x65, x66, x67 =>
  (if a1 ≤ x66 then some (x65, x66, x67) else La_step_L80bbbbb a1 f (x65 + 1) (x66 + ((if x67 = 2 then 1 else (if x67 = 6 then 1 else 2)) : Int32)) ((x67 + 1) - (x67 + 1) / 7 * 7))

def La_step (a1 : Int32) (M : hyM) : Option Int32 :=
  (ldE 6 (M.1 30) 0).bind fun v1 =>
  (if v1 = 0 then (ldE 6 (M.1 30) 0).bind fun v64 =>
  (La_step_L80bbbbb a1 hyFu 0 v64 0).bind fun (y65, y66, y67) =>
  some y65 else (ldE 6 (M.1 30) 0).bind fun v3 =>
  (if 3 ≤ v3 then (ldE 6 (M.1 30) 0).bind fun v5 =>
  (if 5 ≤ v5 then (ldE 6 (M.1 30) 0).bind fun v7 =>
  (if v7 = 5 then (ldE 6 (M.1 30) 0).bind fun v34 =>
  (La_step_L80bb a1 hyFu 3 v34 0).bind fun (y35, y36, y37) =>
  some y35 else (ldE 6 (M.1 30) 0).bind fun v9 =>
  (if 8 ≤ v9 then (ldE 6 (M.1 30) 0).bind fun v11 =>
  (ldE 6 (M.1 30) 0).bind fun v13 =>
  (La_step_L80 a1 hyFu ((if 10 ≤ v11 then 6 else 5) : Int32) v13 0).bind fun (y14, y15, y16) =>
  some y14 else (ldE 6 (M.1 30) 0).bind fun v24 =>
  (La_step_L80b a1 hyFu 4 v24 0).bind fun (y25, y26, y27) =>
  some y25)) else (ldE 6 (M.1 30) 0).bind fun v44 =>
  (La_step_L80bbb a1 hyFu 2 v44 0).bind fun (y45, y46, y47) =>
  some y45) else (ldE 6 (M.1 30) 0).bind fun v54 =>
  (La_step_L80bbbb a1 hyFu 1 v54 0).bind fun (y55, y56, y57) =>
  some y55))

def La_stepOf (a1 : Int32) (M : hyM) : Option Int32 :=
  (La_degree a1 M).bind fun v1 =>
  (La_step ((if 0 ≤ v1 then a1 else (a1 - 1)) : Int32) M).bind fun v3 =>
  some v3

def La_apart (a1 : Int32) (a2 : Int32) (M : hyM) : Int32 :=
  ((if a1 ≤ a2 then (a2 - a1) else (a1 - a2)) : Int32)

def La_parallels_L19 (a1 : Int32) (M : hyM) (x3 : Int32) : Nat → Int32 → Int32 → Int32 → Option (Int32 × Int32 × Int32)
  | 0, _, _, _ => none
  | f + 1, x5, x6, x7 =>
  (if 4 ≤ x7 then some (x5, x6, x7) else (ldE 60 (M.1 31) (((5 * a1) + 1) + x3)).bind fun v9 =>
  (ldE 60 (M.1 31) (((5 * a1) + 1) + x7)).bind fun v10 =>
  (if a1 = 0 then (if a1 = 0 then La_parallels_L19 a1 M x3 f (x5 ||| ((if (if (((v9 - v10) + 120) - ((v9 - v10) + 120) / 12 * 12) = (((v9 - v10) + 120) - ((v9 - v10) + 120) / 12 * 12) then (if (((v9 - v10) + 120) - ((v9 - v10) + 120) / 12 * 12) = 0 then true else (decide ((((v9 - v10) + 120) - ((v9 - v10) + 120) / 12 * 12) = 7))) else false) then (if v9 ≤ v9 then (if v9 ≤ v9 then 0 else (if v10 ≤ v10 then 0 else ((1 : Int32) <<< (x6 &&& 31)))) else (if v10 < v10 then ((1 : Int32) <<< (x6 &&& 31)) else (if v9 ≤ v9 then 0 else (if v10 ≤ v10 then 0 else ((1 : Int32) <<< (x6 &&& 31)))))) else 0) : Int32)) (x6 + 1) (x7 + 1) else (ldE 60 (M.1 31) (((5 * a1) - 4) + x7)).bind fun v40 =>
  La_parallels_L19 a1 M x3 f (x5 ||| ((if (if (((v9 - v10) + 120) - ((v9 - v10) + 120) / 12 * 12) = (((v9 - v40) + 120) - ((v9 - v40) + 120) / 12 * 12) then (if (((v9 - v10) + 120) - ((v9 - v10) + 120) / 12 * 12) = 0 then true else (decide ((((v9 - v10) + 120) - ((v9 - v10) + 120) / 12 * 12) = 7))) else false) then (if v9 ≤ v9 then (if v9 ≤ v9 then 0 else (if v40 ≤ v10 then 0 else ((1 : Int32) <<< (x6 &&& 31)))) else (if v40 < v10 then ((1 : Int32) <<< (x6 &&& 31)) else (if v9 ≤ v9 then 0 else (if v40 ≤ v10 then 0 else ((1 : Int32) <<< (x6 &&& 31)))))) else 0) : Int32)) (x6 + 1) (x7 + 1)) else (ldE 60 (M.1 31) (((5 * a1) - 4) + x3)).bind fun v12 =>
  (if a1 = 0 then La_parallels_L19 a1 M x3 f (x5 ||| ((if (if (((v9 - v10) + 120) - ((v9 - v10) + 120) / 12 * 12) = (((v12 - v10) + 120) - ((v12 - v10) + 120) / 12 * 12) then (if (((v9 - v10) + 120) - ((v9 - v10) + 120) / 12 * 12) = 0 then true else (decide ((((v9 - v10) + 120) - ((v9 - v10) + 120) / 12 * 12) = 7))) else false) then (if v9 ≤ v12 then (if v12 ≤ v9 then 0 else (if v10 ≤ v10 then 0 else ((1 : Int32) <<< (x6 &&& 31)))) else (if v10 < v10 then ((1 : Int32) <<< (x6 &&& 31)) else (if v12 ≤ v9 then 0 else (if v10 ≤ v10 then 0 else ((1 : Int32) <<< (x6 &&& 31)))))) else 0) : Int32)) (x6 + 1) (x7 + 1) else (ldE 60 (M.1 31) (((5 * a1) - 4) + x7)).bind fun v14 =>
  La_parallels_L19 a1 M x3 f (x5 ||| ((if (if (((v9 - v10) + 120) - ((v9 - v10) + 120) / 12 * 12) = (((v12 - v14) + 120) - ((v12 - v14) + 120) / 12 * 12) then (if (((v9 - v10) + 120) - ((v9 - v10) + 120) / 12 * 12) = 0 then true else (decide ((((v9 - v10) + 120) - ((v9 - v10) + 120) / 12 * 12) = 7))) else false) then (if v9 ≤ v12 then (if v12 ≤ v9 then 0 else (if v14 ≤ v10 then 0 else ((1 : Int32) <<< (x6 &&& 31)))) else (if v14 < v10 then ((1 : Int32) <<< (x6 &&& 31)) else (if v12 ≤ v9 then 0 else (if v14 ≤ v10 then 0 else ((1 : Int32) <<< (x6 &&& 31)))))) else 0) : Int32)) (x6 + 1) (x7 + 1))))

def La_parallels_L7 (a1 : Int32) (M : hyM) : Nat → Int32 → Int32 → Int32 → Option (Int32 × Int32 × Int32)
  | 0, _, _, _ => none
  | f + 1, x1, x2, x3 =>
  (if 4 ≤ x3 then some (x1, x2, x3) else (La_parallels_L19 a1 M x3 hyFu x1 x2 (x3 + 1)).bind fun (y5, y6, y7) =>
  La_parallels_L7 a1 M f y5 y6 (x3 + 1))

def La_parallels (a1 : Int32) (M : hyM) : Option Int32 :=
  (La_parallels_L7 a1 M hyFu 0 0 0).bind fun (y1, y2, y3) =>
  some y1

def La_note_L21 (a1 : Int32) (M : hyM) : Nat → Int32 → Int32 → Option (Int32 × Int32)
  | 0, _, _ => none
  | f + 1, x2, x3 =>
  (if a1 ≤ x3 then some (x2, x3) else (ldE 60 (M.1 31) (5 * x3)).bind fun v5 =>
  La_note_L21 a1 M f (x2 + (v5 >>> (2 &&& 31))) (x3 + 1))

def La_note_L59 (M : hyM) (y2 : Int32) : Nat → Int32 → Int32 → Int32 → Option (Int32 × Int32 × Int32)
  | 0, _, _, _ => none
  | f + 1, x8, x9, x10 =>
  (if y2 < x10 then some (x8, x9, x10) else (ldE 6 (M.1 30) 2).bind fun v12 =>
  La_note_L59 M y2 f (x8 + 1) x10 (x10 + v12))

def La_note_L336 (v45 : Int32) : Nat → Int32 → Int32 → Option (Int32 × Int32)
  | 0, _, _ => none
  | f + 1, x47, x48 =>
  (if x48 < v45 then some (x47, x48) else La_note_L336 v45 f (x47 + 1) (x48 + (-2)))

def La_note_L359 (v45 : Int32) : Nat → Int32 → Int32 → Option (Int32 × Int32)
  | 0, _, _ => none
  | f + 1, x51, x52 =>
  (if v45 < x52 then some (x51, x52) else La_note_L359 v45 f (x51 + 1) (x52 + 2))

def La_note_L336b (v76 : Int32) : Nat → Int32 → Int32 → Option (Int32 × Int32)
  | 0, _, _ => none
  | f + 1, x78, x79 =>
  (if x79 < v76 then some (x78, x79) else La_note_L336b v76 f (x78 + 1) (x79 + (-2)))

def La_note_L359b (v76 : Int32) : Nat → Int32 → Int32 → Option (Int32 × Int32)
  | 0, _, _ => none
  | f + 1, x82, x83 =>
  (if v76 < x83 then some (x82, x83) else La_note_L359b v76 f (x82 + 1) (x83 + 2))

def La_note_L255 (a1 : Int32) (C : hyM) (M : hyM) : Nat → Int32 → Option ((Bool × hyM × hyM) ⊕ (Int32))
  | 0, _ => none
  | f + 1, x40 =>
  (if 4 ≤ x40 then some (.inr (x40)) else (ldE 60 (M.1 31) (((5 * a1) + 1) + x40)).bind fun v42 =>
  (La_degree v42 M).bind fun v43 =>
  (if 0 ≤ v43 then (La_stepOf v42 M).bind fun v45 =>
  (La_note_L336 v45 hyFu 0 (((if 2 ≤ x40 then 25 else 37) : Int32) - 2)).bind fun (y47, y48) =>
  (La_note_L359 v45 hyFu y47 (((if 2 ≤ x40 then 25 else 37) : Int32) + 10)).bind fun (y51, y52) =>
  ((Hp_part a1 x40 0 C).bind rt).bind fun v55 =>
  (if v55 = v42 then ((Hp_part a1 x40 1 C).bind rt).bind fun v57 =>
  (if v57 = v43 then ((Hp_part a1 x40 2 C).bind rt).bind fun v59 =>
  (if v59 = v45 then ((Hp_part a1 x40 3 C).bind rt).bind fun v61 =>
  (if v61 = (bI (!decide (0 ≤ v43))) then ((Hp_part a1 x40 4 C).bind rt).bind fun v64 =>
  (if v64 = ((if 0 ≤ v43 then (if v43 = 6 then 3 else (v43 - v43 / 3 * 3)) else (-1)) : Int32) then ((Hp_part a1 x40 5 C).bind rt).bind fun v68 =>
  (if v68 = y51 then La_note_L255 a1 C M f (x40 + 1) else some (.inl (false, C, M))) else some (.inl (false, C, M))) else some (.inl (false, C, M))) else some (.inl (false, C, M))) else some (.inl (false, C, M))) else some (.inl (false, C, M))) else (La_degree (v42 - 1) M).bind fun v75 =>
  (La_stepOf v42 M).bind fun v76 =>
  (La_note_L336b v76 hyFu 0 (((if 2 ≤ x40 then 25 else 37) : Int32) - 2)).bind fun (y78, y79) =>
  (La_note_L359b v76 hyFu y78 (((if 2 ≤ x40 then 25 else 37) : Int32) + 10)).bind fun (y82, y83) =>
  ((Hp_part a1 x40 0 C).bind rt).bind fun v86 =>
  (if v86 = v42 then ((Hp_part a1 x40 1 C).bind rt).bind fun v88 =>
  (if v88 = v75 then ((Hp_part a1 x40 2 C).bind rt).bind fun v90 =>
  (if v90 = v76 then ((Hp_part a1 x40 3 C).bind rt).bind fun v92 =>
  (if v92 = (bI (!decide (0 ≤ v43))) then ((Hp_part a1 x40 4 C).bind rt).bind fun v95 =>
  (if v95 = ((if 0 ≤ v43 then (if v43 = 6 then 3 else (v43 - v43 / 3 * 3)) else (-1)) : Int32) then ((Hp_part a1 x40 5 C).bind rt).bind fun v99 =>
  (if v99 = y82 then La_note_L255 a1 C M f (x40 + 1) else some (.inl (false, C, M))) else some (.inl (false, C, M))) else some (.inl (false, C, M))) else some (.inl (false, C, M))) else some (.inl (false, C, M))) else some (.inl (false, C, M)))))

def La_note_L494 (a1 : Int32) (C : hyM) (M : hyM) : Nat → Int32 → Option ((Bool × hyM × hyM) ⊕ (Int32))
  | 0, _ => none
  | f + 1, x107 =>
  (if 2 ≤ x107 then some (.inr (x107)) else (ldE 60 (M.1 31) (((5 * a1) + 1) + (2 * x107))).bind fun v109 =>
  (ldE 60 (M.1 31) (((5 * a1) + 2) + (2 * x107))).bind fun v110 =>
  ((Hp_heads a1 x107 C).bind rt).bind fun v111 =>
  (if v109 = v110 then (if v111 = 1 then La_note_L494 a1 C M f (x107 + 1) else some (.inl (false, C, M))) else (La_stepOf v109 M).bind fun v113 =>
  (La_stepOf v110 M).bind fun v114 =>
  (if v111 = (((if 2 ≤ (La_apart v113 v114 M) then 0 else 2) : Int32) + ((if v110 ≤ v109 then 0 else 4) : Int32)) then La_note_L494 a1 C M f (x107 + 1) else some (.inl (false, C, M)))))

def La_note (a1 : Int32) (a2 : Int32) (C : hyM) (M : hyM) : Option (Bool × hyM × hyM) :=
  (La_phraseOf a1 M).bind fun v1 =>
  (La_note_L21 a1 M hyFu 0 0).bind fun (y2, y3) =>
  (ldE 6 (M.1 30) 3).bind fun v7 =>
  (La_note_L59 M y2 hyFu 0 0 v7).bind fun (y8, y9, y10) =>
  ((Hp_note a1 0 C).bind rt).bind fun v14 =>
  (ldE 60 (M.1 31) (5 * a1)).bind fun v15 =>
  (if v14 = (v15 >>> (2 &&& 31)) then ((Hp_note a1 1 C).bind rt).bind fun v17 =>
  (La_slurred a1 M).bind fun v18 =>
  (if v17 = (bI v18) then ((Hp_note a1 2 C).bind rt).bind fun v21 =>
  (if v21 = v1 then ((Hp_note a1 3 C).bind rt).bind fun v23 =>
  (La_first v1 M).bind fun v24 =>
  (if v23 = (a1 - v24) then ((Hp_note a1 4 C).bind rt).bind fun v26 =>
  (if v26 = y8 then ((Hp_note a1 5 C).bind rt).bind fun v28 =>
  (if v28 = (y2 - y9) then ((Hp_note a1 6 C).bind rt).bind fun v30 =>
  (ldE 60 (M.1 31) (5 * a1)).bind fun v31 =>
  (if v30 = (bI (!decide ((y2 + (v31 >>> (2 &&& 31))) ≤ y10))) then ((Hp_note a1 7 C).bind rt).bind fun v34 =>
  (La_column a1 a2 M).bind fun v35 =>
  (if v34 = v35 then ((Hp_note a1 8 C).bind rt).bind fun v37 =>
  (La_parallels a1 M).bind fun v38 =>
  (if v37 = v38 then (La_note_L255 a1 C M hyFu 0).bind fun z => match z with
  | .inl r9 => some r9
  | .inr (y40) =>
  (La_note_L494 a1 C M hyFu 0).bind fun z => match z with
  | .inl r9 => some r9
  | .inr (y107) =>
  some (true, C, M) else some (false, C, M)) else some (false, C, M)) else some (false, C, M)) else some (false, C, M)) else some (false, C, M)) else some (false, C, M)) else some (false, C, M)) else some (false, C, M)) else some (false, C, M))

def La_fit_L3 (a1 : Int32) (a2 : Int32) (M : hyM) : Nat → Int32 → Option (Int32 ⊕ (Int32))
  | 0, _ => none
  | f + 1, x1 =>
  (if (if x1 < 24 then true else (!decide (a2 ≤ x1))) then (if (if 8 ≤ x1 then false else (!decide (2 ≤ a1))) then (ldE 16 (M.1 33) ((8 * a1) + x1)).bind fun v6 =>
  (if a2 ≤ x1 then (La_size v6 M).bind fun v8 =>
  (if v8 = 0 then La_fit_L3 a1 a2 M f (x1 + 1) else some (.inl x1)) else (ldE 30 (M.1 34) x1).bind fun v10 =>
  (La_first v10 M).bind fun v11 =>
  (ldE 30 (M.1 34) x1).bind fun v12 =>
  (La_last v12 M).bind fun v13 =>
  (La_syllables v11 v13 M).bind fun v14 =>
  (La_size v6 M).bind fun v15 =>
  (if v15 = v14 then La_fit_L3 a1 a2 M f (x1 + 1) else some (.inl x1))) else (if a2 ≤ x1 then (La_size 0 M).bind fun v18 =>
  (if v18 = 0 then La_fit_L3 a1 a2 M f (x1 + 1) else some (.inl x1)) else (ldE 30 (M.1 34) x1).bind fun v20 =>
  (La_first v20 M).bind fun v21 =>
  (ldE 30 (M.1 34) x1).bind fun v22 =>
  (La_last v22 M).bind fun v23 =>
  (La_syllables v21 v23 M).bind fun v24 =>
  (La_size 0 M).bind fun v25 =>
  (if v25 = v24 then La_fit_L3 a1 a2 M f (x1 + 1) else some (.inl x1)))) else some (.inr (x1)))

def La_fit (a1 : Int32) (a2 : Int32) (M : hyM) : Option Int32 :=
  (La_fit_L3 a1 a2 M hyFu 0).bind fun z => match z with
  | .inl r9 => some r9
  | .inr (y1) =>
  some (-1)

def La_metres_L55 (a1 : Int32) (a2 : Int32) : Nat → Int32 → Int32 → Int32 → hyM → hyM → Option ((Bool × hyM × hyM) ⊕ (Int32 × Int32 × Int32 × hyM × hyM))
  | 0, _, _, _, _, _ => none
  | f + 1, x8, x9, x10, C11, M12 =>
  (if ((if a2 ≤ 0 then 2 else (if 9 ≤ a2 then 2 else a2)) : Int32) ≤ x10 then some (.inr (x8, x9, x10, C11, M12)) else (if a2 ≤ x10 then (La_at (a1 >>> ((2 * x10) &&& 31)) 3 M12).bind fun v15 =>
  (stE M12 35 9 x10 (1 + v15)).bind fun M16 =>
  (ldE 9 (M16.1 35) x10).bind fun v17 =>
  (if x10 ≤ 0 then (ldE 9 (M16.1 35) x10).bind fun v19 =>
  (if v19 ≤ 9 then (ldE 9 (M16.1 35) x10).bind fun v21 =>
  (rtM (Hp_append (48 + (v21 - v21 / 10 * 10)) C11)).bind fun (v22, C23) =>
  (if v22 = (x9 + 1) then (Hp_firstError true C23).bind fun v25 =>
  (if v25 = (x9 + 1) then La_metres_L55 a1 a2 f (x8 + (v17 - 1)) (x9 + 1) (x10 + 1) C23 M16 else some (.inl (false, C23, M16))) else some (.inl (false, C23, M16))) else (ldE 9 (M16.1 35) x10).bind fun v27 =>
  (rtM (Hp_append (48 + (v27 / 10)) C11)).bind fun (v28, C29) =>
  (if v28 = (x9 + 1) then (ldE 9 (M16.1 35) x10).bind fun v31 =>
  (rtM (Hp_append (48 + (v31 - v31 / 10 * 10)) C29)).bind fun (v32, C33) =>
  (if v32 = ((x9 + 1) + 1) then (Hp_firstError true C33).bind fun v35 =>
  (if v35 = ((x9 + 1) + 1) then La_metres_L55 a1 a2 f (x8 + (v17 - 1)) ((x9 + 1) + 1) (x10 + 1) C33 M16 else some (.inl (false, C33, M16))) else some (.inl (false, C33, M16))) else some (.inl (false, C29, M16)))) else (rtM (Hp_append 46 C11)).bind fun (v37, C38) =>
  (if v37 = (x9 + 1) then (ldE 9 (M16.1 35) x10).bind fun v40 =>
  (if v40 ≤ 9 then (ldE 9 (M16.1 35) x10).bind fun v42 =>
  (rtM (Hp_append (48 + (v42 - v42 / 10 * 10)) C38)).bind fun (v43, C44) =>
  (if v43 = ((x9 + 1) + 1) then (Hp_firstError true C44).bind fun v46 =>
  (if v46 = ((x9 + 1) + 1) then La_metres_L55 a1 a2 f (x8 + (v17 - 1)) ((x9 + 1) + 1) (x10 + 1) C44 M16 else some (.inl (false, C44, M16))) else some (.inl (false, C44, M16))) else (ldE 9 (M16.1 35) x10).bind fun v48 =>
  (rtM (Hp_append (48 + (v48 / 10)) C38)).bind fun (v49, C50) =>
  (if v49 = ((x9 + 1) + 1) then (ldE 9 (M16.1 35) x10).bind fun v52 =>
  (rtM (Hp_append (48 + (v52 - v52 / 10 * 10)) C50)).bind fun (v53, C54) =>
  (if v53 = (((x9 + 1) + 1) + 1) then (Hp_firstError true C54).bind fun v56 =>
  (if v56 = (((x9 + 1) + 1) + 1) then La_metres_L55 a1 a2 f (x8 + (v17 - 1)) (((x9 + 1) + 1) + 1) (x10 + 1) C54 M16 else some (.inl (false, C54, M16))) else some (.inl (false, C54, M16))) else some (.inl (false, C50, M16)))) else some (.inl (false, C38, M16)))) else (ldE 30 (M12.1 34) x10).bind fun v58 =>
  (La_first v58 M12).bind fun v59 =>
  (ldE 30 (M12.1 34) x10).bind fun v60 =>
  (La_last v60 M12).bind fun v61 =>
  (La_syllables v59 v61 M12).bind fun v62 =>
  (La_at (a1 >>> ((2 * x10) &&& 31)) 3 M12).bind fun v63 =>
  (stE M12 35 9 x10 (v62 + v63)).bind fun M64 =>
  (ldE 9 (M64.1 35) x10).bind fun v65 =>
  (if x10 ≤ 0 then (ldE 9 (M64.1 35) x10).bind fun v67 =>
  (if v67 ≤ 9 then (ldE 9 (M64.1 35) x10).bind fun v69 =>
  (rtM (Hp_append (48 + (v69 - v69 / 10 * 10)) C11)).bind fun (v70, C71) =>
  (if v70 = (x9 + 1) then (Hp_firstError true C71).bind fun v73 =>
  (if v73 = (x9 + 1) then La_metres_L55 a1 a2 f (x8 + (v65 - v62)) (x9 + 1) (x10 + 1) C71 M64 else some (.inl (false, C71, M64))) else some (.inl (false, C71, M64))) else (ldE 9 (M64.1 35) x10).bind fun v75 =>
  (rtM (Hp_append (48 + (v75 / 10)) C11)).bind fun (v76, C77) =>
  (if v76 = (x9 + 1) then (ldE 9 (M64.1 35) x10).bind fun v79 =>
  (rtM (Hp_append (48 + (v79 - v79 / 10 * 10)) C77)).bind fun (v80, C81) =>
  (if v80 = ((x9 + 1) + 1) then (Hp_firstError true C81).bind fun v83 =>
  (if v83 = ((x9 + 1) + 1) then La_metres_L55 a1 a2 f (x8 + (v65 - v62)) ((x9 + 1) + 1) (x10 + 1) C81 M64 else some (.inl (false, C81, M64))) else some (.inl (false, C81, M64))) else some (.inl (false, C77, M64)))) else (rtM (Hp_append 46 C11)).bind fun (v85, C86) =>
  (if v85 = (x9 + 1) then (ldE 9 (M64.1 35) x10).bind fun v88 =>
  (if v88 ≤ 9 then (ldE 9 (M64.1 35) x10).bind fun v90 =>
  (rtM (Hp_append (48 + (v90 - v90 / 10 * 10)) C86)).bind fun (v91, C92) =>
  (if v91 = ((x9 + 1) + 1) then (Hp_firstError true C92).bind fun v94 =>
  (if v94 = ((x9 + 1) + 1) then La_metres_L55 a1 a2 f (x8 + (v65 - v62)) ((x9 + 1) + 1) (x10 + 1) C92 M64 else some (.inl (false, C92, M64))) else some (.inl (false, C92, M64))) else (ldE 9 (M64.1 35) x10).bind fun v96 =>
  (rtM (Hp_append (48 + (v96 / 10)) C86)).bind fun (v97, C98) =>
  (if v97 = ((x9 + 1) + 1) then (ldE 9 (M64.1 35) x10).bind fun v100 =>
  (rtM (Hp_append (48 + (v100 - v100 / 10 * 10)) C98)).bind fun (v101, C102) =>
  (if v101 = (((x9 + 1) + 1) + 1) then (Hp_firstError true C102).bind fun v104 =>
  (if v104 = (((x9 + 1) + 1) + 1) then La_metres_L55 a1 a2 f (x8 + (v65 - v62)) (((x9 + 1) + 1) + 1) (x10 + 1) C102 M64 else some (.inl (false, C102, M64))) else some (.inl (false, C102, M64))) else some (.inl (false, C98, M64)))) else some (.inl (false, C86, M64))))))

def La_metres_L399 (a2 : Int32) (v1 : Int32) (NM12 : hyM) (C116 : hyM) : Nat → Int32 → Option ((Bool × hyM × hyM) ⊕ (Int32))
  | 0, _ => none
  | f + 1, x121 =>
  (if ((if a2 ≤ 0 then 2 else (if 9 ≤ a2 then 2 else a2)) : Int32) < x121 then some (.inr (x121)) else (rt (Hp_metre v1 x121 C116)).bind fun v123 =>
  (if ((if a2 ≤ 0 then 2 else (if 9 ≤ a2 then 2 else a2)) : Int32) ≤ x121 then (if v123 = (-1) then La_metres_L399 a2 v1 NM12 C116 f (x121 + 1) else some (.inl (false, C116, NM12))) else (ldE 9 (NM12.1 35) x121).bind fun v126 =>
  (if v123 = v126 then La_metres_L399 a2 v1 NM12 C116 f (x121 + 1) else some (.inl (false, C116, NM12)))))

def La_metres_L448 (C116 : hyM) : Nat → Int32 → Int32 → Option (Int32 × Int32)
  | 0, _, _ => none
  | f + 1, x129, x130 =>
  (if x130 < 0 then some (x129, x130) else ((Hp_distance x130 C116).bind rt).bind fun v132 =>
  (if v132 < 0 then La_metres_L448 C116 f x129 (x130 + (-1)) else (if x129 < 0 then La_metres_L448 C116 f x130 (x130 + (-1)) else ((Hp_distance x130 C116).bind rt).bind fun v135 =>
  ((Hp_distance x129 C116).bind rt).bind fun v136 =>
  La_metres_L448 C116 f ((if v136 < v135 then x129 else x130) : Int32) (x130 + (-1)))))

def La_metres_L399b (a2 : Int32) (v1 : Int32) (NM12 : hyM) (C178 : hyM) : Nat → Int32 → Option ((Bool × hyM × hyM) ⊕ (Int32))
  | 0, _ => none
  | f + 1, x183 =>
  (if ((if a2 ≤ 0 then 2 else (if 9 ≤ a2 then 2 else a2)) : Int32) < x183 then some (.inr (x183)) else (rt (Hp_metre v1 x183 C178)).bind fun v185 =>
  (if ((if a2 ≤ 0 then 2 else (if 9 ≤ a2 then 2 else a2)) : Int32) ≤ x183 then (if v185 = (-1) then La_metres_L399b a2 v1 NM12 C178 f (x183 + 1) else some (.inl (false, C178, NM12))) else (ldE 9 (NM12.1 35) x183).bind fun v188 =>
  (if v185 = v188 then La_metres_L399b a2 v1 NM12 C178 f (x183 + 1) else some (.inl (false, C178, NM12)))))

def La_metres_L448b (C178 : hyM) : Nat → Int32 → Int32 → Option (Int32 × Int32)
  | 0, _, _ => none
  | f + 1, x191, x192 =>
  (if x192 < 0 then some (x191, x192) else ((Hp_distance x192 C178).bind rt).bind fun v194 =>
  (if v194 < 0 then La_metres_L448b C178 f x191 (x192 + (-1)) else (if x191 < 0 then La_metres_L448b C178 f x192 (x192 + (-1)) else ((Hp_distance x192 C178).bind rt).bind fun v197 =>
  ((Hp_distance x191 C178).bind rt).bind fun v198 =>
  La_metres_L448b C178 f ((if v198 < v197 then x191 else x192) : Int32) (x192 + (-1)))))

def La_metres (a1 : Int32) (a2 : Int32) (C : hyM) (M : hyM) : Option (Bool × hyM × hyM) :=
  ((Hp_count 11 C).bind rt).bind fun v1 =>
  (La_at a1 3 (zM M 35)).bind fun v4 =>
  (if v4 ≤ 0 then (some (Hp_clearInput C)).bind fun (v6, C7) =>
  (La_metres_L55 a1 a2 hyFu 0 0 0 C7 (zM M 35)).bind fun z => match z with
  | .inl r9 => some r9
  | .inr (y8, y9, y10, NC11, NM12) =>
  (La_at (a1 >>> (9 &&& 31)) 3 NM12).bind fun v107 =>
  (if (decide (v107 = 0)) then (rtM (Hp_append 46 NC11)).bind fun (v159, C160) =>
  (if v159 = (y9 + 1) then (rtM (Hp_append 68 C160)).bind fun (v162, C163) =>
  (if v162 = ((y9 + 1) + 1) then (Hp_firstError true C163).bind fun v165 =>
  (if v165 = ((y9 + 1) + 1) then (rtM (Hp_append 49 C163)).bind fun (v167, C168) =>
  (if v167 = (((y9 + 1) + 1) + 1) then (Hp_firstError true C168).bind fun v170 =>
  (if v170 = ((y9 + 1) + 1) then (if (decide (v107 = 0)) then (some (Hp_clearInput C168)).bind fun (v217, C218) =>
  some ((decide (v217 = (((y9 + 1) + 1) + 1))), C218, NM12) else (if v1 = 8 then (some (Hp_clearInput C168)).bind fun (v213, C214) =>
  some ((decide (v213 = ((y9 + 1) + 1))), C214, NM12) else ((Hp_addMetre C168).bind rtM).bind fun (v174, C175) =>
  (if v174 = v1 then (some (Hp_clearInput C175)).bind fun (v177, C178) =>
  (if v177 = 0 then ((Hp_distance v1 C178).bind rt).bind fun v180 =>
  (if v180 = ((if ((if a2 ≤ 0 then 2 else (if 9 ≤ a2 then 2 else a2)) : Int32) = a2 then y8 else (-1)) : Int32) then (La_metres_L399b a2 v1 NM12 C178 hyFu 0).bind fun z => match z with
  | .inl r9 => some r9
  | .inr (y183) =>
  (La_metres_L448b C178 hyFu (-1) v1).bind fun (y191, y192) =>
  (Hp_nearest C178).bind fun v202 =>
  (if v202 = y191 then (La_at (a1 >>> (4 &&& 31)) 3 NM12).bind fun v204 =>
  (if 0 < v204 then some (true, C178, NM12) else ((Hp_dropMetre v1 C178).bind rtM).bind fun (v206, C207) =>
  some ((decide (v206 = v1)), C207, NM12)) else some (false, C178, NM12)) else some (false, C178, NM12)) else some (false, C178, NM12)) else some (false, C175, NM12)))) else some (false, C168, NM12)) else some (false, C168, NM12)) else some (false, C163, NM12)) else some (false, C163, NM12)) else some (false, C160, NM12)) else (if (decide (v107 = 0)) then (some (Hp_clearInput NC11)).bind fun (v155, C156) =>
  some ((decide (v155 = (y9 + 1))), C156, NM12) else (if v1 = 8 then (some (Hp_clearInput NC11)).bind fun (v151, C152) =>
  some ((decide (v151 = y9)), C152, NM12) else ((Hp_addMetre NC11).bind rtM).bind fun (v112, C113) =>
  (if v112 = v1 then (some (Hp_clearInput C113)).bind fun (v115, C116) =>
  (if v115 = 0 then ((Hp_distance v1 C116).bind rt).bind fun v118 =>
  (if v118 = ((if ((if a2 ≤ 0 then 2 else (if 9 ≤ a2 then 2 else a2)) : Int32) = a2 then y8 else (-1)) : Int32) then (La_metres_L399 a2 v1 NM12 C116 hyFu 0).bind fun z => match z with
  | .inl r9 => some r9
  | .inr (y121) =>
  (La_metres_L448 C116 hyFu (-1) v1).bind fun (y129, y130) =>
  (Hp_nearest C116).bind fun v140 =>
  (if v140 = y129 then (La_at (a1 >>> (4 &&& 31)) 3 NM12).bind fun v142 =>
  (if 0 < v142 then some (true, C116, NM12) else ((Hp_dropMetre v1 C116).bind rtM).bind fun (v144, C145) =>
  some ((decide (v144 = v1)), C145, NM12)) else some (false, C116, NM12)) else some (false, C116, NM12)) else some (false, C116, NM12)) else some (false, C113, NM12))))) else some (true, C, (zM M 35)))

def La_told_L45 (v2 : Int32) : Nat → Int32 → Int32 → Int32 → hyM → hyM → Option ((Bool × hyM × hyM) ⊕ (Int32 × Int32 × Int32 × hyM × hyM))
  | 0, _, _, _, _, _ => none
  | f + 1, x4, x5, x6, C7, M8 =>
  (ldE 6 (M8.1 30) 1).bind fun v9 =>
  (if v9 ≤ x6 then some (.inr (x4, x5, x6, C7, M8)) else (La_note x6 v2 C7 M8).bind fun (v11, C12, M13) =>
  (if v11 then (ldE 60 (M13.1 31) (5 * x6)).bind fun v15 =>
  (La_parallels x6 M13).bind fun v16 =>
  La_told_L45 v2 f (x4 + (v15 >>> (2 &&& 31))) (x5 + (bI (!decide (v16 ≤ 0)))) (x6 + 1) C12 M13 else some (.inl (false, C12, M13))))

def La_told_L135 (v2 : Int32) (NM8 : hyM) (x23 : Int32) : Nat → Int32 → Int32 → Option (Int32 × Int32)
  | 0, _, _ => none
  | f + 1, x26, x27 =>
  (La_last x23 NM8).bind fun v28 =>
  (if v28 < x27 then some (x26, x27) else (La_column x27 v2 NM8).bind fun v30 =>
  La_told_L135 v2 NM8 x23 f (x26 + v30) (x27 + 1))

def La_told_L174 (v2 : Int32) (NM8 : hyM) (x23 : Int32) : Nat → Int32 → Int32 → Option (Int32 × Int32)
  | 0, _, _ => none
  | f + 1, x32, x33 =>
  (if v2 ≤ x33 then some (x32, x33) else (ldE 30 (NM8.1 34) x33).bind fun v35 =>
  La_told_L174 v2 NM8 x23 f (x32 + (bI (decide (v35 = x23)))) (x33 + 1))

def La_told_L113 (v2 : Int32) (v3 : Int32) (NC7 : hyM) (NM8 : hyM) : Nat → Int32 → Int32 → Int32 → Int32 → Option ((Bool × hyM × hyM) ⊕ (Int32 × Int32 × Int32 × Int32))
  | 0, _, _, _, _ => none
  | f + 1, x20, x21, x22, x23 =>
  (if v3 ≤ x23 then some (.inr (x20, x21, x22, x23)) else (La_first x23 NM8).bind fun v25 =>
  (La_told_L135 v2 NM8 x23 hyFu 0 v25).bind fun (y26, y27) =>
  (La_told_L174 v2 NM8 x23 hyFu 0 0).bind fun (y32, y33) =>
  (if x21 < 0 then (rt (Hp_phrase x23 0 NC7)).bind fun v40 =>
  (La_first x23 NM8).bind fun v41 =>
  (if v40 = v41 then (rt (Hp_phrase x23 1 NC7)).bind fun v43 =>
  (La_last x23 NM8).bind fun v44 =>
  (if v43 = v44 then (rt (Hp_phrase x23 2 NC7)).bind fun v46 =>
  (La_first x23 NM8).bind fun v47 =>
  (La_last x23 NM8).bind fun v48 =>
  (La_syllables v47 v48 NM8).bind fun v49 =>
  (if v46 = v49 then (rt (Hp_phrase x23 3 NC7)).bind fun v51 =>
  (if v51 = y26 then (rt (Hp_phrase x23 4 NC7)).bind fun v53 =>
  (if v53 = (x21 + 1) then (rt (Hp_phrase x23 5 NC7)).bind fun v55 =>
  (if v55 = y32 then La_told_L113 v2 v3 NC7 NM8 f (x20 + y26) (x21 + 1) (0 + y26) (x23 + 1) else some (.inl (false, NC7, NM8))) else some (.inl (false, NC7, NM8))) else some (.inl (false, NC7, NM8))) else some (.inl (false, NC7, NM8))) else some (.inl (false, NC7, NM8))) else some (.inl (false, NC7, NM8))) else (ldE 6 (NM8.1 30) 4).bind fun v57 =>
  (rt (Hp_phrase x23 0 NC7)).bind fun v59 =>
  (La_first x23 NM8).bind fun v60 =>
  (if v59 = v60 then (rt (Hp_phrase x23 1 NC7)).bind fun v62 =>
  (La_last x23 NM8).bind fun v63 =>
  (if v62 = v63 then (rt (Hp_phrase x23 2 NC7)).bind fun v65 =>
  (La_first x23 NM8).bind fun v66 =>
  (La_last x23 NM8).bind fun v67 =>
  (La_syllables v66 v67 NM8).bind fun v68 =>
  (if v65 = v68 then (rt (Hp_phrase x23 3 NC7)).bind fun v70 =>
  (if v70 = y26 then (rt (Hp_phrase x23 4 NC7)).bind fun v72 =>
  (if v72 = ((if (x22 + y26) ≤ v57 then x21 else (x21 + 1)) : Int32) then (rt (Hp_phrase x23 5 NC7)).bind fun v74 =>
  (if v74 = y32 then La_told_L113 v2 v3 NC7 NM8 f (x20 + y26) ((if (x22 + y26) ≤ v57 then x21 else (x21 + 1)) : Int32) (((if (x22 + y26) ≤ v57 then x22 else 0) : Int32) + y26) (x23 + 1) else some (.inl (false, NC7, NM8))) else some (.inl (false, NC7, NM8))) else some (.inl (false, NC7, NM8))) else some (.inl (false, NC7, NM8))) else some (.inl (false, NC7, NM8))) else some (.inl (false, NC7, NM8)))))

def La_told_L353 (v2 : Int32) (NC7 : hyM) (NM8 : hyM) : Nat → Int32 → Option ((Bool × hyM × hyM) ⊕ (Int32))
  | 0, _ => none
  | f + 1, x80 =>
  (if v2 ≤ x80 then some (.inr (x80)) else (rt (Hp_sung x80 NC7)).bind fun v82 =>
  (ldE 30 (NM8.1 34) x80).bind fun v83 =>
  (if v82 = v83 then La_told_L353 v2 NC7 NM8 f (x80 + 1) else some (.inl (false, NC7, NM8))))

def La_told_L475 (NM8 : hyM) (v96 : Int32) : Nat → Int32 → Int32 → Int32 → Option (Int32 × Int32 × Int32)
  | 0, _, _, _ => none
  | f + 1, x97, x98, x99 =>
  (La_size v96 NM8).bind fun v100 =>
  (if v100 ≤ x99 then some (x97, x98, x99) else La_told_L475 NM8 v96 f (x97 + ((v96 >>> ((24 + x99) &&& 31)) &&& 1)) ((if ((v96 >>> ((4 * x99) &&& 31)) &&& 15) ≤ x98 then x98 else ((v96 >>> ((4 * x99) &&& 31)) &&& 15)) : Int32) (x99 + 1))

def La_told_L440 (NC7 : hyM) (NM8 : hyM) (x87 : Int32) : Nat → Int32 → Option ((Bool × hyM × hyM) ⊕ (Int32))
  | 0, _ => none
  | f + 1, x93 =>
  (if (if 8 ≤ x93 then false else (!decide (2 ≤ x87))) then (ldE 16 (NM8.1 33) ((8 * x87) + x93)).bind fun v96 =>
  (La_told_L475 NM8 v96 hyFu 0 0 0).bind fun (y97, y98, y99) =>
  ((Hp_line x87 x93 0 NC7).bind rt).bind fun v105 =>
  (La_size v96 NM8).bind fun v106 =>
  (if v105 = v106 then ((Hp_line x87 x93 1 NC7).bind rt).bind fun v108 =>
  (if v108 = y97 then ((Hp_line x87 x93 2 NC7).bind rt).bind fun v110 =>
  (if v110 = y98 then La_told_L440 NC7 NM8 x87 f (x93 + 1) else some (.inl (false, NC7, NM8))) else some (.inl (false, NC7, NM8))) else some (.inl (false, NC7, NM8))) else some (.inr (x93)))

def La_told_L385 (v2 : Int32) (NC7 : hyM) (NM8 : hyM) : Nat → Int32 → Int32 → Option ((Bool × hyM × hyM) ⊕ (Int32 × Int32))
  | 0, _, _ => none
  | f + 1, x86, x87 =>
  (if 4 ≤ x87 then some (.inr (x86, x87)) else (La_fit x87 v2 NM8).bind fun v89 =>
  ((Hp_fit x87 NC7).bind rt).bind fun v91 =>
  (if v91 = v89 then (La_told_L440 NC7 NM8 x87 hyFu 0).bind fun z => match z with
  | .inl r9 => some (.inl r9)
  | .inr (y93) =>
  La_told_L385 v2 NC7 NM8 f (x86 ||| ((if 0 ≤ v89 then 0 else ((1 : Int32) <<< (x87 &&& 31))) : Int32)) (x87 + 1) else some (.inl (false, NC7, NM8))))

def La_told_L600 (a1 : Int32) (v2 : Int32) (NC7 : hyM) (NM8 : hyM) : Nat → Int32 → Option ((Bool × hyM × hyM) ⊕ (Int32))
  | 0, _ => none
  | f + 1, x119 =>
  (if (if v2 ≤ x119 then false else (!decide (v2 ≤ 0))) then (La_at (a1 >>> (x119 &&& 31)) 3 NM8).bind fun v122 =>
  (ldE 30 (NM8.1 34) x119).bind fun v123 =>
  (La_first v123 NM8).bind fun v124 =>
  (ldE 30 (NM8.1 34) x119).bind fun v125 =>
  (La_last v125 NM8).bind fun v126 =>
  (La_at (a1 >>> ((x119 + 2) &&& 31)) ((v126 - v124) + 1) NM8).bind fun v127 =>
  (La_below v122 x119 (v124 + v127) NM8).bind fun v128 =>
  (La_syllables v124 (v124 + v127) NM8).bind fun v129 =>
  (if (if 2 ≤ v122 then false else (!decide (8 ≤ x119))) then (ldE 16 (NM8.1 33) ((8 * v122) + x119)).bind fun v132 =>
  (rt (Hp_below v122 x119 ((v124 + v127) - v124) 0 NC7)).bind fun v133 =>
  (if v133 = ((if v128 = 0 then (-1) else (v129 - 1)) : Int32) then (rt (Hp_below v122 x119 ((v124 + v127) - v124) 1 NC7)).bind fun v136 =>
  (if v136 = ((if v128 = 0 then (-1) else v128) : Int32) then (rt (Hp_below v122 x119 ((v124 + v127) - v124) 2 NC7)).bind fun v139 =>
  (if v139 = ((if v128 = 0 then (-1) else (97 + v128)) : Int32) then (rt (Hp_below v122 x119 ((v124 + v127) - v124) 3 NC7)).bind fun v142 =>
  (if v142 = ((if v128 = 0 then (-1) else (1 - ((v132 >>> ((24 + (v129 - 1)) &&& 31)) &&& 1))) : Int32) then La_told_L600 a1 v2 NC7 NM8 f (x119 + 1) else some (.inl (false, NC7, NM8))) else some (.inl (false, NC7, NM8))) else some (.inl (false, NC7, NM8))) else some (.inl (false, NC7, NM8))) else (rt (Hp_below v122 x119 ((v124 + v127) - v124) 0 NC7)).bind fun v149 =>
  (if v149 = ((if v128 = 0 then (-1) else (v129 - 1)) : Int32) then (rt (Hp_below v122 x119 ((v124 + v127) - v124) 1 NC7)).bind fun v152 =>
  (if v152 = ((if v128 = 0 then (-1) else v128) : Int32) then (rt (Hp_below v122 x119 ((v124 + v127) - v124) 2 NC7)).bind fun v155 =>
  (if v155 = ((if v128 = 0 then (-1) else (97 + v128)) : Int32) then (rt (Hp_below v122 x119 ((v124 + v127) - v124) 3 NC7)).bind fun v158 =>
  (if v158 = ((if v128 = 0 then (-1) else (1 - (((0 : Int32) >>> ((24 + (v129 - 1)) &&& 31)) &&& 1))) : Int32) then La_told_L600 a1 v2 NC7 NM8 f (x119 + 1) else some (.inl (false, NC7, NM8))) else some (.inl (false, NC7, NM8))) else some (.inl (false, NC7, NM8))) else some (.inl (false, NC7, NM8)))) else some (.inr (x119)))

def La_told (a1 : Int32) (C : hyM) (M : hyM) : Option (Bool × hyM × hyM) :=
  (La_sung (zM M 34)).bind fun (v2, M1) =>
  (La_phrases M1).bind fun v3 =>
  (La_told_L45 v2 hyFu 0 0 0 C M1).bind fun z => match z with
  | .inl r9 => some r9
  | .inr (y4, y5, y6, NC7, NM8) =>
  (La_told_L113 v2 v3 NC7 NM8 hyFu 0 (-1) 0 0).bind fun z => match z with
  | .inl r9 => some r9
  | .inr (y20, y21, y22, y23) =>
  (La_told_L353 v2 NC7 NM8 hyFu 0).bind fun z => match z with
  | .inl r9 => some r9
  | .inr (y80) =>
  (La_told_L385 v2 NC7 NM8 hyFu 0 0).bind fun z => match z with
  | .inl r9 => some r9
  | .inr (y86, y87) =>
  (La_told_L600 a1 v2 NC7 NM8 hyFu 0).bind fun z => match z with
  | .inl r9 => some r9
  | .inr (y119) =>
  ((Hp_count 0 NC7).bind rt).bind fun v170 =>
  (ldE 6 (NM8.1 30) 1).bind fun v171 =>
  (if v170 = v171 then ((Hp_count 1 NC7).bind rt).bind fun v173 =>
  (ldE 6 (NM8.1 30) 0).bind fun v174 =>
  (if v173 = v174 then ((Hp_count 2 NC7).bind rt).bind fun v176 =>
  (if v176 = v3 then ((Hp_count 3 NC7).bind rt).bind fun v178 =>
  (if v178 = v2 then ((Hp_count 4 NC7).bind rt).bind fun v180 =>
  (ldE 6 (NM8.1 30) 5).bind fun v181 =>
  (if v180 = v181 then ((Hp_count 5 NC7).bind rt).bind fun v183 =>
  (ldE 6 (NM8.1 30) 2).bind fun v184 =>
  (if v183 = v184 then ((Hp_count 6 NC7).bind rt).bind fun v186 =>
  (ldE 6 (NM8.1 30) 3).bind fun v187 =>
  (if v186 = v187 then ((Hp_count 7 NC7).bind rt).bind fun v189 =>
  (if v189 = y4 then ((Hp_count 8 NC7).bind rt).bind fun v191 =>
  (ldE 6 (NM8.1 30) 2).bind fun v192 =>
  (jrm y4 v192).bind fun v193 =>
  (if v191 = (bI (decide (v193 = 0))) then ((Hp_count 9 NC7).bind rt).bind fun v196 =>
  (ldE 6 (NM8.1 30) 4).bind fun v197 =>
  (if v196 = v197 then ((Hp_count 10 NC7).bind rt).bind fun v199 =>
  (if v199 = (y21 + 1) then ((Hp_count 12 NC7).bind rt).bind fun v201 =>
  (if v201 = y86 then ((Hp_count 13 NC7).bind rt).bind fun v203 =>
  (if v203 = y5 then (Hp_meanWidth NC7).bind fun v205 =>
  (if v3 = 0 then (if (Op.cmpValue (FP.dcmp v205 FP.dconst0) .l) = 0 then (La_metres (a1 >>> (3 &&& 31)) v2 NC7 NM8).bind fun (v216, C217, M218) =>
  some (v216, C217, M218) else some (false, NC7, NM8)) else (ckD (FP.dmul FP.dconst1 (FP.i2d y20))).bind fun d207 =>
  (ckD (FP.ddiv d207 (FP.i2d (y21 + 1)))).bind fun d208 =>
  (if (Op.cmpValue (FP.dcmp v205 d208) .l) = 0 then (La_metres (a1 >>> (3 &&& 31)) v2 NC7 NM8).bind fun (v210, C211, M212) =>
  some (v210, C211, M212) else some (false, NC7, NM8))) else some (false, NC7, NM8)) else some (false, NC7, NM8)) else some (false, NC7, NM8)) else some (false, NC7, NM8)) else some (false, NC7, NM8)) else some (false, NC7, NM8)) else some (false, NC7, NM8)) else some (false, NC7, NM8)) else some (false, NC7, NM8)) else some (false, NC7, NM8)) else some (false, NC7, NM8)) else some (false, NC7, NM8)) else some (false, NC7, NM8))

def La_settle_L35 (x1 : Int32) (x2 : Int32) : Nat → Int32 → hyM → Option (Int32 × hyM)
  | 0, _, _ => none
  | f + 1, x9, M10 =>
  (if 3 ≤ x9 then some (x9, M10) else (ldE 9 (M10.1 32) ((3 * x2) + x9)).bind fun v12 =>
  (stE M10 32 9 ((3 * x1) + x9) v12).bind fun M13 =>
  La_settle_L35 x1 x2 f (x9 + 1) M13)

def La_settle_L5  : Nat → Int32 → Int32 → hyM → Option (Int32 × Int32 × hyM)
  | 0, _, _, _ => none
  | f + 1, x1, x2, M3 =>
  (ldE 6 (M3.1 30) 5).bind fun v4 =>
  (if v4 ≤ x2 then some (x1, x2, M3) else (ldE 9 (M3.1 32) ((3 * x2) + 1)).bind fun v6 =>
  (La_phrases M3).bind fun v7 =>
  (if v6 < v7 then (La_settle_L35 x1 x2 hyFu 0 M3).bind fun (y9, NM10) =>
  La_settle_L5 f (x1 + 1) (x2 + 1) NM10 else La_settle_L5 f x1 (x2 + 1) M3))

def La_settle (M : hyM) : Option hyM :=
  (La_settle_L5  hyFu 0 0 M).bind fun (y1, y2, NM3) =>
  (stE NM3 30 6 5 y1).bind fun M17 =>
  some M17

def La_line_L145 (a2 : Int32) (M : hyM) (v13 : Int32) : Nat → Int32 → Int32 → hyM → Option ((Bool × hyM × hyM) ⊕ (Int32 × Int32 × hyM))
  | 0, _, _, _ => none
  | f + 1, x17, x18, C19 =>
  (if (1 + v13) ≤ x18 then some (.inr (x17, x18, C19)) else (if x18 = 0 then (rtM (Hp_append (97 + (1 + v13)) C19)).bind fun (v28, C29) =>
  (if v28 = (x17 + 1) then La_line_L145 a2 M v13 f (x17 + 1) (x18 + 1) C29 else some (.inl (false, C29, M))) else (La_at (a2 >>> (x18 &&& 31)) 9 M).bind fun v22 =>
  (rtM (Hp_append ((if v22 = 0 then 39 else 77) : Int32) C19)).bind fun (v24, C25) =>
  (if v24 = (x17 + 1) then La_line_L145 a2 M v13 f (x17 + 1) (x18 + 1) C25 else some (.inl (false, C25, M)))))

def La_line_L145b (a2 : Int32) (M : hyM) (v13 : Int32) : Nat → Int32 → Int32 → hyM → Option ((Bool × hyM × hyM) ⊕ (Int32 × Int32 × hyM))
  | 0, _, _, _ => none
  | f + 1, x46, x47, C48 =>
  (if (1 + v13) ≤ x47 then some (.inr (x46, x47, C48)) else (if x47 = 0 then (rtM (Hp_append (97 + (1 + v13)) C48)).bind fun (v57, C58) =>
  (if v57 = (x46 + 1) then La_line_L145b a2 M v13 f (x46 + 1) (x47 + 1) C58 else some (.inl (false, C58, M))) else (La_at (a2 >>> (x47 &&& 31)) 9 M).bind fun v51 =>
  (rtM (Hp_append ((if v51 = 0 then 39 else 77) : Int32) C48)).bind fun (v53, C54) =>
  (if v53 = (x46 + 1) then La_line_L145b a2 M v13 f (x46 + 1) (x47 + 1) C54 else some (.inl (false, C54, M)))))

def La_line_L145bb (a2 : Int32) (M : hyM) (v13 : Int32) : Nat → Int32 → Int32 → hyM → Option ((Bool × hyM × hyM) ⊕ (Int32 × Int32 × hyM))
  | 0, _, _, _ => none
  | f + 1, x78, x79, C80 =>
  (if (1 + v13) ≤ x79 then some (.inr (x78, x79, C80)) else (if x79 = 0 then (rtM (Hp_append (97 + (1 + v13)) C80)).bind fun (v89, C90) =>
  (if v89 = (x78 + 1) then La_line_L145bb a2 M v13 f (x78 + 1) (x79 + 1) C90 else some (.inl (false, C90, M))) else (La_at (a2 >>> (x79 &&& 31)) 9 M).bind fun v83 =>
  (rtM (Hp_append ((if v83 = 0 then 39 else 77) : Int32) C80)).bind fun (v85, C86) =>
  (if v85 = (x78 + 1) then La_line_L145bb a2 M v13 f (x78 + 1) (x79 + 1) C86 else some (.inl (false, C86, M)))))

def La_line_L43 (a1 : Int32) (a2 : Int32) (M : hyM) (v3 : Int32) : Nat → Int32 → Int32 → Int32 → hyM → Option ((Bool × hyM × hyM) ⊕ (Int32 × Int32 × Int32 × hyM))
  | 0, _, _, _, _ => none
  | f + 1, x6, x7, x8, C9 =>
  (if (1 + v3) ≤ x8 then some (.inr (x6, x7, x8, C9)) else (La_at (a2 >>> (20 &&& 31)) 4 M).bind fun v11 =>
  (La_at ((a2 >>> ((3 * x8) &&& 31)) + x8) ((if v11 = 0 then 9 else 4) : Int32) M).bind fun v13 =>
  (if x8 = ((1 + v3) - 1) then (La_line_L145b a2 M v13 hyFu x6 0 C9).bind fun z => match z with
  | .inl r9 => some (.inl r9)
  | .inr (y46, y47, NC48) =>
  (if x8 = ((1 + v3) - 1) then La_line_L43 a1 a2 M v3 f y46 (x7 ||| (((1 + v13) <<< ((4 * x8) &&& 31)) ||| ((1 : Int32) <<< ((24 + x8) &&& 31)))) (x8 + 1) NC48 else (rtM (Hp_append 32 NC48)).bind fun (v69, C70) =>
  (if v69 = (y46 + 1) then (Hp_firstError false C70).bind fun v72 =>
  (if v72 = (y46 + 1) then La_line_L43 a1 a2 M v3 f (y46 + 1) (x7 ||| (((1 + v13) <<< ((4 * x8) &&& 31)) ||| ((1 : Int32) <<< ((24 + x8) &&& 31)))) (x8 + 1) C70 else some (.inl (false, C70, M))) else some (.inl (false, C70, M)))) else (La_at (a1 >>> ((x8 + 7) &&& 31)) 2 M).bind fun v75 =>
  (La_line_L145bb a2 M v13 hyFu x6 0 C9).bind fun z => match z with
  | .inl r9 => some (.inl r9)
  | .inr (y78, y79, NC80) =>
  (if x8 = ((1 + v3) - 1) then La_line_L43 a1 a2 M v3 f y78 (x7 ||| (((1 + v13) <<< ((4 * x8) &&& 31)) ||| ((if (decide (v75 = 0)) then ((1 : Int32) <<< ((24 + x8) &&& 31)) else 0) : Int32))) (x8 + 1) NC80 else (rtM (Hp_append ((if (decide (v75 = 0)) then 32 else 45) : Int32) NC80)).bind fun (v95, C96) =>
  (if v95 = (y78 + 1) then (Hp_firstError false C96).bind fun v98 =>
  (if v98 = (y78 + 1) then La_line_L43 a1 a2 M v3 f (y78 + 1) (x7 ||| (((1 + v13) <<< ((4 * x8) &&& 31)) ||| ((if (decide (v75 = 0)) then ((1 : Int32) <<< ((24 + x8) &&& 31)) else 0) : Int32))) (x8 + 1) C96 else some (.inl (false, C96, M))) else some (.inl (false, C96, M))))))

def La_line (a1 : Int32) (a2 : Int32) (C : hyM) (M : hyM) : Option (Bool × hyM × hyM) :=
  (La_at a1 2 M).bind fun v1 =>
  (La_at (a1 >>> (1 &&& 31)) 8 M).bind fun v2 =>
  (La_at (a1 >>> (4 &&& 31)) 6 M).bind fun v3 =>
  (some (Hp_clearInput C)).bind fun (v4, C5) =>
  (La_line_L43 a1 a2 M v3 hyFu 0 0 0 C5).bind fun z => match z with
  | .inl r9 => some r9
  | .inr (y6, y7, y8, NC9) =>
  (stE M 33 16 ((8 * v1) + v2) y7).bind fun M106 =>
  (Hp_firstError false NC9).bind fun v107 =>
  (if v107 = y6 then ((Hp_setLine v1 v2 NC9).bind rtM).bind fun (v109, C110) =>
  (if v109 = (1 + v3) then (some (Hp_clearInput C110)).bind fun (v112, C113) =>
  some ((decide (v112 = 0)), C113, M106) else some (false, C110, M106)) else some (false, NC9, M106))

def La_moved (a1 : Int32) (a2 : Int32) (M : hyM) : Int32 :=
  ((if 36 ≤ (a1 + a2) then (if (a1 + a2) ≤ 84 then (a1 + a2) else 84) else 36) : Int32)

def La_act_L49 (a2 : Int32) (a3 : Int32) (v4 : Int32) : Nat → Int32 → hyM → Option (Int32 × hyM)
  | 0, _, _ => none
  | f + 1, x7, M8 =>
  (if 4 ≤ x7 then some (x7, M8) else (ldE 6 (M8.1 30) 1).bind fun v10 =>
  (if v10 ≤ 0 then (La_at ((a3 >>> ((5 * x7) &&& 31)) + x7) 49 M8).bind fun v12 =>
  (stE M8 31 60 (((5 * v4) + 1) + x7) (36 + v12)).bind fun M13 =>
  La_act_L49 a2 a3 v4 f (x7 + 1) M13 else (La_at (a2 >>> ((x7 + 4) &&& 31)) 3 M8).bind fun v14 =>
  (if v14 ≤ 0 then (La_at ((a3 >>> ((5 * x7) &&& 31)) + x7) 49 M8).bind fun v16 =>
  (stE M8 31 60 (((5 * v4) + 1) + x7) (36 + v16)).bind fun M17 =>
  La_act_L49 a2 a3 v4 f (x7 + 1) M17 else (ldE 60 (M8.1 31) (((5 * v4) - 4) + x7)).bind fun v18 =>
  (La_at (a3 >>> ((3 * x7) &&& 31)) 9 M8).bind fun v19 =>
  (stE M8 31 60 (((5 * v4) + 1) + x7) (La_moved v18 (v19 - 4) M8)).bind fun M20 =>
  La_act_L49 a2 a3 v4 f (x7 + 1) M20)))

def La_act_L996 (v56 : Int32) : Nat → Int32 → Int32 → hyM → Option (Int32 × Int32 × hyM)
  | 0, _, _, _ => none
  | f + 1, x57, x58, M59 =>
  (if 8 ≤ x58 then some (x57, x58, M59) else (ldE 16 (M59.1 33) ((8 * v56) + x58)).bind fun v61 =>
  (stE M59 33 16 ((8 * v56) + x58) 0).bind fun M63 =>
  La_act_L996 v56 f (x57 + (bI (!decide (v61 ≤ 0)))) (x58 + 1) M63)

def La_act_L773 (C : hyM) (M : hyM) (v82 : Int32) (x83 : Int32) : Nat → Int32 → Option ((Bool × hyM × hyM) ⊕ (Int32))
  | 0, _ => none
  | f + 1, x86 =>
  (if 5 ≤ x86 then some (.inr (x86)) else (ldE 60 (M.1 31) ((5 * x83) + x86)).bind fun v88 =>
  (if (v88 + (v82 - 7)) < 36 then some (.inl (true, C, M)) else (ldE 60 (M.1 31) ((5 * x83) + x86)).bind fun v90 =>
  (if (v90 + (v82 - 7)) ≤ 84 then La_act_L773 C M v82 x83 f (x86 + 1) else some (.inl (true, C, M)))))

def La_act_L761 (C : hyM) (M : hyM) (v82 : Int32) : Nat → Int32 → Option ((Bool × hyM × hyM) ⊕ (Int32))
  | 0, _ => none
  | f + 1, x83 =>
  (ldE 6 (M.1 30) 1).bind fun v84 =>
  (if v84 ≤ x83 then some (.inr (x83)) else (La_act_L773 C M v82 x83 hyFu 1).bind fun z => match z with
  | .inl r9 => some (.inl r9)
  | .inr (y86) =>
  La_act_L761 C M v82 f (x83 + 1))

def La_act_L844 (v82 : Int32) (x95 : Int32) : Nat → Int32 → hyM → Option (Int32 × hyM)
  | 0, _, _ => none
  | f + 1, x99, M100 =>
  (if 5 ≤ x99 then some (x99, M100) else (ldE 60 (M100.1 31) ((5 * x95) + x99)).bind fun v102 =>
  (stE M100 31 60 ((5 * x95) + x99) (v102 + (v82 - 7))).bind fun M103 =>
  La_act_L844 v82 x95 f (x99 + 1) M103)

def La_act_L832 (v82 : Int32) : Nat → Int32 → hyM → Option (Int32 × hyM)
  | 0, _, _ => none
  | f + 1, x95, M96 =>
  (ldE 6 (M96.1 30) 1).bind fun v97 =>
  (if v97 ≤ x95 then some (x95, M96) else (La_act_L844 v82 x95 hyFu 1 M96).bind fun (y99, NM100) =>
  La_act_L832 v82 f (x95 + 1) NM100)

def La_act_L617 (C : hyM) (M : hyM) (v117 : Int32) (v119 : Int32) : Nat → Int32 → Option ((Bool × hyM × hyM) ⊕ (Int32))
  | 0, _ => none
  | f + 1, x123 =>
  (ldE 6 (M.1 30) 5).bind fun v124 =>
  (if v124 ≤ x123 then some (.inr (x123)) else (ldE 9 (M.1 32) (3 * x123)).bind fun v126 =>
  (if (v117 + v119) < v126 then La_act_L617 C M v117 v119 f (x123 + 1) else (ldE 9 (M.1 32) ((3 * x123) + 1)).bind fun v128 =>
  (if v128 < v117 then La_act_L617 C M v117 v119 f (x123 + 1) else some (.inl (true, C, M)))))

def La_act_L49b (a2 : Int32) (a3 : Int32) (v210 : Int32) : Nat → Int32 → hyM → Option (Int32 × hyM)
  | 0, _, _ => none
  | f + 1, x213, M214 =>
  (if 4 ≤ x213 then some (x213, M214) else (ldE 6 (M214.1 30) 1).bind fun v216 =>
  (if v216 ≤ 0 then (La_at ((a3 >>> ((5 * x213) &&& 31)) + x213) 49 M214).bind fun v218 =>
  (stE M214 31 60 (((5 * v210) + 1) + x213) (36 + v218)).bind fun M219 =>
  La_act_L49b a2 a3 v210 f (x213 + 1) M219 else (La_at (a2 >>> ((x213 + 4) &&& 31)) 3 M214).bind fun v220 =>
  (if v220 ≤ 0 then (La_at ((a3 >>> ((5 * x213) &&& 31)) + x213) 49 M214).bind fun v222 =>
  (stE M214 31 60 (((5 * v210) + 1) + x213) (36 + v222)).bind fun M223 =>
  La_act_L49b a2 a3 v210 f (x213 + 1) M223 else (ldE 60 (M214.1 31) (((5 * v210) - 4) + x213)).bind fun v224 =>
  (La_at (a3 >>> ((3 * x213) &&& 31)) 9 M214).bind fun v225 =>
  (stE M214 31 60 (((5 * v210) + 1) + x213) (La_moved v224 (v225 - 4) M214)).bind fun M226 =>
  La_act_L49b a2 a3 v210 f (x213 + 1) M226)))

def La_act (a1 : Int32) (a2 : Int32) (a3 : Int32) (C : hyM) (M : hyM) : Option (Bool × hyM × hyM) :=
  (if a1 < 6 then (ldE 6 (M.1 30) 1).bind fun v2 =>
  (if v2 = 12 then some (true, C, M) else (ldE 6 (M.1 30) 1).bind fun v4 =>
  (La_at a2 4 M).bind fun v5 =>
  (stE M 31 60 (5 * v4) (4 * (1 + v5))).bind fun M6 =>
  (La_act_L49 a2 a3 v4 hyFu 0 M6).bind fun (y7, NM8) =>
  (ldE 6 (NM8.1 30) 1).bind fun v22 =>
  (stE NM8 30 6 1 (v22 + 1)).bind fun M23 =>
  (La_settle M23).bind fun M24 =>
  (ldE 60 (M24.1 31) (5 * v4)).bind fun v25 =>
  (ldE 60 (M24.1 31) ((5 * v4) + 1)).bind fun v26 =>
  (ldE 60 (M24.1 31) ((5 * v4) + 2)).bind fun v27 =>
  (ldE 60 (M24.1 31) ((5 * v4) + 3)).bind fun v28 =>
  (ldE 60 (M24.1 31) ((5 * v4) + 4)).bind fun v29 =>
  ((Hp_addNote (v25 >>> (2 &&& 31)) v26 v27 v28 v29 C).bind rtM).bind fun (v30, C31) =>
  (ldE 6 (M24.1 30) 1).bind fun v32 =>
  some ((decide (v30 = (v32 - 1))), C31, M24)) else (ldE 6 (M.1 30) 1).bind fun v36 =>
  (if v36 = 0 then (ldE 6 (M.1 30) 1).bind fun v208 =>
  (if v208 = 12 then some (true, C, M) else (ldE 6 (M.1 30) 1).bind fun v210 =>
  (La_at a2 4 M).bind fun v211 =>
  (stE M 31 60 (5 * v210) (4 * (1 + v211))).bind fun M212 =>
  (La_act_L49b a2 a3 v210 hyFu 0 M212).bind fun (y213, NM214) =>
  (ldE 6 (NM214.1 30) 1).bind fun v228 =>
  (stE NM214 30 6 1 (v228 + 1)).bind fun M229 =>
  (La_settle M229).bind fun M230 =>
  (ldE 60 (M230.1 31) (5 * v210)).bind fun v231 =>
  (ldE 60 (M230.1 31) ((5 * v210) + 1)).bind fun v232 =>
  (ldE 60 (M230.1 31) ((5 * v210) + 2)).bind fun v233 =>
  (ldE 60 (M230.1 31) ((5 * v210) + 3)).bind fun v234 =>
  (ldE 60 (M230.1 31) ((5 * v210) + 4)).bind fun v235 =>
  ((Hp_addNote (v231 >>> (2 &&& 31)) v232 v233 v234 v235 C).bind rtM).bind fun (v236, C237) =>
  (ldE 6 (M230.1 30) 1).bind fun v238 =>
  some ((decide (v236 = (v238 - 1))), C237, M230)) else (ldE 6 (M.1 30) 1).bind fun v38 =>
  (La_at a2 v38 M).bind fun v39 =>
  (if 10 ≤ a1 then (if a1 = 10 then (ldE 6 (M.1 30) 1).bind fun v175 =>
  (stE M 30 6 1 (v175 - 1)).bind fun M176 =>
  (La_settle M176).bind fun M177 =>
  ((Hp_dropNote C).bind rtM).bind fun (v178, C179) =>
  (ldE 6 (M177.1 30) 1).bind fun v180 =>
  some ((decide (v178 = v180)), C179, M177) else (if a1 = 11 then (La_at a3 4 M).bind fun v166 =>
  (ldE 60 (M.1 31) (((5 * v39) + 1) + v166)).bind fun v167 =>
  (La_at (a3 >>> (2 &&& 31)) 49 M).bind fun v168 =>
  (stE M 31 60 (((5 * v39) + 1) + v166) (36 + v168)).bind fun M169 =>
  (ldE 60 (M169.1 31) (((5 * v39) + 1) + v166)).bind fun v170 =>
  (rtM (Hp_setPitch v39 v166 v170 C)).bind fun (v171, C172) =>
  some ((decide (v171 = v167)), C172, M169) else (if a1 = 12 then (ldE 6 (M.1 30) 2).bind fun v151 =>
  (La_at a3 3 M).bind fun v152 =>
  (La_at a2 ((if v152 = 0 then 23 else 4) : Int32) M).bind fun v154 =>
  (stE M 30 6 2 (2 + v154)).bind fun M155 =>
  (ldE 6 (M155.1 30) 2).bind fun v156 =>
  (La_at (a3 >>> (2 &&& 31)) v156 M155).bind fun v157 =>
  (stE M155 30 6 3 v157).bind fun M158 =>
  (ldE 6 (M158.1 30) 2).bind fun v159 =>
  (ldE 6 (M158.1 30) 3).bind fun v160 =>
  (rtM (Hp_setBars v159 v160 C)).bind fun (v161, C162) =>
  some ((decide (v161 = v151)), C162, M158) else (if 15 ≤ a1 then (if a1 = 15 then (La_at a2 15 M).bind fun v82 =>
  (La_act_L761 C M v82 hyFu 0).bind fun z => match z with
  | .inl r9 => some r9
  | .inr (y83) =>
  (La_act_L832 v82 hyFu 0 M).bind fun (y95, NM96) =>
  (ldE 6 (NM96.1 30) 0).bind fun v107 =>
  (stE NM96 30 6 0 (((v107 + (v82 - 7)) + 12) - ((v107 + (v82 - 7)) + 12) / 12 * 12)).bind fun M108 =>
  ((Hp_transpose (v82 - 7) C).bind rtM).bind fun (v109, C110) =>
  (ldE 6 (M108.1 30) 0).bind fun v111 =>
  some ((decide (v109 = v111)), C110, M108) else (if a1 = 16 then (La_at a3 2 M).bind fun v71 =>
  (La_at a2 ((if v71 = 0 then 181 else 25) : Int32) M).bind fun v73 =>
  (stE M 30 6 4 (20 + v73)).bind fun M74 =>
  (ldE 6 (M74.1 30) 4).bind fun v75 =>
  ((Hp_setWidth v75 C).bind rtM).bind fun (v76, C77) =>
  ((Hp_count 10 C77).bind rt).bind fun v78 =>
  some ((decide (v76 = v78)), C77, M74) else (if a1 = 17 then (La_at a3 3 M).bind fun v51 =>
  (if v51 = 0 then (La_at a2 2 M).bind fun v56 =>
  (La_act_L996 v56 hyFu 0 0 M).bind fun (y57, y58, NM59) =>
  ((Hp_clearVerse v56 C).bind rtM).bind fun (v66, C67) =>
  some ((decide (v66 = y57)), C67, NM59) else (La_line a2 a3 C M).bind fun (v53, C54, M55) =>
  some (v53, C54, M55)) else (La_line a2 a3 C M).bind fun (v48, C49, M50) =>
  some (v48, C49, M50)))) else (La_phrases M).bind fun v116 =>
  (La_at a2 v116 M).bind fun v117 =>
  (La_phrases M).bind fun v118 =>
  (La_at a3 (v118 - v117) M).bind fun v119 =>
  (La_at (a3 >>> (4 &&& 31)) (((v117 + v119) - v117) + 1) M).bind fun v120 =>
  (ldE 6 (M.1 30) 5).bind fun v121 =>
  (if v121 = 2 then (stE M 30 6 5 0).bind fun M146 =>
  (Hp_clearRepeats C).bind fun (v148, C147) =>
  some ((decide (v148 = 2)), C147, M146) else (La_act_L617 C M v117 v119 hyFu 0).bind fun z => match z with
  | .inl r9 => some r9
  | .inr (y123) =>
  (ldE 6 (M.1 30) 5).bind fun v131 =>
  (stE M 32 9 (3 * v131) v117).bind fun M132 =>
  (ldE 6 (M132.1 30) 5).bind fun v133 =>
  (stE M132 32 9 ((3 * v133) + 1) (v117 + v119)).bind fun M134 =>
  (ldE 6 (M134.1 30) 5).bind fun v135 =>
  (stE M134 32 9 ((3 * v135) + 2) v120).bind fun M136 =>
  (ldE 6 (M136.1 30) 5).bind fun v137 =>
  (stE M136 30 6 5 (v137 + 1)).bind fun M138 =>
  ((Hp_repeat v117 (v117 + v119) v120 C).bind rtM).bind fun (v139, C140) =>
  (La_sung (zM M138 34)).bind fun (v142, M141) =>
  some ((decide (v139 = v142)), C140, M141)))))) else (La_at a3 2 M).bind fun v183 =>
  (La_at (a3 >>> (1 &&& 31)) 4 M).bind fun v185 =>
  (if (!decide (v185 ≤ 0)) then (ldE 60 (M.1 31) (5 * v39)).bind fun v197 =>
  (stE M 31 60 (5 * v39) (v197 ||| ((if (decide (v183 = 0)) then 2 else 1) : Int32))).bind fun M198 =>
  (La_settle M198).bind fun M199 =>
  ((Hp_mark v39 (decide (v183 = 0)) (!decide (v185 ≤ 0)) C).bind rtM).bind fun (v200, C201) =>
  (La_phrases M199).bind fun v202 =>
  some ((decide (v200 = v202)), C201, M199) else (ldE 60 (M.1 31) (5 * v39)).bind fun v189 =>
  (stE M 31 60 (5 * v39) (v189 &&& (((if (decide (v183 = 0)) then 2 else 1) : Int32) ^^^ (-1)))).bind fun M190 =>
  (La_settle M190).bind fun M191 =>
  ((Hp_mark v39 (decide (v183 = 0)) (!decide (v185 ≤ 0)) C).bind rtM).bind fun (v192, C193) =>
  (La_phrases M191).bind fun v194 =>
  some ((decide (v192 = v194)), C193, M191)))))

