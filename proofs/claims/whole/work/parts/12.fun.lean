/-! The methods as functions of their arguments and of the ints and longs of the cells; by program out of the bytecode. -/
def Ba_change (a1 : Int32) (a2 : Int32) (M : hyM) : hyM :=
  (wI (wI M 4 0 a1) 4 1 a2)

def Ba_numberAt (a1 : Int32) (M : hyM) : Option Int32 :=
  (if (if a1 < (M.1 4 1) then true else (!decide (0 < (M.1 4 0)))) then some 0 else (jdv (a1 - (M.1 4 1)) (M.1 4 0)).bind fun v3 =>
  some (1 + v3))

def Ba_unitsBefore (a1 : Int32) (M : hyM) : Option Int32 :=
  (if (if a1 < (M.1 4 1) then true else (!decide (0 < (M.1 4 0)))) then some a1 else (jrm (a1 - (M.1 4 1)) (M.1 4 0)).bind fun v3 =>
  some v3)

def Ba_unitsFrom (a1 : Int32) (M : hyM) : Option Int32 :=
  (Ba_unitsBefore a1 M).bind fun v2 =>
  some ((if (M.1 4 1) ≤ a1 then (M.1 4 0) else (M.1 4 1)) - v2)

def Ba_divide (a1 : Int32) (M : hyM) : Option Bool :=
  (if (M.1 4 0) ≤ 0 then some false else (jrm a1 (M.1 4 0)).bind fun v2 =>
  some (decide (v2 = 0)))

def In_codeAt (a1 : Int32) (M : hyM) : Int32 :=
  (atf 60 (M.1 29) a1)

def In_isDigit (a1 : Int32) (M : hyM) : Bool :=
  (if a1 < 48 then false else (!decide (57 < a1)))

def Bo_sizeOf (a1 : Int32) (M : hyM) : Int32 :=
  (atf 8 (M.1 27) a1)

def Bo_push (a1 : Int32) (M : hyM) : hyM :=
  (putf (putf M 26 192 (((M.1 25 2) * 24) + (Bo_sizeOf (M.1 25 2) M)) a1) 27 8 ((putf M 26 192 (((M.1 25 2) * 24) + (Bo_sizeOf (M.1 25 2) M)) a1).1 25 2) ((Bo_sizeOf (M.1 25 2) M) + 1))

def Bo_numberAt (a1 : Int32) (a2 : Int32) (M : hyM) : Int32 :=
  (atf 192 (M.1 26) ((a1 * 24) + a2))

def Bo_pushAllAgain_L11 (M : hyM) : Nat → Int32 → hyM → Option (Int32 × hyM)
  | 0, _, _ => none
  | f + 1, x1, M2 =>
  (if (Bo_sizeOf (M.1 25 2) M) ≤ x1 then some (x1, M2) else (some (Bo_push (Bo_numberAt (M2.1 25 2) x1 M2) M2)).bind fun M4 =>
  Bo_pushAllAgain_L11 M f (x1 + 1) M4)

def Bo_pushAllAgain (M : hyM) : Option hyM :=
  (Bo_pushAllAgain_L11 M hyFu 0 M).bind fun (y1, NM2) =>
  some NM2

def Bo_take_L16  : Nat → Int32 → Int32 → hyM → Option (Int32 × Int32 × hyM)
  | 0, _, _, _ => none
  | f + 1, x2, x3, M4 =>
  (if (M4.1 28 1) ≤ x3 then some (x2, x3, M4) else (if (In_isDigit (In_codeAt x3 M4) M4) then Bo_take_L16 f ((10 * x2) + ((In_codeAt x3 M4) - 48)) (x3 + 1) M4 else (if (In_codeAt x3 M4) = 46 then (some (Bo_push x2 M4)).bind fun M8 =>
  Bo_take_L16 f 0 (x3 + 1) M8 else Bo_take_L16 f x2 (x3 + 1) M4)))

def Bo_take (M : hyM) : Option hyM :=
  (some (putf M 27 8 (M.1 25 2) 0)).bind fun M1 =>
  (Bo_take_L16  hyFu 0 0 M1).bind fun (y2, y3, NM4) =>
  (if y2 ≤ 0 then (Bo_pushAllAgain NM4).bind fun M11 =>
  (some (wI M11 25 2 ((M11.1 25 2) + 1))).bind fun M12 =>
  some M12 else (some (Bo_push y2 NM4)).bind fun M13 =>
  (some (wI M13 25 2 ((M13.1 25 2) + 1))).bind fun M14 =>
  some M14)

def Bo_remove_L37 (x2 : Int32) : Nat → Int32 → hyM → Option (Int32 × hyM)
  | 0, _, _ => none
  | f + 1, x6, M7 =>
  (if (Bo_sizeOf (x2 + 1) M7) ≤ x6 then some (x6, M7) else (some (putf M7 26 192 ((x2 * 24) + x6) (Bo_numberAt (x2 + 1) x6 M7))).bind fun M9 =>
  Bo_remove_L37 x2 f (x6 + 1) M9)

def Bo_remove_L12  : Nat → Int32 → hyM → Option (Int32 × hyM)
  | 0, _, _ => none
  | f + 1, x2, M3 =>
  (if (M3.1 25 2) ≤ x2 then some (x2, M3) else (some (putf M3 27 8 x2 (Bo_sizeOf (x2 + 1) M3))).bind fun M5 =>
  (Bo_remove_L37 x2 hyFu 0 M5).bind fun (y6, NM7) =>
  Bo_remove_L12 f (x2 + 1) NM7)

def Bo_remove (a1 : Int32) (M : hyM) : Option hyM :=
  (some (wI M 25 2 ((M.1 25 2) - 1))).bind fun M1 =>
  (Bo_remove_L12  hyFu a1 M1).bind fun (y2, NM3) =>
  some NM3

def Or_phraseAt (a1 : Int32) (M : hyM) : Int32 :=
  (atf 80 (M.1 19) a1)

def Ph_firstOf (a1 : Int32) (M : hyM) : Int32 :=
  (atf 40 (M.1 15) a1)

def Ph_lastOf (a1 : Int32) (M : hyM) : Int32 :=
  (atf 40 (M.1 16) a1)

def Ph_syllableOf (a1 : Int32) (M : hyM) : Int32 :=
  (atf 40 (M.1 14) a1)

def Ve_rowOf (a1 : Int32) (a2 : Int32) (M : hyM) : Int32 :=
  ((a1 * 24) + a2)

def Ve_syllablesOf (a1 : Int32) (a2 : Int32) (M : hyM) : Int32 :=
  (atf 96 (M.1 10) (Ve_rowOf a1 a2 M))

def Ve_hasSyllable (a1 : Int32) (a2 : Int32) (a3 : Int32) (M : hyM) : Bool :=
  (if 24 ≤ a2 then false else (if a3 < 0 then false else (!decide ((Ve_syllablesOf a1 a2 M) ≤ a3))))

def Ve_packedAt (a1 : Int32) (a2 : Int32) (a3 : Int32) (M : hyM) : Int32 :=
  (atf 2880 (M.1 11) (((Ve_rowOf a1 a2 M) * 30) + a3))

def Ve_lengthAt (a1 : Int32) (a2 : Int32) (a3 : Int32) (M : hyM) : Int32 :=
  (((Ve_packedAt a1 a2 a3 M) >>> (7 &&& 31)) &&& 15)

def Ve_widestBelow_L5 (a1 : Int32) (a2 : Int32) (M : hyM) : Nat → Int32 → Int32 → Option (Int32 × Int32)
  | 0, _, _ => none
  | f + 1, x1, x2 =>
  (if 4 ≤ x2 then some (x1, x2) else Ve_widestBelow_L5 a1 a2 M f (if (Ve_hasSyllable x2 a1 a2 M) then (jmax x1 (Ve_lengthAt x2 a1 a2 M)) else x1) (x2 + 1))

def Ve_widestBelow (a1 : Int32) (a2 : Int32) (M : hyM) : Option Int32 :=
  (Ve_widestBelow_L5 a1 a2 M hyFu 0 0).bind fun (y1, y2) =>
  some y1

def Co_widthOf (a1 : Int32) (M : hyM) : Int32 :=
  (atf 40 (M.1 22) a1)

def Co_widen (a1 : Int32) (a2 : Int32) (M : hyM) : hyM :=
  (putf M 22 40 a1 (jmax (Co_widthOf a1 M) a2))

def Co_findWidths_L3  : Nat → Int32 → hyM → Option (Int32 × hyM)
  | 0, _, _ => none
  | f + 1, x1, M2 =>
  (if 40 ≤ x1 then some (x1, M2) else (some (putf M2 22 40 x1 3)).bind fun M4 =>
  Co_findWidths_L3 f (x1 + 1) M4)

def Co_findWidths_L61 (x6 : Int32) (M7 : hyM) : Nat → Int32 → hyM → Option (Int32 × hyM)
  | 0, _, _ => none
  | f + 1, x10, M11 =>
  (if (Ph_lastOf (Or_phraseAt x6 M7) M11) < x10 then some (x10, M11) else (Ve_widestBelow x6 (Ph_syllableOf x10 M11) M11).bind fun v13 =>
  (some (Co_widen x10 (v13 + 1) M11)).bind fun M14 =>
  Co_findWidths_L61 x6 M7 f (x10 + 1) M14)

def Co_findWidths_L29  : Nat → Int32 → hyM → Option (Int32 × hyM)
  | 0, _, _ => none
  | f + 1, x6, M7 =>
  (if (if (M7.1 18 2) ≤ x6 then false else (!decide (24 ≤ x6))) then (Co_findWidths_L61 x6 M7 hyFu (Ph_firstOf (Or_phraseAt x6 M7) M7) M7).bind fun (y10, NM11) =>
  Co_findWidths_L29 f (x6 + 1) NM11 else some (x6, M7))

def Co_findWidths (M : hyM) : Option hyM :=
  (Co_findWidths_L3  hyFu 0 M).bind fun (y1, NM2) =>
  (Co_findWidths_L29  hyFu 0 NM2).bind fun (y6, NM7) =>
  some NM7

def Co_sumOf_L5 (a2 : Int32) (M : hyM) : Nat → Int32 → Int32 → Option (Int32 × Int32)
  | 0, _, _ => none
  | f + 1, x1, x2 =>
  (if a2 < x2 then some (x1, x2) else Co_sumOf_L5 a2 M f (x1 + (Co_widthOf x2 M)) (x2 + 1))

def Co_sumOf (a1 : Int32) (a2 : Int32) (M : hyM) : Option Int32 :=
  (Co_sumOf_L5 a2 M hyFu 0 a1).bind fun (y1, y2) =>
  some y1

def Co_findSystems_L13 (a1 : Int32) : Nat → Int32 → Int32 → Int32 → hyM → Option (Int32 × Int32 × Int32 × hyM)
  | 0, _, _, _, _ => none
  | f + 1, x2, x3, x4, M5 =>
  (if (M5.1 12 5) ≤ x4 then some (x2, x3, x4, M5) else (Co_sumOf (Ph_firstOf x4 M5) (Ph_lastOf x4 M5) M5).bind fun v7 =>
  (some (wI M5 21 4 ((M5.1 21 4) + v7))).bind fun M10 =>
  (some (putf M10 23 40 x4 v7)).bind fun M11 =>
  (some (putf M11 24 40 x4 (if x4 ≤ 0 then x2 else (if (x3 + v7) ≤ a1 then x2 else (x2 + 1))))).bind fun M12 =>
  Co_findSystems_L13 a1 f (if x4 ≤ 0 then x2 else (if (x3 + v7) ≤ a1 then x2 else (x2 + 1))) ((if x4 ≤ 0 then x3 else (if (x3 + v7) ≤ a1 then x3 else 0)) + v7) (x4 + 1) M12)

def Co_findSystems (a1 : Int32) (M : hyM) : Option hyM :=
  (some (wI M 21 4 0)).bind fun M1 =>
  (Co_findSystems_L13 a1 hyFu 0 0 0 M1).bind fun (y2, y3, y4, NM5) =>
  (some (wI NM5 21 3 (if (NM5.1 12 5) ≤ 0 then 0 else (y2 + 1)))).bind fun M16 =>
  some M16

def Co_widthOfPhrase (a1 : Int32) (M : hyM) : Int32 :=
  (atf 40 (M.1 23) a1)

def Co_systemOf (a1 : Int32) (M : hyM) : Int32 :=
  (atf 40 (M.1 24) a1)

def In_push (a1 : Int32) (M : hyM) : hyM :=
  (wI (putf M 29 60 (M.1 28 1) a1) 28 1 (((putf M 29 60 (M.1 28 1) a1).1 28 1) + 1))

def In_isOfSyllable (a1 : Int32) (M : hyM) : Bool :=
  (if a1 < 97 then (if a1 < 65 then (decide (a1 = 39)) else (if a1 ≤ 90 then true else (decide (a1 = 39)))) else (if a1 ≤ 122 then true else (if a1 < 65 then (decide (a1 = 39)) else (if a1 ≤ 90 then true else (decide (a1 = 39))))))

def In_errorAsLine_L4 (M : hyM) : Nat → Int32 → Int32 → Option (Int32 ⊕ (Int32 × Int32))
  | 0, _, _ => none
  | f + 1, x1, x2 =>
  (if (M.1 28 1) ≤ x2 then some (.inr (x1, x2)) else (if (if (In_isOfSyllable (In_codeAt x2 M) M) then (!decide (12 ≤ x1)) else false) then In_errorAsLine_L4 M f (x1 + 1) (x2 + 1) else (if (if (In_codeAt x2 M) = 45 then (!decide (x1 ≤ 0)) else (if (In_codeAt x2 M) = 32 then (!decide (x1 ≤ 0)) else false)) then In_errorAsLine_L4 M f 0 (x2 + 1) else some (.inl x2))))

def In_errorAsLine (M : hyM) : Option Int32 :=
  (In_errorAsLine_L4 M hyFu 0 0).bind fun z => match z with
  | .inl r9 => some r9
  | .inr (y1, y2) =>
  some (M.1 28 1)

def In_goesOn (a1 : Int32) (a2 : Int32) (M : hyM) : Bool :=
  (if ((10 * a1) + (a2 - 48)) ≤ 0 then false else (!decide (20 < ((10 * a1) + (a2 - 48)))))

def Hp_flag (a1 : Bool) (M : hyM) : Int32 :=
  (bI a1)

def In_canDouble (a1 : Int32) (M : hyM) : Bool :=
  (if a1 ≤ 0 then false else (!decide (24 < (2 * a1))))

def In_errorAsMetre_L9 (M : hyM) : Nat → Int32 → Int32 → Bool → Int32 → Option (Int32 ⊕ (Int32 × Int32 × Bool × Int32))
  | 0, _, _, _, _ => none
  | f + 1, x1, x2, x3, x4 =>
  (if (M.1 28 1) ≤ x4 then some (.inr (x1, x2, x3, x4)) else (if (if (In_isDigit (In_codeAt x4 M) M) then (if x3 then false else (In_goesOn x2 (In_codeAt x4 M) M)) else false) then In_errorAsMetre_L9 M f (x1 + (Hp_flag (decide (x2 = 0)) M)) ((10 * x2) + ((In_codeAt x4 M) - 48)) x3 (x4 + 1) else (if (if (In_codeAt x4 M) = 46 then (if x2 ≤ 0 then false else (!decide (24 ≤ x1))) else false) then In_errorAsMetre_L9 M f x1 0 x3 (x4 + 1) else (if (if (In_codeAt x4 M) = 68 then (if x3 then false else (if x2 = 0 then (In_canDouble x1 M) else false)) else false) then In_errorAsMetre_L9 M f x1 x2 true (x4 + 1) else some (.inl x4)))))

def In_errorAsMetre (M : hyM) : Option Int32 :=
  (In_errorAsMetre_L9 M hyFu 0 0 false 0).bind fun z => match z with
  | .inl r9 => some r9
  | .inr (y1, y2, y3, y4) =>
  some (M.1 28 1)

def In_isLine (M : hyM) : Option Bool :=
  (if (M.1 28 1) ≤ 0 then some false else (In_errorAsLine M).bind fun v2 =>
  some (if v2 = (M.1 28 1) then (In_isOfSyllable (In_codeAt ((M.1 28 1) - 1) M) M) else false))

def In_isMetre (M : hyM) : Option Bool :=
  (if (M.1 28 1) ≤ 0 then some false else (In_errorAsMetre M).bind fun v2 =>
  some (if v2 = (M.1 28 1) then (if (In_isDigit (In_codeAt ((M.1 28 1) - 1) M) M) then true else (decide ((In_codeAt ((M.1 28 1) - 1) M) = 68))) else false))

def Jm_floorMod (a1 : Int32) (a2 : Int32) (M : hyM) : Option Int32 :=
  (jrm a1 a2).bind fun v1 =>
  (if (if 0 ≤ (a1 ^^^ a2) then false else (!decide (v1 = 0))) then some (v1 + a2) else some v1)

def Ke_degreeInKey_L11 (v1 : Int32) : Nat → Int32 → Option (Int32 ⊕ (Int32))
  | 0, _ => none
  | f + 1, x2 =>
  (if 7 ≤ x2 then some (.inr (x2)) else (if (atf (hyKl 0) (hyKf 0) x2) = v1 then some (.inl x2) else Ke_degreeInKey_L11 v1 f (x2 + 1)))

def Ke_degreeInKey (a1 : Int32) (a2 : Int32) (M : hyM) : Option Int32 :=
  (Jm_floorMod (a2 - a1) 12 M).bind fun v1 =>
  (Ke_degreeInKey_L11 v1 hyFu 0).bind fun z => match z with
  | .inl r9 => some r9
  | .inr (y2) =>
  some (-1)

def Ke_isRaised (a1 : Int32) (a2 : Int32) (M : hyM) : Option Bool :=
  (Ke_degreeInKey a1 a2 M).bind fun v1 =>
  some (decide (v1 = (-1)))

def Ke_written (a1 : Int32) (a2 : Int32) (M : hyM) : Option Int32 :=
  (Ke_degreeInKey a1 a2 M).bind fun v1 =>
  some (if v1 = (-1) then (a2 - 1) else a2)

def Ke_degreeOf (a1 : Int32) (a2 : Int32) (M : hyM) : Option Int32 :=
  (Ke_degreeInKey a1 a2 M).bind fun v1 =>
  (if v1 = (-1) then (Ke_degreeInKey a1 (a2 - 1) M).bind fun v3 =>
  some v3 else some v1)

def Jm_floorDiv (a1 : Int32) (a2 : Int32) (M : hyM) : Option Int32 :=
  (jdv a1 a2).bind fun v1 =>
  (if (if 0 ≤ (a1 ^^^ a2) then false else (!decide ((v1 * a2) = a1))) then some (v1 - 1) else some v1)

def Ke_stepOf (a1 : Int32) (a2 : Int32) (M : hyM) : Option Int32 :=
  (Ke_degreeOf a1 a2 M).bind fun v1 =>
  (Ke_written a1 a2 M).bind fun v2 =>
  (Jm_floorDiv ((v2 - (atf (hyKl 0) (hyKf 0) (((atf (hyKl 1) (hyKf 1) a1) + v1) - ((atf (hyKl 1) (hyKf 1) a1) + v1) / 7 * 7))) + 2) 12 M).bind fun v3 =>
  some ((7 * v3) + (((atf (hyKl 1) (hyKf 1) a1) + v1) - ((atf (hyKl 1) (hyKf 1) a1) + v1) / 7 * 7))

def Ke_shapeOf (a1 : Int32) (a2 : Int32) (M : hyM) : Option Int32 :=
  (Ke_degreeOf a1 a2 M).bind fun v1 =>
  some (atf (hyKl 2) (hyKf 2) v1)

def Ke_ledgerLines (a1 : Int32) (a2 : Int32) (M : hyM) : Int32 :=
  (if a1 ≤ ((atf (hyKl 3) (hyKf 3) a2) + 8) then (if (atf (hyKl 3) (hyKf 3) a2) ≤ a1 then 0 else (((atf (hyKl 3) (hyKf 3) a2) - a1) / 2)) else ((a1 - ((atf (hyKl 3) (hyKf 3) a2) + 8)) / 2))

def Or_timesOf (a1 : Int32) (M : hyM) : Int32 :=
  (atf 40 (M.1 20) a1)

def Or_push (a1 : Int32) (M : hyM) : hyM :=
  (wI (putf (putf M 19 80 (M.1 18 2) a1) 20 40 a1 ((Or_timesOf a1 (putf M 19 80 (M.1 18 2) a1)) + 1)) 18 2 (((putf (putf M 19 80 (M.1 18 2) a1) 20 40 a1 ((Or_timesOf a1 (putf M 19 80 (M.1 18 2) a1)) + 1)).1 18 2) + 1))

def Re_endingWith_L2 (a1 : Int32) (M : hyM) : Nat → Int32 → Option (Int32 ⊕ (Int32))
  | 0, _ => none
  | f + 1, x1 =>
  (if (M.1 5 3) ≤ x1 then some (.inr (x1)) else (if (atf 3 (M.1 7) x1) = a1 then some (.inl x1) else Re_endingWith_L2 a1 M f (x1 + 1)))

def Re_endingWith (a1 : Int32) (M : hyM) : Option Int32 :=
  (Re_endingWith_L2 a1 M hyFu 0).bind fun z => match z with
  | .inl r9 => some r9
  | .inr (y1) =>
  some (-1)

def Re_firstOf (a1 : Int32) (M : hyM) : Int32 :=
  (atf 3 (M.1 6) a1)

def Re_lastAgainOf (a1 : Int32) (M : hyM) : Int32 :=
  ((atf 3 (M.1 7) a1) - (atf 3 (M.1 8) a1))

def Or_pushAgain_L2 (a2 : Int32) : Nat → Int32 → hyM → Option (Int32 × hyM)
  | 0, _, _ => none
  | f + 1, x1, M2 =>
  (if a2 < x1 then some (x1, M2) else (some (Or_push x1 M2)).bind fun M4 =>
  Or_pushAgain_L2 a2 f (x1 + 1) M4)

def Or_pushAgain (a1 : Int32) (a2 : Int32) (M : hyM) : Option hyM :=
  (Or_pushAgain_L2 a2 hyFu a1 M).bind fun (y1, NM2) =>
  some NM2

def Or_find_L7 (a1 : Int32) : Nat → Int32 → hyM → Option (Int32 × hyM)
  | 0, _, _ => none
  | f + 1, x2, M3 =>
  (if a1 ≤ x2 then some (x2, M3) else (some (putf M3 20 40 x2 0)).bind fun M5 =>
  Or_find_L7 a1 f (x2 + 1) M5)

def Or_find_L29 (a1 : Int32) : Nat → Int32 → hyM → Option (Int32 × hyM)
  | 0, _, _ => none
  | f + 1, x7, M8 =>
  (if a1 ≤ x7 then some (x7, M8) else (some (Or_push x7 M8)).bind fun M10 =>
  (Re_endingWith x7 M10).bind fun v11 =>
  (if v11 = (-1) then Or_find_L29 a1 f (x7 + 1) M10 else (Or_pushAgain (Re_firstOf v11 M10) (Re_lastAgainOf v11 M10) M10).bind fun M13 =>
  Or_find_L29 a1 f (x7 + 1) M13))

def Or_find (a1 : Int32) (M : hyM) : Option hyM :=
  (some (wI M 18 2 0)).bind fun M1 =>
  (Or_find_L7 a1 hyFu 0 M1).bind fun (y2, NM3) =>
  (Or_find_L29 a1 hyFu 0 NM3).bind fun (y7, NM8) =>
  some NM8

def Ph_open (a1 : Int32) (M : hyM) : hyM :=
  (wI (putf (putf M 15 40 (M.1 12 5) a1) 17 40 ((putf M 15 40 (M.1 12 5) a1).1 12 5) 0) 12 5 (((putf (putf M 15 40 (M.1 12 5) a1) 17 40 ((putf M 15 40 (M.1 12 5) a1).1 12 5) 0).1 12 5) + 1))

def Hp_hasBit (a1 : Int64) (a2 : Int32) (M : hyM) : Bool :=
  (!decide ((lg_cmp ((jlushr a1 a2) &&& 1) 0) = 0))

def Ph_syllablesOf (a1 : Int32) (M : hyM) : Int32 :=
  (atf 40 (M.1 17) a1)

def Ph_take (a1 : Int32) (a2 : Bool) (M : hyM) : hyM :=
  (putf (putf (putf (putf M 16 40 ((M.1 12 5) - 1) a1) 13 40 a1 ((M.1 12 5) - 1)) 14 40 a1 (if a2 then (-1) else (Ph_syllablesOf ((M.1 12 5) - 1) (putf (putf M 16 40 ((M.1 12 5) - 1) a1) 13 40 a1 ((M.1 12 5) - 1))))) 17 40 ((M.1 12 5) - 1) ((Ph_syllablesOf ((M.1 12 5) - 1) (putf (putf (putf M 16 40 ((M.1 12 5) - 1) a1) 13 40 a1 ((M.1 12 5) - 1)) 14 40 a1 (if a2 then (-1) else (Ph_syllablesOf ((M.1 12 5) - 1) (putf (putf M 16 40 ((M.1 12 5) - 1) a1) 13 40 a1 ((M.1 12 5) - 1)))))) + (Hp_flag (!a2) (putf (putf (putf M 16 40 ((M.1 12 5) - 1) a1) 13 40 a1 ((M.1 12 5) - 1)) 14 40 a1 (if a2 then (-1) else (Ph_syllablesOf ((M.1 12 5) - 1) (putf (putf M 16 40 ((M.1 12 5) - 1) a1) 13 40 a1 ((M.1 12 5) - 1))))))))

def Ph_find_L9  : Nat → Bool → Int32 → hyM → Option (Bool × Int32 × hyM)
  | 0, _, _, _ => none
  | f + 1, x2, x3, M4 =>
  (if (M4.1 1 4) ≤ x3 then some (x2, x3, M4) else (if x2 then (some (Ph_open x3 M4)).bind fun M11 =>
  (some (Ph_take x3 (if x2 then false else (Hp_hasBit (M11.2 1 2) x3 M11)) M11)).bind fun M14 =>
  Ph_find_L9 f (Hp_hasBit (M14.2 1 3) x3 M14) (x3 + 1) M14 else (some (Ph_take x3 (if x2 then false else (Hp_hasBit (M4.2 1 2) x3 M4)) M4)).bind fun M9 =>
  Ph_find_L9 f (Hp_hasBit (M9.2 1 3) x3 M9) (x3 + 1) M9))

def Ph_find (M : hyM) : Option hyM :=
  (some (wI M 12 5 0)).bind fun M1 =>
  (Ph_find_L9  hyFu true 0 M1).bind fun (y2, y3, NM4) =>
  some NM4

def Ph_phraseOf (a1 : Int32) (M : hyM) : Int32 :=
  (atf 40 (M.1 13) a1)

def Ph_notesOf (a1 : Int32) (M : hyM) : Int32 :=
  (((Ph_lastOf a1 M) - (Ph_firstOf a1 M)) + 1)

def Re_push (a1 : Int32) (a2 : Int32) (a3 : Int32) (M : hyM) : hyM :=
  (wI (putf (putf (putf M 6 3 (M.1 5 3) a1) 7 3 ((putf M 6 3 (M.1 5 3) a1).1 5 3) a2) 8 3 ((putf (putf M 6 3 (M.1 5 3) a1) 7 3 ((putf M 6 3 (M.1 5 3) a1).1 5 3) a2).1 5 3) a3) 5 3 (((putf (putf (putf M 6 3 (M.1 5 3) a1) 7 3 ((putf M 6 3 (M.1 5 3) a1).1 5 3) a2) 8 3 ((putf (putf M 6 3 (M.1 5 3) a1) 7 3 ((putf M 6 3 (M.1 5 3) a1).1 5 3) a2).1 5 3) a3).1 5 3) + 1))

def Re_touch_L2 (a1 : Int32) (a2 : Int32) (M : hyM) : Nat → Int32 → Option (Bool ⊕ (Int32))
  | 0, _ => none
  | f + 1, x1 =>
  (if (M.1 5 3) ≤ x1 then some (.inr (x1)) else (if (if (atf 3 (M.1 7) x1) < a1 then false else (!decide (a2 < (atf 3 (M.1 6) x1)))) then some (.inl true) else Re_touch_L2 a1 a2 M f (x1 + 1)))

def Re_touch (a1 : Int32) (a2 : Int32) (M : hyM) : Option Bool :=
  (Re_touch_L2 a1 a2 M hyFu 0).bind fun z => match z with
  | .inl r9 => some r9
  | .inr (y1) =>
  some false

def Re_keepWithin_L12 (a1 : Int32) (M : hyM) : Nat → Int32 → hyM → Option (Int32 × hyM)
  | 0, _, _ => none
  | f + 1, x2, M3 =>
  (if (M.1 5 3) ≤ x2 then some (x2, M3) else (if a1 ≤ (atf 3 (M3.1 7) x2) then Re_keepWithin_L12 a1 M f (x2 + 1) M3 else (some (Re_push (atf 3 (M3.1 6) x2) (atf 3 (M3.1 7) x2) (atf 3 (M3.1 8) x2) M3)).bind fun M6 =>
  Re_keepWithin_L12 a1 M f (x2 + 1) M6))

def Re_keepWithin (a1 : Int32) (M : hyM) : Option hyM :=
  (some (wI M 5 3 0)).bind fun M1 =>
  (Re_keepWithin_L12 a1 M hyFu 0 M1).bind fun (y2, NM3) =>
  some NM3

def Tu_restart (a1 : Int32) (M : hyM) : hyM :=
  (wI (wL (wL (wI M 1 4 0) 1 2 0) 1 3 0) 1 5 a1)

def Tu_changePitch (a1 : Int32) (a2 : Int32) (a3 : Int32) (M : hyM) : hyM :=
  (putf M 3 160 ((a1 * 4) + a2) a3)

def Tu_push (a1 : Int32) (a2 : Int32) (a3 : Int32) (a4 : Int32) (a5 : Int32) (M : hyM) : Option hyM :=
  (some (putf M 2 40 (M.1 1 4) a1)).bind fun M1 =>
  (some (Tu_changePitch (M1.1 1 4) 0 a2 M1)).bind fun M2 =>
  (some (Tu_changePitch (M2.1 1 4) 1 a3 M2)).bind fun M3 =>
  (some (Tu_changePitch (M3.1 1 4) 2 a4 M3)).bind fun M4 =>
  (some (Tu_changePitch (M4.1 1 4) 3 a5 M4)).bind fun M5 =>
  (some (wI M5 1 4 ((M5.1 1 4) + 1))).bind fun M6 =>
  some M6

def Hp_withBit (a1 : Int64) (a2 : Int32) (a3 : Bool) (M : hyM) : Int64 :=
  (if a3 then (a1 ||| (jlshl 1 a2)) else (a1 &&& ((jlshl 1 a2) ^^^ (-1))))

def Tu_pop (M : hyM) : hyM :=
  (wL (wL (wI M 1 4 ((M.1 1 4) - 1)) 1 2 (Hp_withBit ((wI M 1 4 ((M.1 1 4) - 1)).2 1 2) ((wI M 1 4 ((M.1 1 4) - 1)).1 1 4) false (wI M 1 4 ((M.1 1 4) - 1)))) 1 3 (Hp_withBit ((wL (wI M 1 4 ((M.1 1 4) - 1)) 1 2 (Hp_withBit ((wI M 1 4 ((M.1 1 4) - 1)).2 1 2) ((wI M 1 4 ((M.1 1 4) - 1)).1 1 4) false (wI M 1 4 ((M.1 1 4) - 1)))).2 1 3) ((wL (wI M 1 4 ((M.1 1 4) - 1)) 1 2 (Hp_withBit ((wI M 1 4 ((M.1 1 4) - 1)).2 1 2) ((wI M 1 4 ((M.1 1 4) - 1)).1 1 4) false (wI M 1 4 ((M.1 1 4) - 1)))).1 1 4) false (wL (wI M 1 4 ((M.1 1 4) - 1)) 1 2 (Hp_withBit ((wI M 1 4 ((M.1 1 4) - 1)).2 1 2) ((wI M 1 4 ((M.1 1 4) - 1)).1 1 4) false (wI M 1 4 ((M.1 1 4) - 1))))))

def Tu_lengthOf (a1 : Int32) (M : hyM) : Int32 :=
  (atf 40 (M.1 2) a1)

def Tu_pitchOf (a1 : Int32) (a2 : Int32) (M : hyM) : Int32 :=
  (atf 160 (M.1 3) ((a1 * 4) + a2))

def Tu_startOf_L4 (a1 : Int32) (M : hyM) : Nat → Int32 → Int32 → Option (Int32 × Int32)
  | 0, _, _ => none
  | f + 1, x1, x2 =>
  (if a1 ≤ x2 then some (x1, x2) else Tu_startOf_L4 a1 M f (x1 + (Tu_lengthOf x2 M)) (x2 + 1))

def Tu_startOf (a1 : Int32) (M : hyM) : Option Int32 :=
  (Tu_startOf_L4 a1 M hyFu 0 0).bind fun (y1, y2) =>
  some y1

def Tu_canMove_L2 (a1 : Int32) (M : hyM) : Nat → Int32 → Option (Bool ⊕ (Int32))
  | 0, _ => none
  | f + 1, x1 =>
  (if ((M.1 1 4) * 4) ≤ x1 then some (.inr (x1)) else (if (if ((atf 160 (M.1 3) x1) + a1) < 36 then true else (!decide (((atf 160 (M.1 3) x1) + a1) ≤ 84))) then some (.inl false) else Tu_canMove_L2 a1 M f (x1 + 1)))

def Tu_canMove (a1 : Int32) (M : hyM) : Option Bool :=
  (Tu_canMove_L2 a1 M hyFu 0).bind fun z => match z with
  | .inl r9 => some r9
  | .inr (y1) =>
  some true

def Tu_move_L2 (a1 : Int32) : Nat → Int32 → hyM → Option (Int32 × hyM)
  | 0, _, _ => none
  | f + 1, x1, M2 =>
  (if ((M2.1 1 4) * 4) ≤ x1 then some (x1, M2) else (some (putf M2 3 160 x1 ((atf 160 (M2.1 3) x1) + a1))).bind fun M4 =>
  Tu_move_L2 a1 f (x1 + 1) M4)

def Tu_move (a1 : Int32) (M : hyM) : Option hyM :=
  (Tu_move_L2 a1 hyFu 0 M).bind fun (y1, NM2) =>
  (Jm_floorMod ((NM2.1 1 5) + a1) 12 NM2).bind fun v6 =>
  (some (wI NM2 1 5 v6)).bind fun M7 =>
  some M7

def Tu_goParallel (a1 : Int32) (a2 : Int32) (a3 : Int32) (M : hyM) : Option Bool :=
  (if 1 ≤ a1 then (Jm_floorMod ((Tu_pitchOf a1 a2 M) - (Tu_pitchOf a1 a3 M)) 12 M).bind fun v6 =>
  (if (if (if (Tu_pitchOf a1 a2 M) ≤ (Tu_pitchOf (a1 - 1) a2 M) then false else (!decide ((Tu_pitchOf a1 a3 M) ≤ (Tu_pitchOf (a1 - 1) a3 M)))) then (if v6 = 0 then true else (decide (v6 = 7))) else (if (if (Tu_pitchOf (a1 - 1) a2 M) ≤ (Tu_pitchOf a1 a2 M) then false else (!decide ((Tu_pitchOf (a1 - 1) a3 M) ≤ (Tu_pitchOf a1 a3 M)))) then (if v6 = 0 then true else (decide (v6 = 7))) else false)) then (Jm_floorMod ((Tu_pitchOf (a1 - 1) a2 M) - (Tu_pitchOf (a1 - 1) a3 M)) 12 M).bind fun v13 =>
  some (decide (v6 = v13)) else some false) else some false)

def Tu_parallelsTo_L19 (a1 : Int32) (M : hyM) (x3 : Int32) : Nat → Int32 → Int32 → Int32 → Option (Int32 × Int32 × Int32)
  | 0, _, _, _ => none
  | f + 1, x5, x6, x7 =>
  (if 4 ≤ x7 then some (x5, x6, x7) else (Tu_goParallel a1 x3 x7 M).bind fun v9 =>
  Tu_parallelsTo_L19 a1 M x3 f (if v9 then (x5 ||| (1 <<< (x6 &&& 31))) else x5) (x6 + 1) (x7 + 1))

def Tu_parallelsTo_L7 (a1 : Int32) (M : hyM) : Nat → Int32 → Int32 → Int32 → Option (Int32 × Int32 × Int32)
  | 0, _, _, _ => none
  | f + 1, x1, x2, x3 =>
  (if 4 ≤ x3 then some (x1, x2, x3) else (Tu_parallelsTo_L19 a1 M x3 hyFu x1 x2 (x3 + 1)).bind fun (y5, y6, y7) =>
  Tu_parallelsTo_L7 a1 M f y5 y6 (x3 + 1))

def Tu_parallelsTo (a1 : Int32) (M : hyM) : Option Int32 :=
  (Tu_parallelsTo_L7 a1 M hyFu 0 0 0).bind fun (y1, y2, y3) =>
  some y1

def Tu_notesWithParallels_L4 (M : hyM) : Nat → Int32 → Int32 → Option (Int32 × Int32)
  | 0, _, _ => none
  | f + 1, x1, x2 =>
  (if (M.1 1 4) ≤ x2 then some (x1, x2) else (Tu_parallelsTo x2 M).bind fun v4 =>
  Tu_notesWithParallels_L4 M f (x1 + (Hp_flag (!decide (v4 = 0)) M)) (x2 + 1))

def Tu_notesWithParallels (M : hyM) : Option Int32 :=
  (Tu_notesWithParallels_L4 M hyFu 0 0).bind fun (y1, y2) =>
  some y1

def Ve_push (a1 : Int32) (a2 : Int32) (a3 : Int32) (a4 : Bool) (M : hyM) : hyM :=
  (putf (putf M 11 2880 ((a1 * 30) + (atf 96 (M.1 10) a1)) ((a2 + (a3 <<< (7 &&& 31))) + ((Hp_flag a4 M) <<< (11 &&& 31)))) 10 96 a1 ((atf 96 (M.1 10) a1) + 1))

def Ve_take_L27 (a1 : Int32) (a2 : Int32) (M : hyM) : Nat → Int32 → Int32 → Int32 → hyM → Option (Int32 × Int32 × Int32 × hyM)
  | 0, _, _, _, _ => none
  | f + 1, x2, x3, x4, M5 =>
  (if (M5.1 28 1) ≤ x4 then some (x2, x3, x4, M5) else (if (In_isOfSyllable (In_codeAt x4 M5) M5) then Ve_take_L27 a1 a2 M f (if x3 = 0 then (In_codeAt x4 M5) else x2) (x3 + 1) (x4 + 1) M5 else (some (Ve_push (Ve_rowOf a1 a2 M) x2 x3 (decide ((In_codeAt x4 M5) = 45)) M5)).bind fun M11 =>
  Ve_take_L27 a1 a2 M f x2 0 (x4 + 1) M11))

def Ve_take (a1 : Int32) (a2 : Int32) (M : hyM) : Option hyM :=
  (some (putf M 10 96 (Ve_rowOf a1 a2 M) 0)).bind fun M1 =>
  (Ve_take_L27 a1 a2 M hyFu 0 0 0 M1).bind fun (y2, y3, y4, NM5) =>
  (some (Ve_push (Ve_rowOf a1 a2 M) y2 y3 false NM5)).bind fun M14 =>
  some M14

def Ve_removeLines_L4 (a1 : Int32) : Nat → Int32 → Int32 → hyM → Option (Int32 × Int32 × hyM)
  | 0, _, _, _ => none
  | f + 1, x1, x2, M3 =>
  (if 24 ≤ x2 then some (x1, x2, M3) else (some (putf M3 10 96 (Ve_rowOf a1 x2 M3) 0)).bind fun M6 =>
  Ve_removeLines_L4 a1 f (x1 + (Hp_flag (!decide ((Ve_syllablesOf a1 x2 M3) ≤ 0)) M3)) (x2 + 1) M6)

def Ve_removeLines (a1 : Int32) (M : hyM) : Option (Int32 × hyM) :=
  (Ve_removeLines_L4 a1 hyFu 0 0 M).bind fun (y1, y2, NM3) =>
  some (y1, NM3)

def Ve_isLinked (a1 : Int32) (a2 : Int32) (a3 : Int32) (M : hyM) : Bool :=
  (!decide (((Ve_packedAt a1 a2 a3 M) >>> (11 &&& 31)) = 0))

def Ve_wordsOf_L5 (a1 : Int32) (a2 : Int32) (M : hyM) : Nat → Int32 → Int32 → Option (Int32 × Int32)
  | 0, _, _ => none
  | f + 1, x1, x2 =>
  (if (Ve_syllablesOf a1 a2 M) ≤ x2 then some (x1, x2) else Ve_wordsOf_L5 a1 a2 M f (x1 + (Hp_flag (!(Ve_isLinked a1 a2 x2 M)) M)) (x2 + 1))

def Ve_wordsOf (a1 : Int32) (a2 : Int32) (M : hyM) : Option Int32 :=
  (Ve_wordsOf_L5 a1 a2 M hyFu 0 0).bind fun (y1, y2) =>
  some y1

def Ve_longestOf_L5 (a1 : Int32) (a2 : Int32) (M : hyM) : Nat → Int32 → Int32 → Option (Int32 × Int32)
  | 0, _, _ => none
  | f + 1, x1, x2 =>
  (if (Ve_syllablesOf a1 a2 M) ≤ x2 then some (x1, x2) else Ve_longestOf_L5 a1 a2 M f (jmax x1 (Ve_lengthAt a1 a2 x2 M)) (x2 + 1))

def Ve_longestOf (a1 : Int32) (a2 : Int32) (M : hyM) : Option Int32 :=
  (Ve_longestOf_L5 a1 a2 M hyFu 0 0).bind fun (y1, y2) =>
  some y1

def Ve_signAt (a1 : Int32) (a2 : Int32) (a3 : Int32) (M : hyM) : Int32 :=
  ((Ve_packedAt a1 a2 a3 M) &&& 127)

def Hp_checkRange (a1 : Int32) (a2 : Int32) (a3 : Int32) (M : hyM) : (Nat ⊕ Unit) :=
  (if (if a1 < a2 then true else (!decide (a1 ≤ a3))) then (.inl 1) else (.inr ()))

def Hp_layOut (M : hyM) : Option hyM :=
  (Ph_find M).bind fun M1 =>
  (Re_keepWithin (M1.1 12 5) M1).bind fun M2 =>
  (Or_find (M2.1 12 5) M2).bind fun M3 =>
  (Co_findWidths M3).bind fun M4 =>
  (Co_findSystems (M4.1 0 9) M4).bind fun M5 =>
  some M5

def Hp_begin_L42  : Nat → Int32 → hyM → Option (Int32 × hyM)
  | 0, _, _ => none
  | f + 1, x7, M8 =>
  (if 4 ≤ x7 then some (x7, M8) else (Ve_removeLines x7 M8).bind fun (v11, M10) =>
  Hp_begin_L42 f (x7 + 1) M10)

def Hp_begin (a1 : Int32) (M : hyM) : Option ((Nat ⊕ Int32) × hyM) :=
  (match Hp_checkRange a1 0 11 M with
  | .inl k2 => some ((.inl k2), M)
  | .inr r3 => (some (Tu_restart a1 M)).bind fun M4 =>
  (some (Ba_change 4 0 M4)).bind fun M5 =>
  (some (wI M5 5 3 0)).bind fun M6 =>
  (Hp_begin_L42  hyFu 0 M6).bind fun (y7, NM8) =>
  (some (wI NM8 0 9 80)).bind fun M13 =>
  (Hp_layOut M13).bind fun M14 =>
  some ((.inr (M.1 1 4)), M14))

def Hp_checkPitch (a1 : Int32) (M : hyM) : (Nat ⊕ Unit) :=
  (match Hp_checkRange a1 36 84 M with
  | .inl k2 => (.inl k2)
  | .inr r3 => (.inr ()))

def Hp_addNote (a1 : Int32) (a2 : Int32) (a3 : Int32) (a4 : Int32) (a5 : Int32) (M : hyM) : Option ((Nat ⊕ Int32) × hyM) :=
  (match Hp_checkRange a1 1 8 M with
  | .inl k2 => some ((.inl k2), M)
  | .inr r3 => (match Hp_checkPitch a2 M with
  | .inl k5 => some ((.inl k5), M)
  | .inr r6 => (match Hp_checkPitch a3 M with
  | .inl k8 => some ((.inl k8), M)
  | .inr r9 => (match Hp_checkPitch a4 M with
  | .inl k11 => some ((.inl k11), M)
  | .inr r12 => (match Hp_checkPitch a5 M with
  | .inl k14 => some ((.inl k14), M)
  | .inr r15 => (if (M.1 1 4) < 40 then (Tu_push a1 a2 a3 a4 a5 M).bind fun M17 =>
  (Hp_layOut M17).bind fun M18 =>
  some ((.inr ((M18.1 1 4) - 1)), M18) else some ((.inl 2), M)))))))

def Hp_dropNote (M : hyM) : Option ((Nat ⊕ Int32) × hyM) :=
  (if 0 < (M.1 1 4) then (some (Tu_pop M)).bind fun M2 =>
  (Hp_layOut M2).bind fun M3 =>
  some ((.inr (M3.1 1 4)), M3) else some ((.inl 2), M))

def Hp_checkIndex (a1 : Int32) (a2 : Int32) (M : hyM) : (Nat ⊕ Unit) :=
  (if (if a1 < 0 then true else (!decide (a1 < a2))) then (.inl 3) else (.inr ()))

def Hp_setPitch (a1 : Int32) (a2 : Int32) (a3 : Int32) (M : hyM) : ((Nat ⊕ Int32) × hyM) :=
  (match Hp_checkIndex a1 (M.1 1 4) M with
  | .inl k2 => ((.inl k2), M)
  | .inr r3 => (match Hp_checkIndex a2 4 M with
  | .inl k5 => ((.inl k5), M)
  | .inr r6 => (match Hp_checkPitch a3 M with
  | .inl k8 => ((.inl k8), M)
  | .inr r9 => ((.inr (Tu_pitchOf a1 a2 M)), (Tu_changePitch a1 a2 a3 M)))))

def Hp_mark (a1 : Int32) (a2 : Bool) (a3 : Bool) (M : hyM) : Option ((Nat ⊕ Int32) × hyM) :=
  (match Hp_checkIndex a1 (M.1 1 4) M with
  | .inl k2 => some ((.inl k2), M)
  | .inr r3 => (if a2 then (some (wL M 1 3 (Hp_withBit (M.2 1 3) a1 a3 M))).bind fun M7 =>
  (Hp_layOut M7).bind fun M8 =>
  some ((.inr (M8.1 12 5)), M8) else (some (wL M 1 2 (Hp_withBit (M.2 1 2) a1 a3 M))).bind fun M5 =>
  (Hp_layOut M5).bind fun M6 =>
  some ((.inr (M6.1 12 5)), M6)))

def Hp_setBars (a1 : Int32) (a2 : Int32) (M : hyM) : ((Nat ⊕ Int32) × hyM) :=
  (match Hp_checkRange a1 2 24 M with
  | .inl k2 => ((.inl k2), M)
  | .inr r3 => (match Hp_checkRange a2 0 (a1 - 1) M with
  | .inl k5 => ((.inl k5), M)
  | .inr r6 => ((.inr (M.1 4 0)), (Ba_change a1 a2 M))))

def Hp_repeat (a1 : Int32) (a2 : Int32) (a3 : Int32) (M : hyM) : Option ((Nat ⊕ Int32) × hyM) :=
  (match Hp_checkIndex a1 (M.1 12 5) M with
  | .inl k2 => some ((.inl k2), M)
  | .inr r3 => (match Hp_checkIndex a2 (M.1 12 5) M with
  | .inl k5 => some ((.inl k5), M)
  | .inr r6 => (match Hp_checkRange a3 0 (a2 - a1) M with
  | .inl k8 => some ((.inl k8), M)
  | .inr r9 => (if (M.1 5 3) < 3 then (Re_touch a1 a2 M).bind fun v11 =>
  (if v11 then some ((.inl 2), M) else (some (Re_push a1 a2 a3 M)).bind fun M13 =>
  (Hp_layOut M13).bind fun M14 =>
  some ((.inr (M14.1 18 2)), M14)) else some ((.inl 2), M)))))

def Hp_clearRepeats (M : hyM) : Option (Int32 × hyM) :=
  (some (wI M 5 3 0)).bind fun M1 =>
  (Hp_layOut M1).bind fun M2 =>
  some ((M.1 5 3), M2)

def Hp_transpose (a1 : Int32) (M : hyM) : Option ((Nat ⊕ Int32) × hyM) :=
  (match Hp_checkRange a1 (-24) 24 M with
  | .inl k2 => some ((.inl k2), M)
  | .inr r3 => (Tu_canMove a1 M).bind fun v4 =>
  (if v4 then (Tu_move a1 M).bind fun M6 =>
  some ((.inr (M6.1 1 5)), M6) else some ((.inl 2), M)))

def Hp_setWidth (a1 : Int32) (M : hyM) : Option ((Nat ⊕ Int32) × hyM) :=
  (match Hp_checkRange a1 20 200 M with
  | .inl k2 => some ((.inl k2), M)
  | .inr r3 => (some (wI M 0 9 a1)).bind fun M4 =>
  (Hp_layOut M4).bind fun M5 =>
  some ((.inr (M5.1 21 3)), M5))

def Hp_append (a1 : Int32) (M : hyM) : ((Nat ⊕ Int32) × hyM) :=
  (match Hp_checkRange a1 32 126 M with
  | .inl k2 => ((.inl k2), M)
  | .inr r3 => (if (M.1 28 1) < 60 then ((.inr ((In_push a1 M).1 28 1)), (In_push a1 M)) else ((.inl 2), M)))

def Hp_clearInput (M : hyM) : (Int32 × hyM) :=
  ((M.1 28 1), (wI M 28 1 0))

def Hp_firstError (a1 : Bool) (M : hyM) : Option Int32 :=
  (if a1 then (In_errorAsMetre M).bind fun v3 =>
  some v3 else (In_errorAsLine M).bind fun v2 =>
  some v2)

def Hp_setLine (a1 : Int32) (a2 : Int32) (M : hyM) : Option ((Nat ⊕ Int32) × hyM) :=
  (match Hp_checkIndex a1 4 M with
  | .inl k2 => some ((.inl k2), M)
  | .inr r3 => (match Hp_checkIndex a2 24 M with
  | .inl k5 => some ((.inl k5), M)
  | .inr r6 => (In_isLine M).bind fun v7 =>
  (if v7 then (Ve_take a1 a2 M).bind fun M9 =>
  (some (wI M9 28 1 0)).bind fun M10 =>
  (Hp_layOut M10).bind fun M11 =>
  some ((.inr (Ve_syllablesOf a1 a2 M11)), M11) else some ((.inl 1), M))))

def Hp_clearVerse (a1 : Int32) (M : hyM) : Option ((Nat ⊕ Int32) × hyM) :=
  (match Hp_checkIndex a1 4 M with
  | .inl k2 => some ((.inl k2), M)
  | .inr r3 => (Ve_removeLines a1 M).bind fun (v5, M4) =>
  (Hp_layOut M4).bind fun M6 =>
  some ((.inr v5), M6))

def Hp_addMetre (M : hyM) : Option ((Nat ⊕ Int32) × hyM) :=
  (In_isMetre M).bind fun v1 =>
  (if v1 then (if (M.1 25 2) < 8 then (Bo_take M).bind fun M4 =>
  (some (wI M4 28 1 0)).bind fun M5 =>
  some ((.inr ((M5.1 25 2) - 1)), M5) else some ((.inl 2), M)) else some ((.inl 1), M))

def Hp_dropMetre (a1 : Int32) (M : hyM) : Option ((Nat ⊕ Int32) × hyM) :=
  (match Hp_checkIndex a1 (M.1 25 2) M with
  | .inl k2 => some ((.inl k2), M)
  | .inr r3 => (Bo_remove a1 M).bind fun M4 =>
  some ((.inr (M4.1 25 2)), M4))

def Hp_noteProperty (a1 : Int32) (a2 : Int32) (M : hyM) : Option Int32 :=
  (Tu_startOf a1 M).bind fun v1 =>
  (if a2 = 0 then some (Tu_lengthOf a1 M) else (if a2 = 1 then some (Hp_flag (decide ((Ph_syllableOf a1 M) = (-1))) M) else (if a2 = 2 then some (Ph_phraseOf a1 M) else (if a2 = 3 then some (a1 - (Ph_firstOf (Ph_phraseOf a1 M) M)) else (if a2 = 4 then (Ba_numberAt v1 M).bind fun v13 =>
  some v13 else (if a2 = 5 then (Ba_unitsBefore v1 M).bind fun v14 =>
  some v14 else (if a2 = 6 then (Ba_unitsFrom v1 M).bind fun v15 =>
  some (Hp_flag (!decide ((Tu_lengthOf a1 M) ≤ v15)) M) else (if a2 = 7 then some (Co_widthOf a1 M) else (Tu_parallelsTo a1 M).bind fun v10 =>
  some v10))))))))

def Hp_note (a1 : Int32) (a2 : Int32) (M : hyM) : Option (Nat ⊕ Int32) :=
  (match Hp_checkIndex a1 (M.1 1 4) M with
  | .inl k2 => some (.inl k2)
  | .inr r3 => (match Hp_checkRange a2 0 8 M with
  | .inl k5 => some (.inl k5)
  | .inr r6 => (Hp_noteProperty a1 a2 M).bind fun v7 =>
  some (.inr v7)))

def Hp_partProperty (a1 : Int32) (a2 : Int32) (a3 : Int32) (M : hyM) : Option Int32 :=
  (Ke_isRaised (M.1 1 5) (Tu_pitchOf a1 a2 M) M).bind fun v1 =>
  (if a3 = 0 then some (Tu_pitchOf a1 a2 M) else (if a3 = 1 then (Ke_degreeOf (M.1 1 5) (Tu_pitchOf a1 a2 M) M).bind fun v8 =>
  some v8 else (if a3 = 2 then (Ke_stepOf (M.1 1 5) (Tu_pitchOf a1 a2 M) M).bind fun v9 =>
  some v9 else (if a3 = 3 then some (Hp_flag v1 M) else (if a3 = 4 then (if v1 then some (-1) else (Ke_shapeOf (M.1 1 5) (Tu_pitchOf a1 a2 M) M).bind fun v11 =>
  some v11) else (Ke_stepOf (M.1 1 5) (Tu_pitchOf a1 a2 M) M).bind fun v7 =>
  some (Ke_ledgerLines v7 (a2 / 2) M))))))

def Hp_part (a1 : Int32) (a2 : Int32) (a3 : Int32) (M : hyM) : Option (Nat ⊕ Int32) :=
  (match Hp_checkIndex a1 (M.1 1 4) M with
  | .inl k2 => some (.inl k2)
  | .inr r3 => (match Hp_checkIndex a2 4 M with
  | .inl k5 => some (.inl k5)
  | .inr r6 => (match Hp_checkRange a3 0 5 M with
  | .inl k8 => some (.inl k8)
  | .inr r9 => (Hp_partProperty a1 a2 a3 M).bind fun v10 =>
  some (.inr v10))))

def Hp_headsOf (a1 : Int32) (a2 : Int32) (M : hyM) : Option Int32 :=
  (Ke_stepOf (M.1 1 5) (Tu_pitchOf a1 (2 * a2) M) M).bind fun v1 =>
  (Ke_stepOf (M.1 1 5) (Tu_pitchOf a1 ((2 * a2) + 1) M) M).bind fun v2 =>
  some (((Hp_flag (decide ((Tu_pitchOf a1 (2 * a2) M) = (Tu_pitchOf a1 ((2 * a2) + 1) M))) M) + (2 * (Hp_flag (if (decide ((Tu_pitchOf a1 (2 * a2) M) = (Tu_pitchOf a1 ((2 * a2) + 1) M))) then false else (!decide (1 < (jabs (v1 - v2))))) M))) + (4 * (Hp_flag (!decide ((Tu_pitchOf a1 ((2 * a2) + 1) M) ≤ (Tu_pitchOf a1 (2 * a2) M))) M)))

def Hp_heads (a1 : Int32) (a2 : Int32) (M : hyM) : Option (Nat ⊕ Int32) :=
  (match Hp_checkIndex a1 (M.1 1 4) M with
  | .inl k2 => some (.inl k2)
  | .inr r3 => (match Hp_checkIndex a2 2 M with
  | .inl k5 => some (.inl k5)
  | .inr r6 => (Hp_headsOf a1 a2 M).bind fun v7 =>
  some (.inr v7)))

def Hp_phraseProperty (a1 : Int32) (a2 : Int32) (M : hyM) : Int32 :=
  (if a2 = 0 then (Ph_firstOf a1 M) else (if a2 = 1 then (Ph_lastOf a1 M) else (if a2 = 2 then (Ph_syllablesOf a1 M) else (if a2 = 3 then (Co_widthOfPhrase a1 M) else (if a2 = 4 then (Co_systemOf a1 M) else (Or_timesOf a1 M))))))

def Hp_phrase (a1 : Int32) (a2 : Int32) (M : hyM) : (Nat ⊕ Int32) :=
  (match Hp_checkIndex a1 (M.1 12 5) M with
  | .inl k2 => (.inl k2)
  | .inr r3 => (match Hp_checkRange a2 0 5 M with
  | .inl k5 => (.inl k5)
  | .inr r6 => (.inr (Hp_phraseProperty a1 a2 M))))

def Hp_sung (a1 : Int32) (M : hyM) : (Nat ⊕ Int32) :=
  (match Hp_checkIndex a1 (M.1 18 2) M with
  | .inl k2 => (.inl k2)
  | .inr r3 => (.inr (Or_phraseAt a1 M)))

def Hp_syllablesSung (a1 : Int32) (M : hyM) : Int32 :=
  (Ph_syllablesOf (Or_phraseAt a1 M) M)

def Hp_firstMisfit_L2 (a1 : Int32) (M : hyM) : Nat → Int32 → Option (Int32 ⊕ (Int32))
  | 0, _ => none
  | f + 1, x1 =>
  (if 24 ≤ x1 then some (.inr (x1)) else (if (Ve_syllablesOf a1 x1 M) = (if (M.1 18 2) ≤ x1 then 0 else (Hp_syllablesSung x1 M)) then Hp_firstMisfit_L2 a1 M f (x1 + 1) else some (.inl x1)))

def Hp_firstMisfit (a1 : Int32) (M : hyM) : Option Int32 :=
  (Hp_firstMisfit_L2 a1 M hyFu 0).bind fun z => match z with
  | .inl r9 => some r9
  | .inr (y1) =>
  some (if (M.1 18 2) ≤ 24 then (-1) else 24)

def Hp_fit (a1 : Int32) (M : hyM) : Option (Nat ⊕ Int32) :=
  (match Hp_checkIndex a1 4 M with
  | .inl k2 => some (.inl k2)
  | .inr r3 => (Hp_firstMisfit a1 M).bind fun v4 =>
  some (.inr v4))

def Hp_lineProperty (a1 : Int32) (a2 : Int32) (a3 : Int32) (M : hyM) : Option Int32 :=
  (if a3 = 0 then some (Ve_syllablesOf a1 a2 M) else (if a3 = 1 then (Ve_wordsOf a1 a2 M).bind fun v4 =>
  some v4 else (Ve_longestOf a1 a2 M).bind fun v3 =>
  some v3))

def Hp_line (a1 : Int32) (a2 : Int32) (a3 : Int32) (M : hyM) : Option (Nat ⊕ Int32) :=
  (match Hp_checkIndex a1 4 M with
  | .inl k2 => some (.inl k2)
  | .inr r3 => (match Hp_checkIndex a2 24 M with
  | .inl k5 => some (.inl k5)
  | .inr r6 => (match Hp_checkRange a3 0 2 M with
  | .inl k8 => some (.inl k8)
  | .inr r9 => (Hp_lineProperty a1 a2 a3 M).bind fun v10 =>
  some (.inr v10))))

def Hp_belowProperty (a1 : Int32) (a2 : Int32) (a3 : Int32) (a4 : Int32) (M : hyM) : Int32 :=
  (if (Ve_hasSyllable a1 a2 (Ph_syllableOf ((Ph_firstOf (Or_phraseAt a2 M) M) + a3) M) M) then (if a4 = 0 then (Ph_syllableOf ((Ph_firstOf (Or_phraseAt a2 M) M) + a3) M) else (if a4 = 1 then (Ve_lengthAt a1 a2 (Ph_syllableOf ((Ph_firstOf (Or_phraseAt a2 M) M) + a3) M) M) else (if a4 = 2 then (Ve_signAt a1 a2 (Ph_syllableOf ((Ph_firstOf (Or_phraseAt a2 M) M) + a3) M) M) else (Hp_flag (Ve_isLinked a1 a2 (Ph_syllableOf ((Ph_firstOf (Or_phraseAt a2 M) M) + a3) M) M) M)))) else (-1))

def Hp_below (a1 : Int32) (a2 : Int32) (a3 : Int32) (a4 : Int32) (M : hyM) : (Nat ⊕ Int32) :=
  (match Hp_checkIndex a1 4 M with
  | .inl k2 => (.inl k2)
  | .inr r3 => (match Hp_checkIndex a2 (M.1 18 2) M with
  | .inl k5 => (.inl k5)
  | .inr r6 => (match Hp_checkIndex a3 (Ph_notesOf (Or_phraseAt a2 M) M) M with
  | .inl k8 => (.inl k8)
  | .inr r9 => (match Hp_checkRange a4 0 3 M with
  | .inl k11 => (.inl k11)
  | .inr r12 => (.inr (Hp_belowProperty a1 a2 a3 a4 M))))))

def Hp_distanceOf_L24 (a1 : Int32) (M : hyM) : Nat → Int32 → Int32 → Option (Int32 × Int32)
  | 0, _, _ => none
  | f + 1, x2, x3 =>
  (if (M.1 18 2) ≤ x3 then some (x2, x3) else Hp_distanceOf_L24 a1 M f (x2 + (jabs ((Bo_numberAt a1 x3 M) - (Hp_syllablesSung x3 M)))) (x3 + 1))

def Hp_distanceOf (a1 : Int32) (M : hyM) : Option Int32 :=
  (if (Bo_sizeOf a1 M) = (M.1 18 2) then (Hp_distanceOf_L24 a1 M hyFu 0 0).bind fun (y2, y3) =>
  some y2 else some (-1))

def Hp_distance (a1 : Int32) (M : hyM) : Option (Nat ⊕ Int32) :=
  (match Hp_checkIndex a1 (M.1 25 2) M with
  | .inl k2 => some (.inl k2)
  | .inr r3 => (Hp_distanceOf a1 M).bind fun v4 =>
  some (.inr v4))

def Hp_nearest_L6 (M : hyM) : Nat → Int32 → Int32 → Int32 → Option (Int32 × Int32 × Int32)
  | 0, _, _, _ => none
  | f + 1, x1, x2, x3 =>
  (if (M.1 25 2) ≤ x3 then some (x1, x2, x3) else (Hp_distanceOf x3 M).bind fun v5 =>
  Hp_nearest_L6 M f (if v5 = (-1) then x1 else (if x1 = (-1) then x3 else (if x2 ≤ v5 then x1 else x3))) (if v5 = (-1) then x2 else (if x1 = (-1) then v5 else (if x2 ≤ v5 then x2 else v5))) (x3 + 1))

def Hp_nearest (M : hyM) : Option Int32 :=
  (Hp_nearest_L6 M hyFu (-1) (-1) 0).bind fun (y1, y2, y3) =>
  some y1

def Hp_metre (a1 : Int32) (a2 : Int32) (M : hyM) : (Nat ⊕ Int32) :=
  (match Hp_checkIndex a1 (M.1 25 2) M with
  | .inl k2 => (.inl k2)
  | .inr r3 => (if (if a2 < 0 then true else (!decide (a2 < (Bo_sizeOf a1 M)))) then (.inr (-1)) else (.inr (Bo_numberAt a1 a2 M))))

def Hp_countOfTune (a1 : Int32) (M : hyM) : Int32 :=
  (if a1 = 0 then (M.1 1 4) else (if a1 = 1 then (M.1 1 5) else (if a1 = 2 then (M.1 12 5) else (if a1 = 3 then (M.1 18 2) else (if a1 = 4 then (M.1 5 3) else (if a1 = 5 then (M.1 4 0) else (M.1 4 1)))))))

def Hp_fittingVerses_L4 (M : hyM) : Nat → Int32 → Int32 → Option (Int32 × Int32)
  | 0, _, _ => none
  | f + 1, x1, x2 =>
  (if 4 ≤ x2 then some (x1, x2) else (Hp_firstMisfit x2 M).bind fun v4 =>
  Hp_fittingVerses_L4 M f (if v4 = (-1) then (x1 ||| (1 <<< (x2 &&& 31))) else x1) (x2 + 1))

def Hp_fittingVerses (M : hyM) : Option Int32 :=
  (Hp_fittingVerses_L4 M hyFu 0 0).bind fun (y1, y2) =>
  some y1

def Hp_countOfPage (a1 : Int32) (M : hyM) : Option Int32 :=
  (Tu_startOf (M.1 1 4) M).bind fun v1 =>
  (if a1 = 7 then some v1 else (if a1 = 8 then (Ba_divide v1 M).bind fun v9 =>
  some (Hp_flag v9 M) else (if a1 = 9 then some (M.1 0 9) else (if a1 = 10 then some (M.1 21 3) else (if a1 = 11 then some (M.1 25 2) else (if a1 = 12 then (Hp_fittingVerses M).bind fun v10 =>
  some v10 else (Tu_notesWithParallels M).bind fun v8 =>
  some v8))))))

def Hp_count (a1 : Int32) (M : hyM) : Option (Nat ⊕ Int32) :=
  (match Hp_checkRange a1 0 13 M with
  | .inl k2 => some (.inl k2)
  | .inr r3 => (if 7 ≤ a1 then (Hp_countOfPage a1 M).bind fun v5 =>
  some (.inr v5) else some (.inr (Hp_countOfTune a1 M))))

def Hp_meanWidth (M : hyM) : Option UInt64 :=
  (if 0 < (M.1 21 3) then (ckD (FP.ddiv (FP.i2d (M.1 21 4)) (FP.i2d (M.1 21 3)))).bind fun d2 =>
  some d2 else some FP.dconst0)

def Hp_mixed (a1 : Int64) (a2 : Int64) (M : hyM) : Int64 :=
  ((31 * a1) + a2)

def Hp_mixedNote_L6 (a2 : Int32) (M : hyM) : Nat → Int64 → Int32 → Option (Int64 × Int32)
  | 0, _, _ => none
  | f + 1, x1, x2 =>
  (if 9 ≤ x2 then some (x1, x2) else (Hp_noteProperty a2 x2 M).bind fun v4 =>
  Hp_mixedNote_L6 a2 M f (Hp_mixed x1 v4.toInt64 M) (x2 + 1))

def Hp_mixedNote_L46 (a2 : Int32) (M : hyM) (x7 : Int32) : Nat → Int64 → Int32 → Option (Int64 × Int32)
  | 0, _, _ => none
  | f + 1, x9, x10 =>
  (if 6 ≤ x10 then some (x9, x10) else (Hp_partProperty a2 x7 x10 M).bind fun v12 =>
  Hp_mixedNote_L46 a2 M x7 f (Hp_mixed x9 v12.toInt64 M) (x10 + 1))

def Hp_mixedNote_L37 (a2 : Int32) (M : hyM) : Nat → Int64 → Int32 → Option (Int64 × Int32)
  | 0, _, _ => none
  | f + 1, x6, x7 =>
  (if 4 ≤ x7 then some (x6, x7) else (Hp_mixedNote_L46 a2 M x7 hyFu x6 0).bind fun (y9, y10) =>
  Hp_mixedNote_L37 a2 M f y9 (x7 + 1))

def Hp_mixedNote (a1 : Int64) (a2 : Int32) (M : hyM) : Option Int64 :=
  (Hp_mixedNote_L6 a2 M hyFu a1 0).bind fun (y1, y2) =>
  (Hp_mixedNote_L37 a2 M hyFu y1 0).bind fun (y6, y7) =>
  (Hp_headsOf a2 0 M).bind fun v16 =>
  (Hp_headsOf a2 1 M).bind fun v17 =>
  some (Hp_mixed (Hp_mixed y6 v16.toInt64 M) v17.toInt64 M)

def Hp_mixedPhrases_L20 (M : hyM) (x2 : Int32) : Nat → Int64 → Int32 → Option (Int64 × Int32)
  | 0, _, _ => none
  | f + 1, x4, x5 =>
  (if 6 ≤ x5 then some (x4, x5) else Hp_mixedPhrases_L20 M x2 f (Hp_mixed x4 ((Hp_phraseProperty x2 x5 M).toInt64) M) (x5 + 1))

def Hp_mixedPhrases_L5 (M : hyM) : Nat → Int64 → Int32 → Option (Int64 × Int32)
  | 0, _, _ => none
  | f + 1, x1, x2 =>
  (if (M.1 12 5) ≤ x2 then some (x1, x2) else (Hp_mixedPhrases_L20 M x2 hyFu x1 0).bind fun (y4, y5) =>
  Hp_mixedPhrases_L5 M f y4 (x2 + 1))

def Hp_mixedPhrases_L56 (M : hyM) : Nat → Int64 → Int32 → Option (Int64 × Int32)
  | 0, _, _ => none
  | f + 1, x10, x11 =>
  (if (M.1 18 2) ≤ x11 then some (x10, x11) else Hp_mixedPhrases_L56 M f (Hp_mixed x10 ((Or_phraseAt x11 M).toInt64) M) (x11 + 1))

def Hp_mixedPhrases (a1 : Int64) (M : hyM) : Option Int64 :=
  (Hp_mixedPhrases_L5 M hyFu a1 0).bind fun (y1, y2) =>
  (Hp_mixedPhrases_L56 M hyFu y1 0).bind fun (y10, y11) =>
  some y10

def Hp_mixedVerse_L25 (a2 : Int32) (M : hyM) (x3 : Int32) : Nat → Int64 → Int32 → Option (Int64 × Int32)
  | 0, _, _ => none
  | f + 1, x5, x6 =>
  (if 3 ≤ x6 then some (x5, x6) else (Hp_lineProperty a2 x3 x6 M).bind fun v8 =>
  Hp_mixedVerse_L25 a2 M x3 f (Hp_mixed x5 v8.toInt64 M) (x6 + 1))

def Hp_mixedVerse_L15 (a2 : Int32) (M : hyM) : Nat → Int64 → Int32 → Option (Int64 × Int32)
  | 0, _, _ => none
  | f + 1, x2, x3 =>
  (if 24 ≤ x3 then some (x2, x3) else (Hp_mixedVerse_L25 a2 M x3 hyFu x2 0).bind fun (y5, y6) =>
  Hp_mixedVerse_L15 a2 M f y5 (x3 + 1))

def Hp_mixedVerse (a1 : Int64) (a2 : Int32) (M : hyM) : Option Int64 :=
  (Hp_firstMisfit a2 M).bind fun v1 =>
  (Hp_mixedVerse_L15 a2 M hyFu (Hp_mixed a1 v1.toInt64 M) 0).bind fun (y2, y3) =>
  some y2

def Hp_mixedBelow_L47 (a2 : Int32) (M : hyM) (x3 : Int32) : Nat → Int64 → Int32 → Option (Int64 × Int32)
  | 0, _, _ => none
  | f + 1, x5, x6 =>
  (if 4 ≤ x6 then some (x5, x6) else Hp_mixedBelow_L47 a2 M x3 f (Hp_mixed x5 ((Hp_belowProperty a2 0 x3 x6 M).toInt64) M) (x6 + 1))

def Hp_mixedBelow_L37 (a2 : Int32) (M : hyM) : Nat → Int64 → Int32 → Option (Int64 × Int32)
  | 0, _, _ => none
  | f + 1, x2, x3 =>
  (if (if (M.1 18 2) ≤ 0 then 0 else (Ph_notesOf (Or_phraseAt 0 M) M)) ≤ x3 then some (x2, x3) else (Hp_mixedBelow_L47 a2 M x3 hyFu x2 0).bind fun (y5, y6) =>
  Hp_mixedBelow_L37 a2 M f y5 (x3 + 1))

def Hp_mixedBelow (a1 : Int64) (a2 : Int32) (M : hyM) : Option Int64 :=
  (Hp_mixedBelow_L37 a2 M hyFu a1 0).bind fun (y2, y3) =>
  some y2

def Hp_mixedBook_L32 (M : hyM) (x2 : Int32) : Nat → Int64 → Int32 → Option (Int64 × Int32)
  | 0, _, _ => none
  | f + 1, x5, x6 =>
  (if (Bo_sizeOf x2 M) ≤ x6 then some (x5, x6) else Hp_mixedBook_L32 M x2 f (Hp_mixed x5 ((Bo_numberAt x2 x6 M).toInt64) M) (x6 + 1))

def Hp_mixedBook_L5 (M : hyM) : Nat → Int64 → Int32 → Option (Int64 × Int32)
  | 0, _, _ => none
  | f + 1, x1, x2 =>
  (if (M.1 25 2) ≤ x2 then some (x1, x2) else (Hp_distanceOf x2 M).bind fun v4 =>
  (Hp_mixedBook_L32 M x2 hyFu (Hp_mixed x1 v4.toInt64 M) 0).bind fun (y5, y6) =>
  Hp_mixedBook_L5 M f y5 (x2 + 1))

def Hp_mixedBook (a1 : Int64) (M : hyM) : Option Int64 :=
  (Hp_mixedBook_L5 M hyFu a1 0).bind fun (y1, y2) =>
  some y1

def Hp_bitsOf_L15  : Nat → UInt64 → Int64 → Option (UInt64 × Int64)
  | 0, _, _ => none
  | f + 1, x2, x3 =>
  (if (Op.cmpValue (FP.dcmp x2 4611686018427387904) .l) < 0 then some (x2, x3) else (if 0 ≤ (lg_cmp x3 2046) then some (x2, x3) else (ckD (FP.ddiv x2 4611686018427387904)).bind fun d6 =>
  Hp_bitsOf_L15 f d6 (x3 + 1)))

def Hp_bitsOf (a1 : UInt64) (M : hyM) : Option Int64 :=
  (if 0 ≤ (Op.cmpValue (FP.dcmp a1 FP.dconst1) .g) then (Hp_bitsOf_L15  hyFu a1 1023).bind fun (y2, y3) =>
  (ckD (FP.dsub y2 FP.dconst1)).bind fun d8 =>
  (ckD (FP.dmul d8 4841369599423283200)).bind fun d9 =>
  some ((jlshl y3 52) + (FP.d2l d9)) else some 0)

def Hp_digest_L6 (M : hyM) : Nat → Int64 → Int32 → Option (Int64 × Int32)
  | 0, _, _ => none
  | f + 1, x1, x2 =>
  (if 14 ≤ x2 then some (x1, x2) else (if 7 ≤ x2 then (Hp_countOfPage x2 M).bind fun v5 =>
  Hp_digest_L6 M f (Hp_mixed x1 v5.toInt64 M) (x2 + 1) else Hp_digest_L6 M f (Hp_mixed x1 ((Hp_countOfTune x2 M).toInt64) M) (x2 + 1)))

def Hp_digest_L46 (M : hyM) : Nat → Int64 → Int32 → Option (Int64 × Int32)
  | 0, _, _ => none
  | f + 1, x7, x8 =>
  (if (M.1 1 4) ≤ x8 then some (x7, x8) else (Hp_mixedNote x7 x8 M).bind fun v10 =>
  Hp_digest_L46 M f v10 (x8 + 1))

def Hp_digest_L78 (M : hyM) : Nat → Int64 → Int32 → Option (Int64 × Int32)
  | 0, _, _ => none
  | f + 1, x13, x14 =>
  (if 4 ≤ x14 then some (x13, x14) else (Hp_mixedVerse x13 x14 M).bind fun v16 =>
  Hp_digest_L78 M f v16 (x14 + 1))

def Hp_digest_L98 (M : hyM) : Nat → Int64 → Int32 → Option (Int64 × Int32)
  | 0, _, _ => none
  | f + 1, x18, x19 =>
  (if 4 ≤ x19 then some (x18, x19) else (Hp_mixedBelow x18 x19 M).bind fun v21 =>
  Hp_digest_L98 M f v21 (x19 + 1))

def Hp_digest_L159 (M : hyM) : Nat → Int64 → Int32 → Option (Int64 × Int32)
  | 0, _, _ => none
  | f + 1, x27, x28 =>
  (if (M.1 28 1) ≤ x28 then some (x27, x28) else Hp_digest_L159 M f (Hp_mixed x27 ((In_codeAt x28 M).toInt64) M) (x28 + 1))

def Hp_digest (M : hyM) : Option Int64 :=
  (Hp_digest_L6 M hyFu 2063 0).bind fun (y1, y2) =>
  (Hp_digest_L46 M hyFu y1 0).bind fun (y7, y8) =>
  (Hp_mixedPhrases y7 M).bind fun v12 =>
  (Hp_digest_L78 M hyFu v12 0).bind fun (y13, y14) =>
  (Hp_digest_L98 M hyFu y13 0).bind fun (y18, y19) =>
  (Hp_mixedBook y18 M).bind fun v23 =>
  (Hp_nearest M).bind fun v24 =>
  (Hp_meanWidth M).bind fun v25 =>
  (Hp_bitsOf v25 M).bind fun v26 =>
  (Hp_digest_L159 M hyFu (Hp_mixed (Hp_mixed (Hp_mixed v23 v24.toInt64 M) v26 M) ((M.1 28 1).toInt64) M) 0).bind fun (y27, y28) =>
  some y27

def Rf_thrown (M : hyM) : Int32 :=
  (M.1 30 0)

def Rf_within (a1 : Int32) (a2 : Int32) (a3 : Int32) (M : hyM) : Bool :=
  (if a1 < a2 then false else (!decide (a3 < a1)))

def Rf_isNote (a1 : Int32) (M : hyM) : Bool :=
  (Rf_within a1 0 ((M.1 30 2) - 1) M)

def Rf_isPitch (a1 : Int32) (M : hyM) : Bool :=
  (Rf_within a1 36 84 M)

def Rf_layPhrases_L9  : Nat → Int32 → Int32 → hyM → Option (Int32 × Int32 × hyM)
  | 0, _, _, _ => none
  | f + 1, x2, x3, M4 =>
  (if (M4.1 30 2) ≤ x3 then some (x2, x3, M4) else (if x2 = 0 then (stE M4 45 40 x3 ((M4.1 30 21) - 1)).bind fun M7 =>
  (stE M7 44 40 ((M7.1 30 21) - 1) x3).bind fun M8 =>
  (ldE 40 (M8.1 34) x3).bind fun v9 =>
  Rf_layPhrases_L9 f v9 (x3 + 1) M8 else (stE M4 43 40 (M4.1 30 21) x3).bind fun M10 =>
  (some (wI M10 30 21 ((M10.1 30 21) + 1))).bind fun M11 =>
  (stE M11 45 40 x3 ((M11.1 30 21) - 1)).bind fun M12 =>
  (stE M12 44 40 ((M12.1 30 21) - 1) x3).bind fun M13 =>
  (ldE 40 (M13.1 34) x3).bind fun v14 =>
  Rf_layPhrases_L9 f v14 (x3 + 1) M13))

def Rf_layPhrases (M : hyM) : Option hyM :=
  (some (wI M 30 21 0)).bind fun M1 =>
  (Rf_layPhrases_L9  hyFu 1 0 M1).bind fun (y2, y3, NM4) =>
  some NM4

def Rf_sing_L2 (a2 : Int32) : Nat → Int32 → hyM → Option (Int32 × hyM)
  | 0, _, _ => none
  | f + 1, x1, M2 =>
  (if a2 < x1 then some (x1, M2) else (stE M2 46 80 (M2.1 30 25) x1).bind fun M4 =>
  (some (wI M4 30 25 ((M4.1 30 25) + 1))).bind fun M5 =>
  Rf_sing_L2 a2 f (x1 + 1) M5)

def Rf_sing (a1 : Int32) (a2 : Int32) (M : hyM) : Option hyM :=
  (Rf_sing_L2 a2 hyFu a1 M).bind fun (y1, NM2) =>
  some NM2

def Rf_laySung_L23 (x3 : Int32) (M4 : hyM) : Nat → Int32 → Int32 → Option (Int32 × Int32)
  | 0, _, _ => none
  | f + 1, x6, x7 =>
  (if (M4.1 30 7) ≤ x7 then some (x6, x7) else (ldE 3 (M4.1 35) x7).bind fun v9 =>
  Rf_laySung_L23 x3 M4 f (if v9 = x3 then x7 else x6) (x7 + 1))

def Rf_laySung_L11  : Nat → Int32 → hyM → Option (Int32 × hyM)
  | 0, _, _ => none
  | f + 1, x3, M4 =>
  (if (M4.1 30 21) ≤ x3 then some (x3, M4) else (Rf_laySung_L23 x3 M4 hyFu (-1) 0).bind fun (y6, y7) =>
  (if y6 = (-1) then (Rf_sing x3 x3 M4).bind fun M19 =>
  (if y6 = (-1) then Rf_laySung_L11 f (x3 + 1) M19 else (ldE 3 (M19.1 37) y6).bind fun v21 =>
  (Rf_sing x3 (x3 - v21) M19).bind fun M22 =>
  Rf_laySung_L11 f (x3 + 1) M22) else (ldE 3 (M4.1 36) y6).bind fun v14 =>
  (Rf_sing x3 v14 M4).bind fun M15 =>
  (if y6 = (-1) then Rf_laySung_L11 f (v14 + 1) M15 else (ldE 3 (M15.1 37) y6).bind fun v17 =>
  (Rf_sing x3 (v14 - v17) M15).bind fun M18 =>
  Rf_laySung_L11 f (v14 + 1) M18)))

def Rf_laySung (M : hyM) : Option hyM :=
  (Rf_layPhrases M).bind fun M1 =>
  (some (wI M1 30 25 0)).bind fun M2 =>
  (Rf_laySung_L11  hyFu 0 M2).bind fun (y3, NM4) =>
  some NM4

def Rf_dropRepeats_L8  : Nat → Int32 → Int32 → hyM → Option (Int32 × Int32 × hyM)
  | 0, _, _, _ => none
  | f + 1, x2, x3, M4 =>
  (if (M4.1 30 7) ≤ x3 then some (x2, x3, M4) else (ldE 3 (M4.1 36) x3).bind fun v6 =>
  (if (M4.1 30 21) ≤ v6 then Rf_dropRepeats_L8 f x2 (x3 + 1) M4 else (ldE 3 (M4.1 35) x3).bind fun v8 =>
  (stE M4 35 3 x2 v8).bind fun M9 =>
  (ldE 3 (M9.1 36) x3).bind fun v10 =>
  (stE M9 36 3 x2 v10).bind fun M11 =>
  (ldE 3 (M11.1 37) x3).bind fun v12 =>
  (stE M11 37 3 x2 v12).bind fun M13 =>
  Rf_dropRepeats_L8 f (x2 + 1) (x3 + 1) M13))

def Rf_dropRepeats (M : hyM) : Option hyM :=
  (Rf_layPhrases M).bind fun M1 =>
  (Rf_dropRepeats_L8  hyFu 0 0 M1).bind fun (y2, y3, NM4) =>
  (some (wI NM4 30 7 y2)).bind fun M15 =>
  some M15

def Rf_isSlurred (a1 : Int32) (M : hyM) : Option Bool :=
  (ldE 40 (M.1 33) a1).bind fun v1 =>
  (if v1 = 0 then some false else (ldE 40 (M.1 45) a1).bind fun v3 =>
  (ldE 40 (M.1 43) v3).bind fun v4 =>
  some (!decide (v4 = a1)))

def Rf_syllablesOf_L9 (a1 : Int32) (M : hyM) : Nat → Int32 → Int32 → Option (Int32 × Int32)
  | 0, _, _ => none
  | f + 1, x2, x3 =>
  (ldE 40 (M.1 44) a1).bind fun v4 =>
  (if v4 < x3 then some (x2, x3) else (Rf_isSlurred x3 M).bind fun v6 =>
  Rf_syllablesOf_L9 a1 M f (x2 + (bI (!v6))) (x3 + 1))

def Rf_syllablesOf (a1 : Int32) (M : hyM) : Option Int32 :=
  (ldE 40 (M.1 43) a1).bind fun v1 =>
  (Rf_syllablesOf_L9 a1 M hyFu 0 v1).bind fun (y2, y3) =>
  some y2

def Rf_syllableOf_L14 (a1 : Int32) (M : hyM) : Nat → Int32 → Int32 → Option (Int32 × Int32)
  | 0, _, _ => none
  | f + 1, x3, x4 =>
  (if a1 ≤ x4 then some (x3, x4) else (Rf_isSlurred x4 M).bind fun v6 =>
  Rf_syllableOf_L14 a1 M f (x3 + (bI (!v6))) (x4 + 1))

def Rf_syllableOf (a1 : Int32) (M : hyM) : Option Int32 :=
  (ldE 40 (M.1 45) a1).bind fun v1 =>
  (ldE 40 (M.1 43) v1).bind fun v2 =>
  (Rf_syllableOf_L14 a1 M hyFu 0 v2).bind fun (y3, y4) =>
  some y3

def Rf_sign (a1 : Int32) (a2 : Int32) (M : hyM) : Option Int32 :=
  (ldE 5760 (M.1 39) ((60 * a1) + a2)).bind fun v1 =>
  some v1

def Rf_isLetter (a1 : Int32) (M : hyM) : Bool :=
  (if (Rf_within a1 97 122 M) then true else (if (Rf_within a1 65 90 M) then true else (decide (a1 = 39))))

def Rf_counts_L18 (a1 : Int32) (a2 : Int32) (M : hyM) : Nat → Int32 → Int32 → Option (Int32 × Int32)
  | 0, _, _ => none
  | f + 1, x3, x4 =>
  (ldE 96 (M.1 38) a1).bind fun v5 =>
  (if v5 ≤ x4 then some (x3, x4) else (Rf_sign a1 x4 M).bind fun v7 =>
  Rf_counts_L18 a1 a2 M f (x3 + (bI (if v7 = 32 then true else (if v7 = 45 then (decide (a2 = 0)) else false)))) (x4 + 1))

def Rf_counts (a1 : Int32) (a2 : Int32) (M : hyM) : Option Int32 :=
  (ldE 96 (M.1 38) a1).bind fun v1 =>
  (Rf_counts_L18 a1 a2 M hyFu (bI (!decide (v1 ≤ 0))) 0).bind fun (y3, y4) =>
  some y3

def Rf_beginOf_L5 (a1 : Int32) (M : hyM) : Nat → Int32 → Int32 → Option (Int32 × Int32)
  | 0, _, _ => none
  | f + 1, x1, x2 =>
  (if x2 ≤ 0 then some (x1, x2) else (Rf_sign a1 x1 M).bind fun v4 =>
  Rf_beginOf_L5 a1 M f (x1 + 1) (x2 - (bI (!(Rf_isLetter v4 M)))))

def Rf_beginOf (a1 : Int32) (a2 : Int32) (M : hyM) : Option Int32 :=
  (Rf_beginOf_L5 a1 M hyFu 0 a2).bind fun (y1, y2) =>
  some y1

def Rf_sizeOf_L10 (a1 : Int32) (M : hyM) : Nat → Int32 → Option (Int32)
  | 0, _ => none
  | f + 1, x2 =>
  (ldE 96 (M.1 38) a1).bind fun v3 =>
  (if v3 ≤ x2 then some (x2) else (Rf_sign a1 x2 M).bind fun v5 =>
  (if (Rf_isLetter v5 M) then Rf_sizeOf_L10 a1 M f (x2 + 1) else some (x2)))

def Rf_sizeOf (a1 : Int32) (a2 : Int32) (M : hyM) : Option Int32 :=
  (Rf_beginOf a1 a2 M).bind fun v1 =>
  (Rf_sizeOf_L10 a1 M hyFu v1).bind fun (y2) =>
  some (y2 - v1)

def Rf_longest_L7 (a1 : Int32) (M : hyM) : Nat → Int32 → Int32 → Int32 → Option (Int32 × Int32 × Int32)
  | 0, _, _, _ => none
  | f + 1, x1, x2, x3 =>
  (ldE 96 (M.1 38) a1).bind fun v4 =>
  (if v4 ≤ x3 then some (x1, x2, x3) else (Rf_sign a1 x3 M).bind fun v6 =>
  Rf_longest_L7 a1 M f (if (if (Rf_isLetter v6 M) then (x2 + 1) else 0) ≤ x1 then x1 else (if (Rf_isLetter v6 M) then (x2 + 1) else 0)) (if (Rf_isLetter v6 M) then (x2 + 1) else 0) (x3 + 1))

def Rf_longest (a1 : Int32) (M : hyM) : Option Int32 :=
  (Rf_longest_L7 a1 M hyFu 0 0 0).bind fun (y1, y2, y3) =>
  some y1

def Rf_fitNow_L4 (a1 : Int32) (M : hyM) : Nat → Int32 → Int32 → Option (Int32 × Int32)
  | 0, _, _ => none
  | f + 1, x1, x2 =>
  (if (if 24 ≤ x2 then false else (decide (x1 = (-1)))) then (if (M.1 30 25) ≤ x2 then (ldE 96 (M.1 38) ((24 * a1) + x2)).bind fun v6 =>
  Rf_fitNow_L4 a1 M f (if (decide (v6 = 0)) then (-1) else x2) (x2 + 1) else (ldE 96 (M.1 38) ((24 * a1) + x2)).bind fun v11 =>
  (if v11 ≤ 0 then Rf_fitNow_L4 a1 M f x2 (x2 + 1) else (Rf_counts ((24 * a1) + x2) 0 M).bind fun v15 =>
  (ldE 80 (M.1 46) x2).bind fun v16 =>
  (Rf_syllablesOf v16 M).bind fun v17 =>
  Rf_fitNow_L4 a1 M f (if (decide (v15 = v17)) then (-1) else x2) (x2 + 1))) else some (x1, x2))

def Rf_fitNow (a1 : Int32) (M : hyM) : Option Int32 :=
  (Rf_fitNow_L4 a1 M hyFu (-1) 0).bind fun (y1, y2) =>
  some (if y1 = (-1) then (if (M.1 30 25) ≤ 24 then y1 else 24) else y1)

def Rf_columnOf_L38 (a1 : Int32) (M : hyM) (v1 : Int32) (x3 : Int32) : Nat → Int32 → Int32 → Option (Int32 × Int32)
  | 0, _, _ => none
  | f + 1, x8, x9 =>
  (if 4 ≤ x9 then some (x8, x9) else (ldE 80 (M.1 46) x3).bind fun v11 =>
  (ldE 40 (M.1 45) a1).bind fun v12 =>
  (if v11 = v12 then (Rf_counts ((24 * x9) + x3) 0 M).bind fun v14 =>
  (if v14 ≤ v1 then Rf_columnOf_L38 a1 M v1 x3 f (if 0 ≤ x8 then x8 else 0) (x9 + 1) else (Rf_sizeOf ((24 * x9) + x3) v1 M).bind fun v18 =>
  Rf_columnOf_L38 a1 M v1 x3 f (if v18 ≤ x8 then x8 else v18) (x9 + 1)) else some (x8, x9)))

def Rf_columnOf_L11 (a1 : Int32) (M : hyM) (v1 : Int32) : Nat → Int32 → Int32 → Option (Int32 × Int32)
  | 0, _, _ => none
  | f + 1, x2, x3 =>
  (if (if (M.1 30 25) ≤ x3 then false else (!decide (24 ≤ x3))) then (Rf_isSlurred a1 M).bind fun v6 =>
  (if v6 then some (x2, x3) else (Rf_columnOf_L38 a1 M v1 x3 hyFu x2 0).bind fun (y8, y9) =>
  Rf_columnOf_L11 a1 M v1 f y8 (x3 + 1)) else some (x2, x3))

def Rf_columnOf (a1 : Int32) (M : hyM) : Option Int32 :=
  (Rf_syllableOf a1 M).bind fun v1 =>
  (Rf_columnOf_L11 a1 M v1 hyFu 2 0).bind fun (y2, y3) =>
  some (y2 + 1)

def Rf_lay_L6  : Nat → Int32 → hyM → Option (Int32 × hyM)
  | 0, _, _ => none
  | f + 1, x2, M3 =>
  (if (M3.1 30 2) ≤ x2 then some (x2, M3) else (Rf_columnOf x2 M3).bind fun v5 =>
  (stE M3 47 40 x2 v5).bind fun M6 =>
  Rf_lay_L6 f (x2 + 1) M6)

def Rf_lay_L62 (x10 : Int32) : Nat → Int32 → hyM → Option (Int32 × hyM)
  | 0, _, _ => none
  | f + 1, x15, M16 =>
  (ldE 40 (M16.1 44) x10).bind fun v17 =>
  (if v17 < x15 then some (x15, M16) else (ldE 40 (M16.1 48) x10).bind fun v19 =>
  (ldE 40 (M16.1 47) x15).bind fun v20 =>
  (stE M16 48 40 x10 (v19 + v20)).bind fun M21 =>
  Rf_lay_L62 x10 f (x15 + 1) M21)

def Rf_lay_L40  : Nat → Int32 → Int32 → hyM → Option (Int32 × Int32 × hyM)
  | 0, _, _, _ => none
  | f + 1, x9, x10, M11 =>
  (if (M11.1 30 21) ≤ x10 then some (x9, x10, M11) else (stE M11 48 40 x10 0).bind fun M13 =>
  (ldE 40 (M13.1 43) x10).bind fun v14 =>
  (Rf_lay_L62 x10 hyFu v14 M13).bind fun (y15, NM16) =>
  (if x10 = 0 then (some (wI NM16 30 30 ((NM16.1 30 30) + 1))).bind fun M24 =>
  (ldE 40 (M24.1 48) x10).bind fun v25 =>
  (stE M24 49 40 x10 ((M24.1 30 30) - 1)).bind fun M26 =>
  Rf_lay_L40 f (0 + v25) (x10 + 1) M26 else (ldE 40 (NM16.1 48) x10).bind fun v27 =>
  (if (x9 + v27) ≤ (NM16.1 30 13) then (ldE 40 (NM16.1 48) x10).bind fun v29 =>
  (stE NM16 49 40 x10 ((NM16.1 30 30) - 1)).bind fun M30 =>
  Rf_lay_L40 f (x9 + v29) (x10 + 1) M30 else (some (wI NM16 30 30 ((NM16.1 30 30) + 1))).bind fun M31 =>
  (ldE 40 (M31.1 48) x10).bind fun v32 =>
  (stE M31 49 40 x10 ((M31.1 30 30) - 1)).bind fun M33 =>
  Rf_lay_L40 f (0 + v32) (x10 + 1) M33)))

def Rf_lay (M : hyM) : Option hyM :=
  (Rf_laySung M).bind fun M1 =>
  (Rf_lay_L6  hyFu 0 M1).bind fun (y2, NM3) =>
  (some (wI NM3 30 30 0)).bind fun M8 =>
  (Rf_lay_L40  hyFu 0 0 M8).bind fun (y9, y10, NM11) =>
  some NM11

def Rf_begin_L66  : Nat → Int32 → hyM → Option (Int32 × hyM)
  | 0, _, _ => none
  | f + 1, x10, M11 =>
  (if 96 ≤ x10 then some (x10, M11) else (stE M11 38 96 x10 0).bind fun M13 =>
  Rf_begin_L66 f (x10 + 1) M13)

def Rf_begin (a1 : Int32) (M : hyM) : Option (Int32 × hyM) :=
  (some (wI M 30 0 (bI (!(Rf_within a1 0 11 M))))).bind fun M2 =>
  (if (M2.1 30 0) ≤ 0 then (some (wI M2 30 1 a1)).bind fun M4 =>
  (some (wI M4 30 2 0)).bind fun M5 =>
  (some (wI M5 30 7 0)).bind fun M6 =>
  (some (wI M6 30 11 4)).bind fun M7 =>
  (some (wI M7 30 12 0)).bind fun M8 =>
  (some (wI M8 30 13 80)).bind fun M9 =>
  (Rf_begin_L66  hyFu 0 M9).bind fun (y10, NM11) =>
  some ((M2.1 30 2), NM11) else some (0, M2))

def Rf_addNote (a1 : Int32) (a2 : Int32) (a3 : Int32) (a4 : Int32) (a5 : Int32) (M : hyM) : Option (Int32 × hyM) :=
  (some (wI M 30 0 (if (Rf_within a1 1 8 M) then (if (if (Rf_isPitch a2 M) then (if (Rf_isPitch a3 M) then (if (Rf_isPitch a4 M) then (Rf_isPitch a5 M) else false) else false) else false) then (if (M.1 30 2) = 40 then 2 else 0) else 1) else 1))).bind fun M8 =>
  (if (M8.1 30 0) ≤ 0 then (stE M8 31 40 (M8.1 30 2) a1).bind fun M10 =>
  (stE M10 32 160 (4 * (M10.1 30 2)) a2).bind fun M11 =>
  (stE M11 32 160 ((4 * (M11.1 30 2)) + 1) a3).bind fun M12 =>
  (stE M12 32 160 ((4 * (M12.1 30 2)) + 2) a4).bind fun M13 =>
  (stE M13 32 160 ((4 * (M13.1 30 2)) + 3) a5).bind fun M14 =>
  (stE M14 33 40 (M14.1 30 2) 0).bind fun M15 =>
  (stE M15 34 40 (M15.1 30 2) 0).bind fun M16 =>
  (some (wI M16 30 2 ((M16.1 30 2) + 1))).bind fun M17 =>
  some (((M17.1 30 2) - 1), M17) else some (0, M8))

def Rf_dropNote (M : hyM) : Option (Int32 × hyM) :=
  (some (wI M 30 0 (bI (decide ((M.1 30 2) ≤ 0))))).bind fun M2 =>
  (if (M2.1 30 0) ≤ 0 then (some (wI M2 30 2 ((M2.1 30 2) - 1))).bind fun M4 =>
  (Rf_dropRepeats M4).bind fun M5 =>
  some ((M5.1 30 2), M5) else some (0, M2))

def Rf_isPart (a1 : Int32) (a2 : Int32) (M : hyM) : Bool :=
  (if (Rf_isNote a1 M) then (Rf_within a2 0 3 M) else false)

def Rf_setPitch (a1 : Int32) (a2 : Int32) (a3 : Int32) (M : hyM) : Option (Int32 × hyM) :=
  (some (wI M 30 0 (if (Rf_isPart a1 a2 M) then (if (Rf_isPitch a3 M) then 0 else 2) else 1))).bind fun M3 =>
  (if (M3.1 30 0) ≤ 0 then (ldE 160 (M3.1 32) ((4 * a1) + a2)).bind fun v5 =>
  (stE M3 32 160 ((4 * a1) + a2) a3).bind fun M6 =>
  some (v5, M6) else some (0, M3))

def Rf_mark (a1 : Int32) (a2 : Bool) (a3 : Bool) (M : hyM) : Option (Int32 × hyM) :=
  (some (wI M 30 0 (bI (!(Rf_isNote a1 M))))).bind fun M2 =>
  (if (M2.1 30 0) ≤ 0 then (if a2 then (stE M2 34 40 a1 (bI a3)).bind fun M13 =>
  (if a2 then (ldE 40 (M13.1 33) a1).bind fun v17 =>
  (stE M13 33 40 a1 (vp_nar .boolean v17)).bind fun M18 =>
  (Rf_dropRepeats M18).bind fun M19 =>
  some ((M19.1 30 21), M19) else (stE M13 33 40 a1 (bI a3)).bind fun M15 =>
  (Rf_dropRepeats M15).bind fun M16 =>
  some ((M16.1 30 21), M16)) else (ldE 40 (M2.1 34) a1).bind fun v5 =>
  (stE M2 34 40 a1 (vp_nar .boolean v5)).bind fun M6 =>
  (if a2 then (ldE 40 (M6.1 33) a1).bind fun v10 =>
  (stE M6 33 40 a1 (vp_nar .boolean v10)).bind fun M11 =>
  (Rf_dropRepeats M11).bind fun M12 =>
  some ((M12.1 30 21), M12) else (stE M6 33 40 a1 (bI a3)).bind fun M8 =>
  (Rf_dropRepeats M8).bind fun M9 =>
  some ((M9.1 30 21), M9))) else some (0, M2))

def Rf_setBars (a1 : Int32) (a2 : Int32) (M : hyM) : (Int32 × hyM) :=
  (if ((wI M 30 0 (bI (if (Rf_within a1 2 24 M) then (!(Rf_within a2 0 (a1 - 1) M)) else true))).1 30 0) ≤ 0 then (((wI M 30 0 (bI (if (Rf_within a1 2 24 M) then (!(Rf_within a2 0 (a1 - 1) M)) else true))).1 30 11), (wI (wI (wI M 30 0 (bI (if (Rf_within a1 2 24 M) then (!(Rf_within a2 0 (a1 - 1) M)) else true))) 30 11 a1) 30 12 a2)) else (0, (wI M 30 0 (bI (if (Rf_within a1 2 24 M) then (!(Rf_within a2 0 (a1 - 1) M)) else true)))))

def Rf_isApart_L5 (a1 : Int32) (a2 : Int32) (M : hyM) : Nat → Bool → Int32 → Option (Bool × Int32)
  | 0, _, _ => none
  | f + 1, x1, x2 =>
  (if (M.1 30 7) ≤ x2 then some (x1, x2) else (if x1 then (ldE 3 (M.1 35) x2).bind fun v5 =>
  (if a2 < v5 then Rf_isApart_L5 a1 a2 M f true (x2 + 1) else (ldE 3 (M.1 36) x2).bind fun v7 =>
  Rf_isApart_L5 a1 a2 M f (!decide (a1 ≤ v7)) (x2 + 1)) else Rf_isApart_L5 a1 a2 M f false (x2 + 1)))

def Rf_isApart (a1 : Int32) (a2 : Int32) (M : hyM) : Option Bool :=
  (Rf_isApart_L5 a1 a2 M hyFu true 0).bind fun (y1, y2) =>
  some y1

def Rf_repeat (a1 : Int32) (a2 : Int32) (a3 : Int32) (M : hyM) : Option (Int32 × hyM) :=
  (Rf_layPhrases M).bind fun M1 =>
  (if (if (Rf_within a1 0 ((M1.1 30 21) - 1) M1) then (Rf_within a2 0 ((M1.1 30 21) - 1) M1) else false) then (if (if a2 < a1 then false else (Rf_within a3 0 (a2 - a1) M1)) then (if 3 ≤ (M1.1 30 7) then (some (wI M1 30 0 3)).bind fun M9 =>
  (if (M9.1 30 0) ≤ 0 then (stE M9 35 3 (M9.1 30 7) a1).bind fun M11 =>
  (stE M11 36 3 (M11.1 30 7) a2).bind fun M12 =>
  (stE M12 37 3 (M12.1 30 7) a3).bind fun M13 =>
  (some (wI M13 30 7 ((M13.1 30 7) + 1))).bind fun M14 =>
  (Rf_laySung M14).bind fun M15 =>
  some ((M15.1 30 25), M15) else some (0, M9)) else (Rf_isApart a1 a2 M1).bind fun v16 =>
  (some (wI M1 30 0 (if v16 then 0 else 3))).bind fun M18 =>
  (if (M18.1 30 0) ≤ 0 then (stE M18 35 3 (M18.1 30 7) a1).bind fun M20 =>
  (stE M20 36 3 (M20.1 30 7) a2).bind fun M21 =>
  (stE M21 37 3 (M21.1 30 7) a3).bind fun M22 =>
  (some (wI M22 30 7 ((M22.1 30 7) + 1))).bind fun M23 =>
  (Rf_laySung M23).bind fun M24 =>
  some ((M24.1 30 25), M24) else some (0, M18))) else (some (wI M1 30 0 2)).bind fun M26 =>
  (if (M26.1 30 0) ≤ 0 then (stE M26 35 3 (M26.1 30 7) a1).bind fun M28 =>
  (stE M28 36 3 (M28.1 30 7) a2).bind fun M29 =>
  (stE M29 37 3 (M29.1 30 7) a3).bind fun M30 =>
  (some (wI M30 30 7 ((M30.1 30 7) + 1))).bind fun M31 =>
  (Rf_laySung M31).bind fun M32 =>
  some ((M32.1 30 25), M32) else some (0, M26))) else (some (wI M1 30 0 1)).bind fun M33 =>
  (if (M33.1 30 0) ≤ 0 then (stE M33 35 3 (M33.1 30 7) a1).bind fun M35 =>
  (stE M35 36 3 (M35.1 30 7) a2).bind fun M36 =>
  (stE M36 37 3 (M36.1 30 7) a3).bind fun M37 =>
  (some (wI M37 30 7 ((M37.1 30 7) + 1))).bind fun M38 =>
  (Rf_laySung M38).bind fun M39 =>
  some ((M39.1 30 25), M39) else some (0, M33)))

def Rf_clearRepeats (M : hyM) : (Int32 × hyM) :=
  (((wI M 30 0 0).1 30 7), (wI (wI M 30 0 0) 30 7 0))

def Rf_canTranspose_L4 (a1 : Int32) (M : hyM) : Nat → Bool → Int32 → Option (Bool × Int32)
  | 0, _, _ => none
  | f + 1, x1, x2 =>
  (if (4 * (M.1 30 2)) ≤ x2 then some (x1, x2) else (if x1 then (ldE 160 (M.1 32) x2).bind fun v5 =>
  Rf_canTranspose_L4 a1 M f (Rf_isPitch (v5 + a1) M) (x2 + 1) else Rf_canTranspose_L4 a1 M f false (x2 + 1)))

def Rf_canTranspose (a1 : Int32) (M : hyM) : Option Bool :=
  (Rf_canTranspose_L4 a1 M hyFu true 0).bind fun (y1, y2) =>
  some y1

def Rf_transpose_L43 (a1 : Int32) : Nat → Int32 → hyM → Option (Int32 × hyM)
  | 0, _, _ => none
  | f + 1, x6, M7 =>
  (if (4 * (M7.1 30 2)) ≤ x6 then some (x6, M7) else (ldE 160 (M7.1 32) x6).bind fun v9 =>
  (stE M7 32 160 x6 (v9 + a1)).bind fun M10 =>
  Rf_transpose_L43 a1 f (x6 + 1) M10)

def Rf_transpose_L43b (a1 : Int32) : Nat → Int32 → hyM → Option (Int32 × hyM)
  | 0, _, _ => none
  | f + 1, x17, M18 =>
  (if (4 * (M18.1 30 2)) ≤ x17 then some (x17, M18) else (ldE 160 (M18.1 32) x17).bind fun v20 =>
  (stE M18 32 160 x17 (v20 + a1)).bind fun M21 =>
  Rf_transpose_L43b a1 f (x17 + 1) M21)

def Rf_transpose (a1 : Int32) (M : hyM) : Option (Int32 × hyM) :=
  (if (Rf_within a1 (-24) 24 M) then (Rf_canTranspose a1 M).bind fun v2 =>
  (some (wI M 30 0 (if v2 then 0 else 2))).bind fun M4 =>
  (if (M4.1 30 0) ≤ 0 then (Rf_transpose_L43 a1 hyFu 0 M4).bind fun (y6, NM7) =>
  (some (wI NM7 30 1 ((((NM7.1 30 1) + a1) + 24) - (((NM7.1 30 1) + a1) + 24) / 12 * 12))).bind fun M12 =>
  some ((M12.1 30 1), M12) else some (0, M4)) else (some (wI M 30 0 1)).bind fun M15 =>
  (if (M15.1 30 0) ≤ 0 then (Rf_transpose_L43b a1 hyFu 0 M15).bind fun (y17, NM18) =>
  (some (wI NM18 30 1 ((((NM18.1 30 1) + a1) + 24) - (((NM18.1 30 1) + a1) + 24) / 12 * 12))).bind fun M23 =>
  some ((M23.1 30 1), M23) else some (0, M15)))

def Rf_setWidth (a1 : Int32) (M : hyM) : Option (Int32 × hyM) :=
  (some (wI M 30 0 (bI (!(Rf_within a1 20 200 M))))).bind fun M2 =>
  (if (M2.1 30 0) ≤ 0 then (some (wI M2 30 13 a1)).bind fun M4 =>
  (Rf_lay M4).bind fun M5 =>
  some ((M5.1 30 30), M5) else some (0, M2))

def Rf_append (a1 : Int32) (M : hyM) : Option (Int32 × hyM) :=
  (some (wI M 30 0 (if (Rf_within a1 32 126 M) then (if (M.1 30 19) = 60 then 2 else 0) else 1))).bind fun M3 =>
  (if (M3.1 30 0) ≤ 0 then (stE M3 42 60 (M3.1 30 19) a1).bind fun M5 =>
  (some (wI M5 30 19 ((M5.1 30 19) + 1))).bind fun M6 =>
  some ((M6.1 30 19), M6) else some (0, M3))

def Rf_clearInput (M : hyM) : (Int32 × hyM) :=
  (((wI M 30 0 0).1 30 19), (wI (wI M 30 0 0) 30 19 0))

def Rf_rightLine_L9  : Nat → Int32 → Bool → hyM → Option (Int32 × Bool × hyM)
  | 0, _, _, _ => none
  | f + 1, x2, x3, M4 =>
  (if (if (M4.1 30 19) ≤ x2 then false else x3) then (ldE 60 (M4.1 42) x2).bind fun v7 =>
  (if (Rf_isLetter v7 M4) then (some (wI M4 30 31 (if (!decide (12 ≤ (M4.1 30 31))) then (if (Rf_isLetter v7 M4) then ((M4.1 30 31) + 1) else 0) else (M4.1 30 31)))).bind fun M44 =>
  Rf_rightLine_L9 f (x2 + (bI (!decide (12 ≤ (M4.1 30 31))))) (!decide (12 ≤ (M4.1 30 31))) M44 else (if (M4.1 30 31) ≤ 0 then (some (wI M4 30 31 (M4.1 30 31))).bind fun M17 =>
  Rf_rightLine_L9 f (x2 + 0) false M17 else (ldE 60 (M4.1 42) x2).bind fun v20 =>
  (if v20 = 32 then (some (wI M4 30 31 (if (Rf_isLetter v7 M4) then ((M4.1 30 31) + 1) else 0))).bind fun M25 =>
  Rf_rightLine_L9 f (x2 + 1) true M25 else (ldE 60 (M4.1 42) x2).bind fun v32 =>
  (some (wI M4 30 31 (if (decide (v32 = 45)) then (if (Rf_isLetter v7 M4) then ((M4.1 30 31) + 1) else 0) else (M4.1 30 31)))).bind fun M36 =>
  Rf_rightLine_L9 f (x2 + (bI (decide (v32 = 45)))) (decide (v32 = 45)) M36))) else some (x2, x3, M4))

def Rf_rightLine (M : hyM) : Option (Int32 × hyM) :=
  (some (wI M 30 31 0)).bind fun M1 =>
  (Rf_rightLine_L9  hyFu 0 true M1).bind fun (y2, y3, NM4) =>
  some (y2, NM4)

def Rf_takesDigit (a1 : Int32) (M : hyM) : Option (Bool × hyM) :=
  (if (if (if (Rf_within (a1 - 48) 0 9 M) then (decide ((M.1 30 33) = 0)) else false) then (decide ((M.1 30 31) = 0)) else false) then (some (wI M 30 32 ((M.1 30 32) + (bI (if (a1 - 48) ≤ 0 then false else (!decide (24 ≤ (M.1 30 32)))))))).bind fun M8 =>
  (stE M8 50 48 ((M8.1 30 32) - (bI (if (a1 - 48) ≤ 0 then false else (!decide (24 ≤ (M.1 30 32)))))) (a1 - 48)).bind fun M10 =>
  (some (wI M10 30 31 ((M10.1 30 31) + (bI (if (a1 - 48) ≤ 0 then false else (!decide (24 ≤ (M.1 30 32)))))))).bind fun M12 =>
  some ((if (a1 - 48) ≤ 0 then false else (!decide (24 ≤ (M.1 30 32)))), M12) else (if (if (Rf_within (a1 - 48) 0 9 M) then (decide ((M.1 30 33) = 0)) else false) then (ldE 48 (M.1 50) ((M.1 30 32) - 1)).bind fun v21 =>
  (if (!decide (20 < ((10 * v21) + (a1 - 48)))) then (stE M 50 48 ((M.1 30 32) - 1) ((10 * v21) + (a1 - 48))).bind fun M29 =>
  (some (wI M29 30 31 ((M29.1 30 31) + (bI (!decide (20 < ((10 * v21) + (a1 - 48)))))))).bind fun M31 =>
  some ((!decide (20 < ((10 * v21) + (a1 - 48)))), M31) else (ldE 48 (M.1 50) ((M.1 30 32) - 1)).bind fun v24 =>
  (stE M 50 48 ((M.1 30 32) - 1) v24).bind fun M25 =>
  (some (wI M25 30 31 ((M25.1 30 31) + (bI (!decide (20 < ((10 * v21) + (a1 - 48)))))))).bind fun M27 =>
  some ((!decide (20 < ((10 * v21) + (a1 - 48)))), M27)) else (some (wI M 30 31 ((M.1 30 31) + (bI (if (Rf_within (a1 - 48) 0 9 M) then (decide ((M.1 30 33) = 0)) else false))))).bind fun M19 =>
  some ((if (Rf_within (a1 - 48) 0 9 M) then (decide ((M.1 30 33) = 0)) else false), M19)))

def Rf_takesMetre (a1 : Int32) (M : hyM) : Option (Bool × hyM) :=
  (if (if a1 = 46 then (if (M.1 30 31) ≤ 0 then false else (!decide (24 ≤ (M.1 30 32)))) else false) then (some (wI M 30 31 0)).bind fun M4 =>
  some (true, M4) else (if (if a1 = 68 then (if (M.1 30 31) = 0 then (if (M.1 30 32) ≤ 0 then false else (if (M.1 30 33) = 0 then (!decide (24 < (2 * (M.1 30 32)))) else false)) else false) else false) then (some (wI M 30 33 1)).bind fun M10 =>
  some (true, M10) else (Rf_takesDigit a1 M).bind fun (v12, M11) =>
  some (v12, M11)))

def Rf_rightMetre_L17  : Nat → Int32 → hyM → Option (Int32 × hyM)
  | 0, _, _ => none
  | f + 1, x4, M5 =>
  (if (M5.1 30 19) ≤ x4 then some (x4, M5) else (ldE 60 (M5.1 42) x4).bind fun v7 =>
  (Rf_takesMetre v7 M5).bind fun (v9, M8) =>
  (if v9 then Rf_rightMetre_L17 f (x4 + 1) M8 else some (x4, M8)))

def Rf_rightMetre (M : hyM) : Option (Int32 × hyM) :=
  (some (wI M 30 31 0)).bind fun M1 =>
  (some (wI M1 30 32 0)).bind fun M2 =>
  (some (wI M2 30 33 0)).bind fun M3 =>
  (Rf_rightMetre_L17  hyFu 0 M3).bind fun (y4, NM5) =>
  some (y4, NM5)

def Rf_firstError (a1 : Bool) (M : hyM) : Option (Int32 × hyM) :=
  (some (wI M 30 0 0)).bind fun M1 =>
  (if a1 then (Rf_rightMetre M1).bind fun (v6, M5) =>
  some (v6, M5) else (Rf_rightLine M1).bind fun (v4, M3) =>
  some (v4, M3))

def Rf_isLine (a1 : Int32) (a2 : Int32) (M : hyM) : Bool :=
  (if (Rf_within a1 0 3 M) then (Rf_within a2 0 23 M) else false)

def Rf_setLine_L69 (a1 : Int32) (a2 : Int32) : Nat → Int32 → hyM → Option (Int32 × hyM)
  | 0, _, _ => none
  | f + 1, x9, M10 =>
  (if (M10.1 30 19) ≤ x9 then some (x9, M10) else (ldE 60 (M10.1 42) x9).bind fun v12 =>
  (stE M10 39 5760 ((60 * ((24 * a1) + a2)) + x9) v12).bind fun M13 =>
  Rf_setLine_L69 a1 a2 f (x9 + 1) M13)

def Rf_setLine (a1 : Int32) (a2 : Int32) (M : hyM) : Option (Int32 × hyM) :=
  (Rf_rightLine M).bind fun (v2, M1) =>
  (some (wI M1 30 0 (if (Rf_isLine a1 a2 M1) then (if (if v2 = (M1.1 30 19) then (!decide ((M1.1 30 31) ≤ 0)) else false) then 0 else 2) else 1))).bind fun M7 =>
  (if (M7.1 30 0) ≤ 0 then (Rf_setLine_L69 a1 a2 hyFu 0 M7).bind fun (y9, NM10) =>
  (stE NM10 38 96 ((24 * a1) + a2) (NM10.1 30 19)).bind fun M15 =>
  (some (wI M15 30 19 0)).bind fun M16 =>
  (Rf_counts ((24 * a1) + a2) 0 M16).bind fun v17 =>
  some (v17, M16) else some (0, M7))

def Rf_clearVerse_L34 (a1 : Int32) : Nat → Int32 → Int32 → hyM → Option (Int32 × Int32 × hyM)
  | 0, _, _, _ => none
  | f + 1, x4, x5, M6 =>
  (if (24 * (a1 + 1)) ≤ x5 then some (x4, x5, M6) else (ldE 96 (M6.1 38) x5).bind fun v8 =>
  (stE M6 38 96 x5 0).bind fun M10 =>
  Rf_clearVerse_L34 a1 f (x4 + (bI (!decide (v8 ≤ 0)))) (x5 + 1) M10)

def Rf_clearVerse (a1 : Int32) (M : hyM) : Option (Int32 × hyM) :=
  (some (wI M 30 0 (bI (!(Rf_within a1 0 3 M))))).bind fun M2 =>
  (if (M2.1 30 0) ≤ 0 then (Rf_clearVerse_L34 a1 hyFu 0 (24 * a1) M2).bind fun (y4, y5, NM6) =>
  some (y4, NM6) else some (0, M2))

def Rf_addMetre_L97  : Nat → Int32 → hyM → Option (Int32 × hyM)
  | 0, _, _ => none
  | f + 1, x12, M13 =>
  (ldE 8 (M13.1 40) (M13.1 30 16)).bind fun v14 =>
  (if v14 ≤ x12 then some (x12, M13) else (jrm x12 (M13.1 30 32)).bind fun v16 =>
  (ldE 48 (M13.1 50) v16).bind fun v17 =>
  (stE M13 41 192 ((24 * (M13.1 30 16)) + x12) v17).bind fun M18 =>
  Rf_addMetre_L97 f (x12 + 1) M18)

def Rf_addMetre (M : hyM) : Option (Int32 × hyM) :=
  (Rf_rightMetre M).bind fun (v2, M1) =>
  (some (wI M1 30 0 (if (if v2 = (M1.1 30 19) then (if 0 < (M1.1 30 31) then true else (!decide ((M1.1 30 33) = 0))) else false) then (if (M1.1 30 16) = 8 then 2 else 0) else 1))).bind fun M8 =>
  (if (M8.1 30 0) ≤ 0 then (stE M8 40 8 (M8.1 30 16) (if (M8.1 30 33) = 0 then (M8.1 30 32) else (2 * (M8.1 30 32)))).bind fun M11 =>
  (Rf_addMetre_L97  hyFu 0 M11).bind fun (y12, NM13) =>
  (some (wI NM13 30 16 ((NM13.1 30 16) + 1))).bind fun M20 =>
  (some (wI M20 30 19 0)).bind fun M21 =>
  some (((M21.1 30 16) - 1), M21) else some (0, M8))

def Rf_isMetre (a1 : Int32) (M : hyM) : Bool :=
  (Rf_within a1 0 ((M.1 30 16) - 1) M)

def Rf_dropMetre_L62 (x5 : Int32) : Nat → Int32 → hyM → Option (Int32 × hyM)
  | 0, _, _ => none
  | f + 1, x10, M11 =>
  (if 24 ≤ x10 then some (x10, M11) else (ldE 192 (M11.1 41) ((24 * (x5 + 1)) + x10)).bind fun v13 =>
  (stE M11 41 192 ((24 * x5) + x10) v13).bind fun M14 =>
  Rf_dropMetre_L62 x5 f (x10 + 1) M14)

def Rf_dropMetre_L38  : Nat → Int32 → hyM → Option (Int32 × hyM)
  | 0, _, _ => none
  | f + 1, x5, M6 =>
  (if (M6.1 30 16) ≤ x5 then some (x5, M6) else (ldE 8 (M6.1 40) (x5 + 1)).bind fun v8 =>
  (stE M6 40 8 x5 v8).bind fun M9 =>
  (Rf_dropMetre_L62 x5 hyFu 0 M9).bind fun (y10, NM11) =>
  Rf_dropMetre_L38 f (x5 + 1) NM11)

def Rf_dropMetre (a1 : Int32) (M : hyM) : Option (Int32 × hyM) :=
  (some (wI M 30 0 (bI (!(Rf_isMetre a1 M))))).bind fun M2 =>
  (if (M2.1 30 0) ≤ 0 then (some (wI M2 30 16 ((M2.1 30 16) - 1))).bind fun M4 =>
  (Rf_dropMetre_L38  hyFu a1 M4).bind fun (y5, NM6) =>
  some ((NM6.1 30 16), NM6) else some (0, M2))

def Rf_classOf (a1 : Int32) (M : hyM) : Int32 :=
  (if 3 ≤ a1 then ((2 * a1) - 1) else (2 * a1))

def Rf_ownDegree_L4 (a1 : Int32) (M : hyM) : Nat → Int32 → Int32 → Option (Int32 × Int32)
  | 0, _, _ => none
  | f + 1, x1, x2 =>
  (if 7 ≤ x2 then some (x1, x2) else Rf_ownDegree_L4 a1 M f (if (((M.1 30 1) + (Rf_classOf x2 M)) - ((M.1 30 1) + (Rf_classOf x2 M)) / 12 * 12) = (a1 - a1 / 12 * 12) then x2 else x1) (x2 + 1))

def Rf_ownDegree (a1 : Int32) (M : hyM) : Option Int32 :=
  (Rf_ownDegree_L4 a1 M hyFu (-1) 0).bind fun (y1, y2) =>
  some y1

def Rf_isRaised (a1 : Int32) (M : hyM) : Option Bool :=
  (Rf_ownDegree a1 M).bind fun v1 =>
  some (decide (v1 = (-1)))

def Rf_degree (a1 : Int32) (M : hyM) : Option Int32 :=
  (Rf_isRaised a1 M).bind fun v1 =>
  (Rf_ownDegree (if v1 then (a1 - 1) else a1) M).bind fun v3 =>
  some v3

def Rf_tonicLetter (M : hyM) : Int32 :=
  (if (M.1 30 1) = 0 then 0 else (if (M.1 30 1) = 1 then 1 else (if (M.1 30 1) = 2 then 1 else (if (M.1 30 1) = 3 then 2 else (if (M.1 30 1) = 4 then 2 else (if (M.1 30 1) = 5 then 3 else (if (M.1 30 1) = 6 then 4 else (if (M.1 30 1) = 7 then 4 else (if (M.1 30 1) = 8 then 5 else (if (M.1 30 1) = 9 then 5 else 6))))))))))

def Rf_step_L33 (a1 : Int32) (M : hyM) (v1 : Bool) (v3 : Int32) : Nat → Int32 → Option (Int32)
  | 0, _ => none
  | f + 1, x4 =>
  (if ((if v1 then (a1 - 1) else a1) - 2) ≤ ((Rf_classOf (((Rf_tonicLetter M) + v3) - ((Rf_tonicLetter M) + v3) / 7 * 7) M) + (12 * x4)) then some (x4) else Rf_step_L33 a1 M v1 v3 f (x4 + 1))

def Rf_step (a1 : Int32) (M : hyM) : Option Int32 :=
  (Rf_isRaised a1 M).bind fun v1 =>
  (Rf_degree a1 M).bind fun v3 =>
  (Rf_step_L33 a1 M v1 v3 hyFu 0).bind fun (y4) =>
  some ((7 * y4) + (((Rf_tonicLetter M) + v3) - ((Rf_tonicLetter M) + v3) / 7 * 7))

def Rf_ledgers (a1 : Int32) (a2 : Int32) (M : hyM) : Option Int32 :=
  (Rf_step a2 M).bind fun v2 =>
  some (if v2 ≤ ((if 2 ≤ a1 then 25 else 37) + 8) then (if (if 2 ≤ a1 then 25 else 37) ≤ v2 then 0 else (((if 2 ≤ a1 then 25 else 37) - v2) / 2)) else (((v2 - (if 2 ≤ a1 then 25 else 37)) - 8) / 2))

def Rf_pitch (a1 : Int32) (a2 : Int32) (M : hyM) : Option Int32 :=
  (ldE 160 (M.1 32) ((4 * a1) + a2)).bind fun v1 =>
  some v1

def Rf_headsNow (a1 : Int32) (a2 : Int32) (M : hyM) : Option Int32 :=
  (Rf_pitch a1 (2 * a2) M).bind fun v1 =>
  (Rf_pitch a1 ((2 * a2) + 1) M).bind fun v2 =>
  (Rf_step v1 M).bind fun v3 =>
  (Rf_step v2 M).bind fun v4 =>
  (if v1 = v2 then some 1 else some ((if (Rf_within (v3 - v4) (-1) 1 M) then 2 else 0) + (if v2 ≤ v1 then 0 else 4)))

def Rf_isParallel (a1 : Int32) (a2 : Int32) (a3 : Int32) (M : hyM) : Option Bool :=
  (Rf_pitch a1 a2 M).bind fun v1 =>
  (Rf_pitch (a1 - 1) a2 M).bind fun v2 =>
  (Rf_pitch a1 a3 M).bind fun v3 =>
  (Rf_pitch (a1 - 1) a3 M).bind fun v4 =>
  (Rf_pitch (a1 - 1) a2 M).bind fun v5 =>
  (Rf_pitch (a1 - 1) a3 M).bind fun v6 =>
  (Rf_pitch a1 a2 M).bind fun v7 =>
  (Rf_pitch a1 a3 M).bind fun v8 =>
  some (if (v1 - v2) ≤ 0 then (if 0 ≤ (v1 - v2) then false else (if 0 ≤ (v3 - v4) then false else (if (((v5 - v6) + 60) - ((v5 - v6) + 60) / 12 * 12) = (((v7 - v8) + 60) - ((v7 - v8) + 60) / 12 * 12) then (if (((v7 - v8) + 60) - ((v7 - v8) + 60) / 12 * 12) = 0 then true else (decide ((((v7 - v8) + 60) - ((v7 - v8) + 60) / 12 * 12) = 7))) else false))) else (if 0 < (v3 - v4) then (if (((v5 - v6) + 60) - ((v5 - v6) + 60) / 12 * 12) = (((v7 - v8) + 60) - ((v7 - v8) + 60) / 12 * 12) then (if (((v7 - v8) + 60) - ((v7 - v8) + 60) / 12 * 12) = 0 then true else (decide ((((v7 - v8) + 60) - ((v7 - v8) + 60) / 12 * 12) = 7))) else false) else (if 0 ≤ (v1 - v2) then false else (if 0 ≤ (v3 - v4) then false else (if (((v5 - v6) + 60) - ((v5 - v6) + 60) / 12 * 12) = (((v7 - v8) + 60) - ((v7 - v8) + 60) / 12 * 12) then (if (((v7 - v8) + 60) - ((v7 - v8) + 60) / 12 * 12) = 0 then true else (decide ((((v7 - v8) + 60) - ((v7 - v8) + 60) / 12 * 12) = 7))) else false)))))

def Rf_parallels_L19 (a1 : Int32) (M : hyM) (x3 : Int32) : Nat → Int32 → Int32 → Int32 → Option (Int32 × Int32 × Int32)
  | 0, _, _, _ => none
  | f + 1, x5, x6, x7 =>
  (if 4 ≤ x7 then some (x5, x6, x7) else (if a1 ≤ 0 then Rf_parallels_L19 a1 M x3 f (x5 ||| 0) (x6 + 1) (x7 + 1) else (Rf_isParallel a1 x3 x7 M).bind fun v10 =>
  Rf_parallels_L19 a1 M x3 f (x5 ||| (if v10 then (1 <<< (x6 &&& 31)) else 0)) (x6 + 1) (x7 + 1)))

def Rf_parallels_L7 (a1 : Int32) (M : hyM) : Nat → Int32 → Int32 → Int32 → Option (Int32 × Int32 × Int32)
  | 0, _, _, _ => none
  | f + 1, x1, x2, x3 =>
  (if 4 ≤ x3 then some (x1, x2, x3) else (Rf_parallels_L19 a1 M x3 hyFu x1 x2 (x3 + 1)).bind fun (y5, y6, y7) =>
  Rf_parallels_L7 a1 M f y5 y6 (x3 + 1))

def Rf_parallels (a1 : Int32) (M : hyM) : Option Int32 :=
  (Rf_parallels_L7 a1 M hyFu 0 0 0).bind fun (y1, y2, y3) =>
  some y1

def Rf_place_L4 (a1 : Int32) (M : hyM) : Nat → Int32 → Int32 → Option (Int32 × Int32)
  | 0, _, _ => none
  | f + 1, x1, x2 =>
  (if a1 ≤ x2 then some (x1, x2) else (ldE 40 (M.1 31) x2).bind fun v4 =>
  Rf_place_L4 a1 M f (x1 + v4) (x2 + 1))

def Rf_place (a1 : Int32) (M : hyM) : Option Int32 :=
  (Rf_place_L4 a1 M hyFu 0 0).bind fun (y1, y2) =>
  some y1

def Rf_barOf (a1 : Int32) (M : hyM) : Option Int32 :=
  (Rf_place a1 M).bind fun v1 =>
  (if (M.1 30 12) ≤ v1 then (jdv (v1 - (M.1 30 12)) (M.1 30 11)).bind fun v3 =>
  some (1 + v3) else some 0)

def Rf_inBar (a1 : Int32) (M : hyM) : Option Int32 :=
  (Rf_place a1 M).bind fun v1 =>
  (if (M.1 30 12) ≤ v1 then (jrm (v1 - (M.1 30 12)) (M.1 30 11)).bind fun v3 =>
  some v3 else some v1)

def Rf_goesOver (a1 : Int32) (M : hyM) : Option Bool :=
  (Rf_inBar a1 M).bind fun v1 =>
  (ldE 40 (M.1 31) a1).bind fun v2 =>
  (Rf_barOf a1 M).bind fun v3 =>
  some (!decide ((v1 + v2) ≤ (if v3 = 0 then (M.1 30 12) else (M.1 30 11))))

def Rf_noteNow (a1 : Int32) (a2 : Int32) (M : hyM) : Option Int32 :=
  (if a2 = 0 then (ldE 40 (M.1 31) a1).bind fun v10 =>
  some v10 else (if a2 = 1 then (Rf_isSlurred a1 M).bind fun v11 =>
  some (bI v11) else (if a2 = 2 then (ldE 40 (M.1 45) a1).bind fun v14 =>
  some v14 else (if a2 = 3 then (ldE 40 (M.1 45) a1).bind fun v15 =>
  (ldE 40 (M.1 43) v15).bind fun v16 =>
  some (a1 - v16) else (if a2 = 4 then (Rf_barOf a1 M).bind fun v17 =>
  some v17 else (if a2 = 5 then (Rf_inBar a1 M).bind fun v18 =>
  some v18 else (if a2 = 6 then (Rf_goesOver a1 M).bind fun v19 =>
  some (bI v19) else (if a2 = 7 then (ldE 40 (M.1 47) a1).bind fun v22 =>
  some v22 else (Rf_parallels a1 M).bind fun v9 =>
  some v9))))))))

def Rf_note (a1 : Int32) (a2 : Int32) (M : hyM) : Option (Int32 × hyM) :=
  (some (wI M 30 0 (if (Rf_isNote a1 M) then (if (Rf_within a2 0 8 M) then 0 else 2) else 1))).bind fun M3 =>
  (if (M3.1 30 0) ≤ 0 then (Rf_lay M3).bind fun M5 =>
  (Rf_noteNow a1 a2 M5).bind fun v6 =>
  some (v6, M5) else some (0, M3))

def Rf_shape (a1 : Int32) (M : hyM) : Option Int32 :=
  (Rf_degree a1 M).bind fun v1 =>
  (Rf_isRaised a1 M).bind fun v2 =>
  some (if v2 then (-1) else (if v1 = 6 then 3 else (v1 - v1 / 3 * 3)))

def Rf_partNow (a1 : Int32) (a2 : Int32) (a3 : Int32) (M : hyM) : Option Int32 :=
  (Rf_pitch a1 a2 M).bind fun v1 =>
  (if a3 = 0 then some v1 else (if a3 = 1 then (Rf_degree v1 M).bind fun v8 =>
  some v8 else (if a3 = 2 then (Rf_step v1 M).bind fun v9 =>
  some v9 else (if a3 = 3 then (Rf_isRaised v1 M).bind fun v10 =>
  some (bI v10) else (if a3 = 4 then (Rf_shape v1 M).bind fun v13 =>
  some v13 else (Rf_ledgers a2 v1 M).bind fun v7 =>
  some v7)))))

def Rf_part (a1 : Int32) (a2 : Int32) (a3 : Int32) (M : hyM) : Option (Int32 × hyM) :=
  (some (wI M 30 0 (if (Rf_isPart a1 a2 M) then (if (Rf_within a3 0 5 M) then 0 else 2) else 1))).bind fun M3 =>
  (if (M3.1 30 0) ≤ 0 then (Rf_partNow a1 a2 a3 M3).bind fun v5 =>
  some (v5, M3) else some (0, M3))

def Rf_heads (a1 : Int32) (a2 : Int32) (M : hyM) : Option (Int32 × hyM) :=
  (some (wI M 30 0 (bI (if (Rf_isNote a1 M) then (!(Rf_within a2 0 1 M)) else true)))).bind fun M3 =>
  (if (M3.1 30 0) ≤ 0 then (Rf_headsNow a1 a2 M3).bind fun v5 =>
  some (v5, M3) else some (0, M3))

def Rf_timesSung_L4 (a1 : Int32) (M : hyM) : Nat → Int32 → Int32 → Option (Int32 × Int32)
  | 0, _, _ => none
  | f + 1, x1, x2 =>
  (if (M.1 30 25) ≤ x2 then some (x1, x2) else (ldE 80 (M.1 46) x2).bind fun v4 =>
  Rf_timesSung_L4 a1 M f (x1 + (bI (decide (v4 = a1)))) (x2 + 1))

def Rf_timesSung (a1 : Int32) (M : hyM) : Option Int32 :=
  (Rf_timesSung_L4 a1 M hyFu 0 0).bind fun (y1, y2) =>
  some y1

def Rf_phraseNow (a1 : Int32) (a2 : Int32) (M : hyM) : Option Int32 :=
  (if a2 = 0 then (ldE 40 (M.1 43) a1).bind fun v7 =>
  some v7 else (if a2 = 1 then (ldE 40 (M.1 44) a1).bind fun v8 =>
  some v8 else (if a2 = 2 then (Rf_syllablesOf a1 M).bind fun v9 =>
  some v9 else (if a2 = 3 then (ldE 40 (M.1 48) a1).bind fun v10 =>
  some v10 else (if a2 = 4 then (ldE 40 (M.1 49) a1).bind fun v11 =>
  some v11 else (Rf_timesSung a1 M).bind fun v6 =>
  some v6)))))

def Rf_phrase (a1 : Int32) (a2 : Int32) (M : hyM) : Option (Int32 × hyM) :=
  (Rf_lay M).bind fun M1 =>
  (some (wI M1 30 0 (if (Rf_within a1 0 ((M1.1 30 21) - 1) M1) then (if (Rf_within a2 0 5 M1) then 0 else 2) else 1))).bind fun M4 =>
  (if (M4.1 30 0) ≤ 0 then (Rf_phraseNow a1 a2 M4).bind fun v6 =>
  some (v6, M4) else some (0, M4))

def Rf_sung (a1 : Int32) (M : hyM) : Option (Int32 × hyM) :=
  (Rf_laySung M).bind fun M1 =>
  (some (wI M1 30 0 (bI (!(Rf_within a1 0 ((M1.1 30 25) - 1) M1))))).bind fun M3 =>
  (if (M3.1 30 0) ≤ 0 then (ldE 80 (M3.1 46) a1).bind fun v5 =>
  some (v5, M3) else some (0, M3))

def Rf_fit (a1 : Int32) (M : hyM) : Option (Int32 × hyM) :=
  (some (wI M 30 0 (bI (!(Rf_within a1 0 3 M))))).bind fun M2 =>
  (if (M2.1 30 0) ≤ 0 then (Rf_laySung M2).bind fun M4 =>
  (Rf_fitNow a1 M4).bind fun v5 =>
  some (v5, M4) else some (0, M2))

def Rf_lineNow (a1 : Int32) (a2 : Int32) (M : hyM) : Option Int32 :=
  (if a2 = 2 then (Rf_longest a1 M).bind fun v3 =>
  some v3 else (Rf_counts a1 a2 M).bind fun v2 =>
  some v2)

def Rf_line (a1 : Int32) (a2 : Int32) (a3 : Int32) (M : hyM) : Option (Int32 × hyM) :=
  (some (wI M 30 0 (if (Rf_isLine a1 a2 M) then (if (Rf_within a3 0 2 M) then 0 else 2) else 1))).bind fun M3 =>
  (if (M3.1 30 0) ≤ 0 then (Rf_lineNow ((24 * a1) + a2) a3 M3).bind fun v5 =>
  some (v5, M3) else some (0, M3))

def Rf_belowNow (a1 : Int32) (a2 : Int32) (a3 : Int32) (a4 : Int32) (M : hyM) : Option Int32 :=
  (Rf_syllableOf a3 M).bind fun v1 =>
  (if 24 ≤ a2 then some (-1) else (Rf_isSlurred a3 M).bind fun v3 =>
  (if v3 then some (-1) else (Rf_counts ((24 * a1) + a2) 0 M).bind fun v5 =>
  (if v1 < v5 then (Rf_beginOf ((24 * a1) + a2) v1 M).bind fun v7 =>
  (Rf_sizeOf ((24 * a1) + a2) v1 M).bind fun v8 =>
  (if a4 = 0 then some v1 else (if a4 = 1 then some ((v7 + v8) - v7) else (if a4 = 2 then (Rf_sign ((24 * a1) + a2) v7 M).bind fun v17 =>
  some v17 else (ldE 96 (M.1 38) ((24 * a1) + a2)).bind fun v12 =>
  (if v12 ≤ (v7 + v8) then some 0 else (Rf_sign ((24 * a1) + a2) (v7 + v8) M).bind fun v14 =>
  some (bI (decide (v14 = 45))))))) else some (-1))))

def Rf_below (a1 : Int32) (a2 : Int32) (a3 : Int32) (a4 : Int32) (M : hyM) : Option (Int32 × hyM) :=
  (Rf_laySung M).bind fun M1 =>
  (if (if (Rf_within a1 0 3 M1) then (Rf_within a2 0 ((M1.1 30 25) - 1) M1) else false) then (ldE 80 (M1.1 46) a2).bind fun v19 =>
  (ldE 40 (M1.1 44) v19).bind fun v20 =>
  (ldE 80 (M1.1 46) a2).bind fun v21 =>
  (ldE 40 (M1.1 43) v21).bind fun v22 =>
  (some (wI M1 30 0 (if (Rf_within a3 0 (v20 - v22) M1) then (if (Rf_within a4 0 3 M1) then 0 else 2) else 1))).bind fun M26 =>
  (if (M26.1 30 0) ≤ 0 then (ldE 80 (M26.1 46) a2).bind fun v28 =>
  (ldE 40 (M26.1 43) v28).bind fun v29 =>
  (Rf_belowNow a1 a2 (v29 + a3) a4 M26).bind fun v30 =>
  some (v30, M26) else some (0, M26)) else (some (wI M1 30 0 1)).bind fun M14 =>
  (if (M14.1 30 0) ≤ 0 then (ldE 80 (M14.1 46) a2).bind fun v16 =>
  (ldE 40 (M14.1 43) v16).bind fun v17 =>
  (Rf_belowNow a1 a2 (v17 + a3) a4 M14).bind fun v18 =>
  some (v18, M14) else some (0, M14)))

def Rf_distanceNow_L19 (a1 : Int32) (M : hyM) : Nat → Int32 → Int32 → Option (Int32 × Int32)
  | 0, _, _ => none
  | f + 1, x3, x4 =>
  (if (M.1 30 25) ≤ x4 then some (x3, x4) else (ldE 192 (M.1 41) ((24 * a1) + x4)).bind fun v6 =>
  (ldE 80 (M.1 46) x4).bind fun v7 =>
  (Rf_syllablesOf v7 M).bind fun v8 =>
  Rf_distanceNow_L19 a1 M f (x3 + (if 0 ≤ (v6 - v8) then (v6 - v8) else (-(v6 - v8)))) (x4 + 1))

def Rf_distanceNow (a1 : Int32) (M : hyM) : Option Int32 :=
  (ldE 8 (M.1 40) a1).bind fun v1 =>
  (if v1 = (M.1 30 25) then (Rf_distanceNow_L19 a1 M hyFu 0 0).bind fun (y3, y4) =>
  some y3 else some (-1))

def Rf_distance (a1 : Int32) (M : hyM) : Option (Int32 × hyM) :=
  (some (wI M 30 0 (bI (!(Rf_isMetre a1 M))))).bind fun M2 =>
  (if (M2.1 30 0) ≤ 0 then (Rf_laySung M2).bind fun M4 =>
  (Rf_distanceNow a1 M4).bind fun v5 =>
  some (v5, M4) else some (0, M2))

def Rf_nearestNow_L4 (M : hyM) : Nat → Int32 → Int32 → Option (Int32 × Int32)
  | 0, _, _ => none
  | f + 1, x1, x2 =>
  (if (M.1 30 16) ≤ x2 then some (x1, x2) else (Rf_distanceNow x2 M).bind fun v4 =>
  (if v4 = (-1) then Rf_nearestNow_L4 M f x1 (x2 + 1) else (if x1 = (-1) then Rf_nearestNow_L4 M f x2 (x2 + 1) else (Rf_distanceNow x1 M).bind fun v7 =>
  Rf_nearestNow_L4 M f (if v7 ≤ v4 then x1 else x2) (x2 + 1))))

def Rf_nearestNow (M : hyM) : Option Int32 :=
  (Rf_nearestNow_L4 M hyFu (-1) 0).bind fun (y1, y2) =>
  some y1

def Rf_nearest (M : hyM) : Option (Int32 × hyM) :=
  (some (wI M 30 0 0)).bind fun M1 =>
  (Rf_laySung M1).bind fun M2 =>
  (Rf_nearestNow M2).bind fun v3 =>
  some (v3, M2)

def Rf_metre (a1 : Int32) (a2 : Int32) (M : hyM) : Option (Int32 × hyM) :=
  (some (wI M 30 0 (bI (!(Rf_isMetre a1 M))))).bind fun M2 =>
  (if (M2.1 30 0) ≤ 0 then (ldE 8 (M2.1 40) a1).bind fun v4 =>
  (if (Rf_within a2 0 (v4 - 1) M2) then (ldE 192 (M2.1 41) ((24 * a1) + a2)).bind fun v6 =>
  some (v6, M2) else some ((-1), M2)) else some (0, M2))

def Rf_fitting_L4 (M : hyM) : Nat → Int32 → Int32 → Option (Int32 × Int32)
  | 0, _, _ => none
  | f + 1, x1, x2 =>
  (if 4 ≤ x2 then some (x1, x2) else (Rf_fitNow x2 M).bind fun v4 =>
  Rf_fitting_L4 M f (x1 ||| (if v4 = (-1) then (1 <<< (x2 &&& 31)) else 0)) (x2 + 1))

def Rf_fitting (M : hyM) : Option Int32 :=
  (Rf_fitting_L4 M hyFu 0 0).bind fun (y1, y2) =>
  some y1

def Rf_faulty_L4 (M : hyM) : Nat → Int32 → Int32 → Option (Int32 × Int32)
  | 0, _, _ => none
  | f + 1, x1, x2 =>
  (if (M.1 30 2) ≤ x2 then some (x1, x2) else (Rf_parallels x2 M).bind fun v4 =>
  Rf_faulty_L4 M f (x1 + (bI (!decide (v4 = 0)))) (x2 + 1))

def Rf_faulty (M : hyM) : Option Int32 :=
  (Rf_faulty_L4 M hyFu 0 0).bind fun (y1, y2) =>
  some y1

def Rf_counted (a1 : Int32) (M : hyM) : Option Int32 :=
  (if a1 = 0 then some (M.1 30 2) else (if a1 = 1 then some (M.1 30 1) else (if a1 = 2 then some (M.1 30 21) else (if a1 = 3 then some (M.1 30 25) else (if a1 = 4 then some (M.1 30 7) else (if a1 = 5 then some (M.1 30 11) else (if a1 = 6 then some (M.1 30 12) else (if a1 = 7 then (Rf_place (M.1 30 2) M).bind fun v15 =>
  some v15 else (if a1 = 8 then (Rf_place (M.1 30 2) M).bind fun v16 =>
  (jrm v16 (M.1 30 11)).bind fun v17 =>
  some (bI (decide (v17 = 0))) else (if a1 = 9 then some (M.1 30 13) else (if a1 = 10 then some (M.1 30 30) else (if a1 = 11 then some (M.1 30 16) else (if a1 = 12 then (Rf_fitting M).bind fun v20 =>
  some v20 else (Rf_faulty M).bind fun v14 =>
  some v14)))))))))))))

def Rf_count (a1 : Int32) (M : hyM) : Option (Int32 × hyM) :=
  (some (wI M 30 0 (bI (!(Rf_within a1 0 13 M))))).bind fun M2 =>
  (if (M2.1 30 0) ≤ 0 then (Rf_lay M2).bind fun M4 =>
  (Rf_counted a1 M4).bind fun v5 =>
  some (v5, M4) else some (0, M2))

def Rf_meanNow_L4 (M : hyM) : Nat → Int32 → Int32 → Option (Int32 × Int32)
  | 0, _, _ => none
  | f + 1, x1, x2 =>
  (if (M.1 30 2) ≤ x2 then some (x1, x2) else (ldE 40 (M.1 47) x2).bind fun v4 =>
  Rf_meanNow_L4 M f (x1 + v4) (x2 + 1))

def Rf_meanNow (M : hyM) : Option UInt64 :=
  (Rf_meanNow_L4 M hyFu 0 0).bind fun (y1, y2) =>
  (if (M.1 30 30) = 0 then some FP.dconst0 else (ckD (FP.ddiv (FP.i2d y1) (FP.i2d (M.1 30 30)))).bind fun d7 =>
  some d7)

def Rf_meanWidth (M : hyM) : Option (UInt64 × hyM) :=
  (some (wI M 30 0 0)).bind fun M1 =>
  (Rf_lay M1).bind fun M2 =>
  (Rf_meanNow M2).bind fun v3 =>
  some (v3, M2)

def Rf_mix (a1 : Int64) (M : hyM) : hyM :=
  (wL M 30 35 ((31 * (M.2 30 35)) + a1))

def Rf_mixNote_L2 (a1 : Int32) : Nat → Int32 → hyM → Option (Int32 × hyM)
  | 0, _, _ => none
  | f + 1, x1, M2 =>
  (if 9 ≤ x1 then some (x1, M2) else (Rf_noteNow a1 x1 M2).bind fun v4 =>
  (some (Rf_mix v4.toInt64 M2)).bind fun M5 =>
  Rf_mixNote_L2 a1 f (x1 + 1) M5)

def Rf_mixNote_L27 (a1 : Int32) : Nat → Int32 → hyM → Option (Int32 × hyM)
  | 0, _, _ => none
  | f + 1, x7, M8 =>
  (if 24 ≤ x7 then some (x7, M8) else (Rf_partNow a1 (x7 / 6) (x7 - x7 / 6 * 6) M8).bind fun v10 =>
  (some (Rf_mix v10.toInt64 M8)).bind fun M11 =>
  Rf_mixNote_L27 a1 f (x7 + 1) M11)

def Rf_mixNote (a1 : Int32) (M : hyM) : Option hyM :=
  (Rf_mixNote_L2 a1 hyFu 0 M).bind fun (y1, NM2) =>
  (Rf_mixNote_L27 a1 hyFu 0 NM2).bind fun (y7, NM8) =>
  (Rf_headsNow a1 0 NM8).bind fun v13 =>
  (some (Rf_mix v13.toInt64 NM8)).bind fun M14 =>
  (Rf_headsNow a1 1 M14).bind fun v15 =>
  (some (Rf_mix v15.toInt64 M14)).bind fun M16 =>
  some M16

def Rf_mixVerses_L19 (x1 : Int32) : Nat → Int32 → hyM → Option (Int32 × hyM)
  | 0, _, _ => none
  | f + 1, x6, M7 =>
  (if 72 ≤ x6 then some (x6, M7) else (Rf_lineNow ((24 * x1) + (x6 / 3)) (x6 - x6 / 3 * 3) M7).bind fun v9 =>
  (some (Rf_mix v9.toInt64 M7)).bind fun M10 =>
  Rf_mixVerses_L19 x1 f (x6 + 1) M10)

def Rf_mixVerses_L2  : Nat → Int32 → hyM → Option (Int32 × hyM)
  | 0, _, _ => none
  | f + 1, x1, M2 =>
  (if 4 ≤ x1 then some (x1, M2) else (Rf_fitNow x1 M2).bind fun v4 =>
  (some (Rf_mix v4.toInt64 M2)).bind fun M5 =>
  (Rf_mixVerses_L19 x1 hyFu 0 M5).bind fun (y6, NM7) =>
  Rf_mixVerses_L2 f (x1 + 1) NM7)

def Rf_mixVerses_L96 (v16 : Int32) (v18 : Int32) : Nat → Int32 → hyM → Option (Int32 × hyM)
  | 0, _, _ => none
  | f + 1, x19, M20 =>
  (if ((4 * ((v16 - v18) + 1)) * 4) ≤ x19 then some (x19, M20) else (jdv (x19 / 4) ((v16 - v18) + 1)).bind fun v22 =>
  (ldE 80 (M20.1 46) 0).bind fun v23 =>
  (ldE 40 (M20.1 43) v23).bind fun v24 =>
  (jrm (x19 / 4) ((v16 - v18) + 1)).bind fun v25 =>
  (Rf_belowNow v22 0 (v24 + v25) (x19 - x19 / 4 * 4) M20).bind fun v26 =>
  (some (Rf_mix v26.toInt64 M20)).bind fun M27 =>
  Rf_mixVerses_L96 v16 v18 f (x19 + 1) M27)

def Rf_mixVerses_L96b  : Nat → Int32 → hyM → Option (Int32 × hyM)
  | 0, _, _ => none
  | f + 1, x30, M31 =>
  (if ((4 * 0) * 4) ≤ x30 then some (x30, M31) else (jdv (x30 / 4) 0).bind fun v33 =>
  (ldE 80 (M31.1 46) 0).bind fun v34 =>
  (ldE 40 (M31.1 43) v34).bind fun v35 =>
  (jrm (x30 / 4) 0).bind fun v36 =>
  (Rf_belowNow v33 0 (v35 + v36) (x30 - x30 / 4 * 4) M31).bind fun v37 =>
  (some (Rf_mix v37.toInt64 M31)).bind fun M38 =>
  Rf_mixVerses_L96b f (x30 + 1) M38)

def Rf_mixVerses (M : hyM) : Option hyM :=
  (Rf_mixVerses_L2  hyFu 0 M).bind fun (y1, NM2) =>
  (if (NM2.1 30 25) = 0 then (Rf_mixVerses_L96b  hyFu 0 NM2).bind fun (y30, NM31) =>
  some NM31 else (ldE 80 (NM2.1 46) 0).bind fun v15 =>
  (ldE 40 (NM2.1 44) v15).bind fun v16 =>
  (ldE 80 (NM2.1 46) 0).bind fun v17 =>
  (ldE 40 (NM2.1 43) v17).bind fun v18 =>
  (Rf_mixVerses_L96 v16 v18 hyFu 0 NM2).bind fun (y19, NM20) =>
  some NM20)

def Jd_isNaN (a1 : UInt64) (M : hyM) : Bool :=
  (!decide ((Op.cmpValue (FP.dcmp a1 a1) .l) = 0))

def Jd_doubleToLongBits (a1 : UInt64) (M : hyM) : Int64 :=
  (if (Jd_isNaN a1 M) then 9221120237041090560 else a1.toInt64)

def Rf_digest_L18  : Nat → Int32 → hyM → Option (Int32 × hyM)
  | 0, _, _ => none
  | f + 1, x4, M5 =>
  (if 14 ≤ x4 then some (x4, M5) else (Rf_counted x4 M5).bind fun v7 =>
  (some (Rf_mix v7.toInt64 M5)).bind fun M8 =>
  Rf_digest_L18 f (x4 + 1) M8)

def Rf_digest_L42  : Nat → Int32 → hyM → Option (Int32 × hyM)
  | 0, _, _ => none
  | f + 1, x10, M11 =>
  (if (M11.1 30 2) ≤ x10 then some (x10, M11) else (Rf_mixNote x10 M11).bind fun M13 =>
  Rf_digest_L42 f (x10 + 1) M13)

def Rf_digest_L63  : Nat → Int32 → hyM → Option (Int32 × hyM)
  | 0, _, _ => none
  | f + 1, x15, M16 =>
  (if (6 * (M16.1 30 21)) ≤ x15 then some (x15, M16) else (Rf_phraseNow (x15 / 6) (x15 - x15 / 6 * 6) M16).bind fun v18 =>
  (some (Rf_mix v18.toInt64 M16)).bind fun M19 =>
  Rf_digest_L63 f (x15 + 1) M19)

def Rf_digest_L99  : Nat → Int32 → hyM → Option (Int32 × hyM)
  | 0, _, _ => none
  | f + 1, x21, M22 =>
  (if (M22.1 30 25) ≤ x21 then some (x21, M22) else (ldE 80 (M22.1 46) x21).bind fun v24 =>
  (some (Rf_mix v24.toInt64 M22)).bind fun M25 =>
  Rf_digest_L99 f (x21 + 1) M25)

def Rf_digest_L150 (x28 : Int32) : Nat → Int32 → hyM → Option (Int32 × hyM)
  | 0, _, _ => none
  | f + 1, x33, M34 =>
  (ldE 8 (M34.1 40) x28).bind fun v35 =>
  (if v35 ≤ x33 then some (x33, M34) else (ldE 192 (M34.1 41) ((24 * x28) + x33)).bind fun v37 =>
  (some (Rf_mix v37.toInt64 M34)).bind fun M38 =>
  Rf_digest_L150 x28 f (x33 + 1) M38)

def Rf_digest_L130  : Nat → Int32 → hyM → Option (Int32 × hyM)
  | 0, _, _ => none
  | f + 1, x28, M29 =>
  (if (M29.1 30 16) ≤ x28 then some (x28, M29) else (Rf_distanceNow x28 M29).bind fun v31 =>
  (some (Rf_mix v31.toInt64 M29)).bind fun M32 =>
  (Rf_digest_L150 x28 hyFu 0 M32).bind fun (y33, NM34) =>
  Rf_digest_L130 f (x28 + 1) NM34)

def Rf_digest_L219  : Nat → Int32 → hyM → Option (Int32 × hyM)
  | 0, _, _ => none
  | f + 1, x47, M48 =>
  (if (M48.1 30 19) ≤ x47 then some (x47, M48) else (ldE 60 (M48.1 42) x47).bind fun v50 =>
  (some (Rf_mix v50.toInt64 M48)).bind fun M51 =>
  Rf_digest_L219 f (x47 + 1) M51)

def Rf_digest (M : hyM) : Option (Int64 × hyM) :=
  (some (wI M 30 0 0)).bind fun M1 =>
  (some (wL M1 30 35 2063)).bind fun M2 =>
  (Rf_lay M2).bind fun M3 =>
  (Rf_digest_L18  hyFu 0 M3).bind fun (y4, NM5) =>
  (Rf_digest_L42  hyFu 0 NM5).bind fun (y10, NM11) =>
  (Rf_digest_L63  hyFu 0 NM11).bind fun (y15, NM16) =>
  (Rf_digest_L99  hyFu 0 NM16).bind fun (y21, NM22) =>
  (Rf_mixVerses NM22).bind fun M27 =>
  (Rf_digest_L130  hyFu 0 M27).bind fun (y28, NM29) =>
  (Rf_nearestNow NM29).bind fun v42 =>
  (some (Rf_mix v42.toInt64 NM29)).bind fun M43 =>
  (Rf_meanNow M43).bind fun v44 =>
  (some (Rf_mix (Jd_doubleToLongBits v44 M43) M43)).bind fun M45 =>
  (some (Rf_mix ((M45.1 30 19).toInt64) M45)).bind fun M46 =>
  (Rf_digest_L219  hyFu 0 M46).bind fun (y47, NM48) =>
  some ((NM48.2 30 35), NM48)

def La_begin (a1 : Int32) (T : hyT) : Option (Int32 × hyT) :=
  ((Hp_begin a1 T.1).bind fun z => match z with
  | (.inl k2, Zu1) => (if k2 = 1 then some (1, (Zu1, T.2)) else none)
  | (.inr r3, Zu1) => (some (wTL (Zu1, T.2) 51 0 r3.toInt64)).bind fun T4 =>
  some (0, T4))

def La_addNote (a1 : Int32) (a2 : Int32) (a3 : Int32) (a4 : Int32) (a5 : Int32) (T : hyT) : Option (Int32 × hyT) :=
  ((Hp_addNote a1 a2 a3 a4 a5 T.1).bind fun z => match z with
  | (.inl k2, Zu1) => (if k2 = 1 then some (1, (Zu1, T.2)) else (if k2 = 2 then some (2, (Zu1, T.2)) else none))
  | (.inr r3, Zu1) => (some (wTL (Zu1, T.2) 51 0 r3.toInt64)).bind fun T4 =>
  some (0, T4))

def La_dropNote (T : hyT) : Option (Int32 × hyT) :=
  ((Hp_dropNote T.1).bind fun z => match z with
  | (.inl k2, Zu1) => (if k2 = 2 then some (1, (Zu1, T.2)) else none)
  | (.inr r3, Zu1) => (some (wTL (Zu1, T.2) 51 0 r3.toInt64)).bind fun T4 =>
  some (0, T4))

def La_setPitch (a1 : Int32) (a2 : Int32) (a3 : Int32) (T : hyT) : Option (Int32 × hyT) :=
  (match Hp_setPitch a1 a2 a3 T.1 with
  | (.inl k2, Zu1) => (if k2 = 3 then some (1, (Zu1, T.2)) else (if k2 = 1 then some (2, (Zu1, T.2)) else none))
  | (.inr r3, Zu1) => (some (wTL (Zu1, T.2) 51 0 r3.toInt64)).bind fun T4 =>
  some (0, T4))

def La_mark (a1 : Int32) (a2 : Bool) (a3 : Bool) (T : hyT) : Option (Int32 × hyT) :=
  ((Hp_mark a1 a2 a3 T.1).bind fun z => match z with
  | (.inl k2, Zu1) => (if k2 = 3 then some (1, (Zu1, T.2)) else none)
  | (.inr r3, Zu1) => (some (wTL (Zu1, T.2) 51 0 r3.toInt64)).bind fun T4 =>
  some (0, T4))

def La_setBars (a1 : Int32) (a2 : Int32) (T : hyT) : Option (Int32 × hyT) :=
  (match Hp_setBars a1 a2 T.1 with
  | (.inl k2, Zu1) => (if k2 = 1 then some (1, (Zu1, T.2)) else none)
  | (.inr r3, Zu1) => (some (wTL (Zu1, T.2) 51 0 r3.toInt64)).bind fun T4 =>
  some (0, T4))

def La_repeat (a1 : Int32) (a2 : Int32) (a3 : Int32) (T : hyT) : Option (Int32 × hyT) :=
  ((Hp_repeat a1 a2 a3 T.1).bind fun z => match z with
  | (.inl k2, Zu1) => (if k2 = 3 then some (1, (Zu1, T.2)) else (if k2 = 1 then some (2, (Zu1, T.2)) else (if k2 = 2 then some (3, (Zu1, T.2)) else none)))
  | (.inr r3, Zu1) => (some (wTL (Zu1, T.2) 51 0 r3.toInt64)).bind fun T4 =>
  some (0, T4))

def La_transpose (a1 : Int32) (T : hyT) : Option (Int32 × hyT) :=
  ((Hp_transpose a1 T.1).bind fun z => match z with
  | (.inl k2, Zu1) => (if k2 = 1 then some (1, (Zu1, T.2)) else (if k2 = 2 then some (2, (Zu1, T.2)) else none))
  | (.inr r3, Zu1) => (some (wTL (Zu1, T.2) 51 0 r3.toInt64)).bind fun T4 =>
  some (0, T4))

def La_setWidth (a1 : Int32) (T : hyT) : Option (Int32 × hyT) :=
  ((Hp_setWidth a1 T.1).bind fun z => match z with
  | (.inl k2, Zu1) => (if k2 = 1 then some (1, (Zu1, T.2)) else none)
  | (.inr r3, Zu1) => (some (wTL (Zu1, T.2) 51 0 r3.toInt64)).bind fun T4 =>
  some (0, T4))

def La_append (a1 : Int32) (T : hyT) : Option (Int32 × hyT) :=
  (match Hp_append a1 T.1 with
  | (.inl k2, Zu1) => (if k2 = 1 then some (1, (Zu1, T.2)) else (if k2 = 2 then some (2, (Zu1, T.2)) else none))
  | (.inr r3, Zu1) => (some (wTL (Zu1, T.2) 51 0 r3.toInt64)).bind fun T4 =>
  some (0, T4))

def La_setLine (a1 : Int32) (a2 : Int32) (T : hyT) : Option (Int32 × hyT) :=
  ((Hp_setLine a1 a2 T.1).bind fun z => match z with
  | (.inl k2, Zu1) => (if k2 = 3 then some (1, (Zu1, T.2)) else (if k2 = 1 then some (2, (Zu1, T.2)) else none))
  | (.inr r3, Zu1) => (some (wTL (Zu1, T.2) 51 0 r3.toInt64)).bind fun T4 =>
  some (0, T4))

def La_clearVerse (a1 : Int32) (T : hyT) : Option (Int32 × hyT) :=
  ((Hp_clearVerse a1 T.1).bind fun z => match z with
  | (.inl k2, Zu1) => (if k2 = 3 then some (1, (Zu1, T.2)) else none)
  | (.inr r3, Zu1) => (some (wTL (Zu1, T.2) 51 0 r3.toInt64)).bind fun T4 =>
  some (0, T4))

def La_addMetre (T : hyT) : Option (Int32 × hyT) :=
  ((Hp_addMetre T.1).bind fun z => match z with
  | (.inl k2, Zu1) => (if k2 = 1 then some (1, (Zu1, T.2)) else (if k2 = 2 then some (2, (Zu1, T.2)) else none))
  | (.inr r3, Zu1) => (some (wTL (Zu1, T.2) 51 0 r3.toInt64)).bind fun T4 =>
  some (0, T4))

def La_dropMetre (a1 : Int32) (T : hyT) : Option (Int32 × hyT) :=
  ((Hp_dropMetre a1 T.1).bind fun z => match z with
  | (.inl k2, Zu1) => (if k2 = 3 then some (1, (Zu1, T.2)) else none)
  | (.inr r3, Zu1) => (some (wTL (Zu1, T.2) 51 0 r3.toInt64)).bind fun T4 =>
  some (0, T4))

def La_note (a1 : Int32) (a2 : Int32) (T : hyT) : Option (Int32 × hyT) :=
  ((Hp_note a1 a2 T.1).bind fun z => match z with
  | .inl k2 => (if k2 = 3 then some (1, T) else (if k2 = 1 then some (2, T) else none))
  | .inr r3 => (some (wTL T 51 0 r3.toInt64)).bind fun T4 =>
  some (0, T4))

def La_part (a1 : Int32) (a2 : Int32) (a3 : Int32) (T : hyT) : Option (Int32 × hyT) :=
  ((Hp_part a1 a2 a3 T.1).bind fun z => match z with
  | .inl k2 => (if k2 = 3 then some (1, T) else (if k2 = 1 then some (2, T) else none))
  | .inr r3 => (some (wTL T 51 0 r3.toInt64)).bind fun T4 =>
  some (0, T4))

def La_heads (a1 : Int32) (a2 : Int32) (T : hyT) : Option (Int32 × hyT) :=
  ((Hp_heads a1 a2 T.1).bind fun z => match z with
  | .inl k2 => (if k2 = 3 then some (1, T) else none)
  | .inr r3 => (some (wTL T 51 0 r3.toInt64)).bind fun T4 =>
  some (0, T4))

def La_phrase (a1 : Int32) (a2 : Int32) (T : hyT) : Option (Int32 × hyT) :=
  (match Hp_phrase a1 a2 T.1 with
  | .inl k2 => (if k2 = 3 then some (1, T) else (if k2 = 1 then some (2, T) else none))
  | .inr r3 => (some (wTL T 51 0 r3.toInt64)).bind fun T4 =>
  some (0, T4))

def La_sung (a1 : Int32) (T : hyT) : Option (Int32 × hyT) :=
  (match Hp_sung a1 T.1 with
  | .inl k2 => (if k2 = 3 then some (1, T) else none)
  | .inr r3 => (some (wTL T 51 0 r3.toInt64)).bind fun T4 =>
  some (0, T4))

def La_fit (a1 : Int32) (T : hyT) : Option (Int32 × hyT) :=
  ((Hp_fit a1 T.1).bind fun z => match z with
  | .inl k2 => (if k2 = 3 then some (1, T) else none)
  | .inr r3 => (some (wTL T 51 0 r3.toInt64)).bind fun T4 =>
  some (0, T4))

def La_line (a1 : Int32) (a2 : Int32) (a3 : Int32) (T : hyT) : Option (Int32 × hyT) :=
  ((Hp_line a1 a2 a3 T.1).bind fun z => match z with
  | .inl k2 => (if k2 = 3 then some (1, T) else (if k2 = 1 then some (2, T) else none))
  | .inr r3 => (some (wTL T 51 0 r3.toInt64)).bind fun T4 =>
  some (0, T4))

def La_below (a1 : Int32) (a2 : Int32) (a3 : Int32) (a4 : Int32) (T : hyT) : Option (Int32 × hyT) :=
  (match Hp_below a1 a2 a3 a4 T.1 with
  | .inl k2 => (if k2 = 3 then some (1, T) else (if k2 = 1 then some (2, T) else none))
  | .inr r3 => (some (wTL T 51 0 r3.toInt64)).bind fun T4 =>
  some (0, T4))

def La_distance (a1 : Int32) (T : hyT) : Option (Int32 × hyT) :=
  ((Hp_distance a1 T.1).bind fun z => match z with
  | .inl k2 => (if k2 = 3 then some (1, T) else none)
  | .inr r3 => (some (wTL T 51 0 r3.toInt64)).bind fun T4 =>
  some (0, T4))

def La_metre (a1 : Int32) (a2 : Int32) (T : hyT) : Option (Int32 × hyT) :=
  (match Hp_metre a1 a2 T.1 with
  | .inl k2 => (if k2 = 3 then some (1, T) else none)
  | .inr r3 => (some (wTL T 51 0 r3.toInt64)).bind fun T4 =>
  some (0, T4))

def La_count (a1 : Int32) (T : hyT) : Option (Int32 × hyT) :=
  ((Hp_count a1 T.1).bind fun z => match z with
  | .inl k2 => (if k2 = 1 then some (1, T) else none)
  | .inr r3 => (some (wTL T 51 0 r3.toInt64)).bind fun T4 =>
  some (0, T4))

