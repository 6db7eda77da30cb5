/-! Bits of a mask. -/
theorem bt_sh : ∀ j : Fin 40, ((((n3 j.val).toInt64.toUInt64 &&& Int64.toUInt64 63) % 64 : UInt64)).toBitVec.toNat = j.val := by decide +kernel
theorem bt_one : ∀ i j : Fin 40, (jlshl 1 (n3 i.val)).toUInt64.toBitVec.getLsbD j.val = decide (j.val = i.val) := by decide +kernel
theorem bt_not : ∀ i j : Fin 40, ((jlshl 1 (n3 i.val)) ^^^ (-1)).toUInt64.toBitVec.getLsbD j.val = !decide (j.val = i.val) := by decide +kernel
theorem lg_cmp0 (v : Int64) : (lg_cmp v 0 = 0) ↔ v = 0 := by
  unfold lg_cmp
  constructor
  · intro h
    by_cases c : v > 0
    · rw [if_pos c] at h; exact absurd h (by decide)
    · rw [if_neg c] at h
      by_cases d : v = 0
      · exact d
      · rw [if_neg d] at h; exact absurd h (by decide)
  · rintro rfl
    decide
theorem hbt_bit (m : Int64) {j : Nat} (hj : j < 40) : hbt m j = m.toUInt64.toBitVec.getLsbD j := by
  have hs := bt_sh ⟨j, hj⟩
  have e1 : (jlushr m (n3 j) &&& 1).toUInt64.toBitVec = (m.toUInt64.toBitVec >>> j) &&& 1#64 := by
    show (m.toUInt64.toBitVec >>> (((n3 j).toInt64.toUInt64 &&& Int64.toUInt64 63) % 64 : UInt64).toBitVec) &&& 1#64 = _
    rw [BitVec.ushiftRight_eq', hs]
  have e2 : ((jlushr m (n3 j) &&& 1) = 0) ↔ (m.toUInt64.toBitVec >>> j) &&& 1#64 = 0#64 := by
    rw [← e1]
    constructor
    · intro h; rw [h]; rfl
    · intro h
      exact congrArg UInt64.toInt64 (UInt64.toBitVec_inj.mp h : (jlushr m (n3 j) &&& 1).toUInt64 = (0 : Int64).toUInt64)
  unfold hbt
  rw [show decide (lg_cmp (jlushr m (n3 j) &&& 1) 0 = 0) = decide ((m.toUInt64.toBitVec >>> j) &&& 1#64 = 0#64) from decide_eq_decide.mpr ((lg_cmp0 _).trans e2)]
  have e3 : (m.toUInt64.toBitVec >>> j) &&& 1#64 = BitVec.setWidth 64 (BitVec.ofBool (m.toUInt64.toBitVec.getLsbD j)) := by
    rw [BitVec.and_one_eq_setWidth_ofBool_getLsbD, BitVec.getLsbD_ushiftRight, Nat.add_zero]
  rw [e3]
  cases m.toUInt64.toBitVec.getLsbD j <;> decide
theorem hbt_with (m : Int64) (b : Bool) (M : hyM) {i j : Nat} (hi : i < 40) (hj : j < 40) : hbt (Hp_withBit m (n3 i) b M) j = if j = i then b else hbt m j := by
  rw [hbt_bit _ hj, hbt_bit _ hj]
  unfold Hp_withBit
  cases b
  · rw [if_neg (by decide)]
    show (m.toUInt64.toBitVec &&& ((jlshl 1 (n3 i)) ^^^ (-1)).toUInt64.toBitVec).getLsbD j = _
    rw [BitVec.getLsbD_and, bt_not ⟨i, hi⟩ ⟨j, hj⟩]
    by_cases e : j = i
    · rw [if_pos e]; simp [e]
    · rw [if_neg e]; simp [e]
  · rw [if_pos rfl]
    show (m.toUInt64.toBitVec ||| (jlshl 1 (n3 i)).toUInt64.toBitVec).getLsbD j = _
    rw [BitVec.getLsbD_or, bt_one ⟨i, hi⟩ ⟨j, hj⟩]
    by_cases e : j = i
    · rw [if_pos e]; simp [e]
    · rw [if_neg e]; simp [e]
/-! a note more -/
theorem uw {M : hyM} {B : aS} {c c' : Nat} (k v : Nat) (h : ∀ j, M.1 c j = n3 (B c' j)) : ∀ j, (wI M c k (n3 v)).1 c j = n3 (uA B c' k v c' j) := fun j => by
  rw [rd_wI]
  unfold uA
  by_cases q : j = k
  · rw [if_pos ⟨rfl, q⟩, if_pos ⟨rfl, q⟩]
  · rw [if_neg (fun z => q z.2), if_neg (fun z => q z.2)]; exact h j
theorem WR_mono {m m' : Nat} {q : rpT} (h : WR m q) (hm : m ≤ m') : WR m' q :=
  ⟨h.1, fun i hi => ⟨(h.2.1 i hi).1, by have := (h.2.1 i hi).2.1; omega, (h.2.1 i hi).2.2⟩, h.2.2⟩
theorem phc_cg {e e' : Nat → Bool} {n : Nat} (h : ∀ i, i < n → e i = e' i) : ∀ k, k ≤ n + 1 → phc e k = phc e' k := by
  intro k hk
  unfold phc
  apply cnt_congr
  intro i hi
  cases i with
  | zero => rfl
  | succ i => rw [stt_s, stt_s]; exact h i (by omega)
def adA (A : aS) (v p0 p1 p2 p3 : Nat) : aS := uA (uA (uA (uA (uA (uA (uA (uA A 31 (A 30 2) v) 32 (4 * A 30 2) p0) 32 (4 * A 30 2 + 1) p1) 32 (4 * A 30 2 + 2) p2) 32 (4 * A 30 2 + 3) p3) 33 (A 30 2) 0) 34 (A 30 2) 0) 30 2 (A 30 2 + 1)
theorem adA_b (A : aS) (v p0 p1 p2 p3 i : Nat) : sA (adA A v p0 p1 p2 p3) i = (if i = A 30 2 then false else sA A i) ∧ eA (adA A v p0 p1 p2 p3) i = (if i = A 30 2 then false else eA A i) := by
  have e1 : adA A v p0 p1 p2 p3 33 i = uA A 33 (A 30 2) 0 33 i := rfl
  have e2 : adA A v p0 p1 p2 p3 34 i = uA A 34 (A 30 2) 0 34 i := rfl
  unfold sA eA
  rw [e1, e2]
  unfold uA
  by_cases q : i = A 30 2
  · rw [if_pos q, if_pos q, if_pos ⟨rfl, q⟩, if_pos ⟨rfl, q⟩]; exact ⟨rfl, rfl⟩
  · rw [if_neg q, if_neg q, if_neg (fun z => q z.2), if_neg (fun z => q z.2)]; exact ⟨rfl, rfl⟩
theorem adA_WF {A : aS} (hW : WFA A) {v p0 p1 p2 p3 : Nat} (hn : A 30 2 < 40) (hv : 1 ≤ v ∧ v ≤ 8) (h0 : 36 ≤ p0 ∧ p0 ≤ 84) (h1 : 36 ≤ p1 ∧ p1 ≤ 84) (h2 : 36 ≤ p2 ∧ p2 ≤ 84) (h3 : 36 ≤ p3 ∧ p3 ≤ 84) : WFA (adA A v p0 p1 p2 p3) := by
  have hm : mA A ≤ mA (adA A v p0 p1 p2 p3) := by
    show phc (eA A) (A 30 2) ≤ phc (eA (adA A v p0 p1 p2 p3)) (A 30 2 + 1)
    rw [phc_cg (e := eA A) (e' := eA (adA A v p0 p1 p2 p3)) (n := A 30 2) (fun i hi => by rw [(adA_b A v p0 p1 p2 p3 i).2, if_neg (by omega)]) (A 30 2) (by omega)]
    exact phc_mono (by omega)
  refine ⟨⟨show A 30 2 + 1 ≤ 40 from hn, hW.1.2.1, fun i hi => ?_, fun i hi => ?_, fun i => ?_⟩, ⟨WR_mono hW.2.1.1 hm, hW.2.1.2⟩, hW.2.2.1, hW.2.2.2.1, hW.2.2.2.2.1, hW.2.2.2.2.2⟩
  · have hi2 : i < A 30 2 + 1 := hi
    show 1 ≤ uA A 31 (A 30 2) v 31 i ∧ uA A 31 (A 30 2) v 31 i ≤ 8
    unfold uA
    by_cases q : i = A 30 2
    · rw [if_pos ⟨rfl, q⟩]; exact hv
    · rw [if_neg (fun z => q z.2)]; exact hW.1.2.2.1 i (by omega)
  · have hi2 : i < 4 * (A 30 2 + 1) := hi
    show 36 ≤ uA (uA (uA (uA A 32 (4 * A 30 2) p0) 32 (4 * A 30 2 + 1) p1) 32 (4 * A 30 2 + 2) p2) 32 (4 * A 30 2 + 3) p3 32 i ∧ uA (uA (uA (uA A 32 (4 * A 30 2) p0) 32 (4 * A 30 2 + 1) p1) 32 (4 * A 30 2 + 2) p2) 32 (4 * A 30 2 + 3) p3 32 i ≤ 84
    by_cases q3 : i = 4 * A 30 2 + 3
    · subst q3; rw [uA_eq]; exact h3
    · rw [uA_nk q3]
      by_cases q2 : i = 4 * A 30 2 + 2
      · subst q2; rw [uA_eq]; exact h2
      · rw [uA_nk q2]
        by_cases q1 : i = 4 * A 30 2 + 1
        · subst q1; rw [uA_eq]; exact h1
        · rw [uA_nk q1]
          by_cases q0 : i = 4 * A 30 2
          · subst q0; rw [uA_eq]; exact h0
          · rw [uA_nk q0]; exact hW.1.2.2.2.1 i (by omega)
  · show uA A 33 (A 30 2) 0 33 i ≤ 1 ∧ uA A 34 (A 30 2) 0 34 i ≤ 1
    unfold uA
    by_cases q : i = A 30 2
    · rw [if_pos ⟨rfl, q⟩, if_pos ⟨rfl, q⟩]; exact ⟨Nat.zero_le _, Nat.zero_le _⟩
    · rw [if_neg (fun z => q z.2), if_neg (fun z => q z.2)]; exact hW.1.2.2.2.2 i
theorem ckP (a : Int32) (M N : hyM) : Hp_checkPitch a M = if Rf_isPitch a N = true then .inr () else .inl 1 := by
  rw [Hp_checkPitch, ckR a 36 84 M N]
  show _ = if Rf_within a 36 84 N = true then _ else _
  cases Rf_within a 36 84 N <;> rfl
theorem s_addNote {T : hyT} (h : INV T) (a b c d e : Int32) : okS (La_addNote a b c d e T) (Rf_addNote a b c d e) := by
  obtain ⟨A, hW, hC, hR⟩ := h
  have hn := hW.1.1
  have k1 := ckR a 1 8 T.1 T.2.1
  have k2 := ckP b T.1 T.2.1
  have k3 := ckP c T.1 T.2.1
  have k4 := ckP d T.1 T.2.1
  have k5 := ckP e T.1 T.2.1
  have h30 : T.2.1.1 30 2 = n3 (A 30 2) := hR 30 2 rfl
  have bad : (if (Rf_within a 1 8 T.2.1) then (if (if (Rf_isPitch b T.2.1) then (if (Rf_isPitch c T.2.1) then (if (Rf_isPitch d T.2.1) then (Rf_isPitch e T.2.1) else false) else false) else false) then (if (T.2.1.1 30 2) = 40 then 2 else 0) else 1) else 1) = (1 : Int32) → La_addNote a b c d e T = some (1, T) → okS (La_addNote a b c d e T) (Rf_addNote a b c d e) := by
    intro q1 q2
    refine fin_t (T := T) (k := 1) (b := 0) (N := wI T.2.1 30 0 1) (by decide) hW hC (RI.w hR rfl) q2 ?_ (rd_eq _ _ _ _)
    rw [Rf_addNote, q1, Option.bind_some, rd_eq, if_neg gt0.1]
  rcases Bool.eq_false_or_eq_true (Rf_within a 1 8 T.2.1) with g1 | g1
  · rw [g1, if_pos rfl] at k1
    rcases Bool.eq_false_or_eq_true (Rf_isPitch b T.2.1) with g2 | g2
    · rw [g2, if_pos rfl] at k2
      rcases Bool.eq_false_or_eq_true (Rf_isPitch c T.2.1) with g3 | g3
      · rw [g3, if_pos rfl] at k3
        rcases Bool.eq_false_or_eq_true (Rf_isPitch d T.2.1) with g4 | g4
        · rw [g4, if_pos rfl] at k4
          rcases Bool.eq_false_or_eq_true (Rf_isPitch e T.2.1) with g5 | g5
          · rw [g5, if_pos rfl] at k5
            have hr : (if (Rf_within a 1 8 T.2.1) then (if (if (Rf_isPitch b T.2.1) then (if (Rf_isPitch c T.2.1) then (if (Rf_isPitch d T.2.1) then (Rf_isPitch e T.2.1) else false) else false) else false) then (if (T.2.1.1 30 2) = 40 then 2 else 0) else 1) else 1) = (if A 30 2 = 40 then 2 else 0 : Int32) := by
              rw [g1, if_pos rfl, g2, if_pos rfl, g3, if_pos rfl, g4, if_pos rfl, g5, if_pos rfl, h30, l_40, ite_eq (by omega) (by omega)]
            by_cases hm : A 30 2 < 40
            · rw [show (if A 30 2 = 40 then 2 else 0 : Int32) = 0 from if_neg (by omega)] at hr
              obtain ⟨v, rfl, hv1, hv2⟩ := wi_n3 (lo := 1) (hi := 8) g1 (by decide) (by decide)
              obtain ⟨p0, rfl, h01, h02⟩ := wi_n3 (lo := 36) (hi := 84) g2 (by decide) (by decide)
              obtain ⟨p1, rfl, h11, h12⟩ := wi_n3 (lo := 36) (hi := 84) g3 (by decide) (by decide)
              obtain ⟨p2, rfl, h21, h22⟩ := wi_n3 (lo := 36) (hi := 84) g4 (by decide) (by decide)
              obtain ⟨p3, rfl, h31, h32⟩ := wi_n3 (lo := 36) (hi := 84) g5 (by decide) (by decide)
              have hW' : WFA (adA A v p0 p1 p2 p3) := adA_WF hW hm ⟨hv1, hv2⟩ ⟨h01, h02⟩ ⟨h11, h12⟩ ⟨h21, h22⟩ ⟨h31, h32⟩
              have h14 : T.1.1 1 4 = n3 (A 30 2) := CA_n hC
              have ep : Tu_push (n3 v) (n3 p0) (n3 p1) (n3 p2) (n3 p3) T.1 = some (wI (wI (wI (wI (wI (wI T.1 2 (A 30 2) (n3 v)) 3 (4 * A 30 2) (n3 p0)) 3 (4 * A 30 2 + 1) (n3 p1)) 3 (4 * A 30 2 + 2) (n3 p2)) 3 (4 * A 30 2 + 3) (n3 p3)) 1 4 (n3 (A 30 2 + 1))) := by
                have cp : ∀ (M : hyM) (i x : Nat), i < 4 → Tu_changePitch (n3 (A 30 2)) (n3 i) (n3 x) M = wI M 3 (4 * A 30 2 + i) (n3 x) := by
                  intro M i x hi
                  unfold Tu_changePitch
                  rw [l_4, n3_mul, n3_add, putf_in _ _ _ (by omega) (by decide), Nat.mul_comm]
                have c0 := fun M => cp M 0 p0 (by decide)
                have c1 := fun M => cp M 1 p1 (by decide)
                have c2 := fun M => cp M 2 p2 (by decide)
                have c3 := fun M => cp M 3 p3 (by decide)
                rw [Tu_push, h14, putf_in _ _ _ hm (by decide), Option.bind_some, rd_ne (by decide), h14, show (0 : Int32) = n3 0 from rfl, c0, Option.bind_some, rd_ne (by decide), rd_ne (by decide), h14, l_1, c1, Option.bind_some, rd_ne (by decide), rd_ne (by decide), rd_ne (by decide), h14, show (2 : Int32) = n3 2 from rfl, c2, Option.bind_some, rd_ne (by decide), rd_ne (by decide), rd_ne (by decide), rd_ne (by decide), h14, show (3 : Int32) = n3 3 from rfl, c3, Option.bind_some, rd_ne (by decide), rd_ne (by decide), rd_ne (by decide), rd_ne (by decide), rd_ne (by decide), h14, n3_add, Option.bind_some]
                rfl
              have hB : CB (adA A v p0 p1 p2 p3) (wI (wI (wI (wI (wI (wI T.1 2 (A 30 2) (n3 v)) 3 (4 * A 30 2) (n3 p0)) 3 (4 * A 30 2 + 1) (n3 p1)) 3 (4 * A 30 2 + 2) (n3 p2)) 3 (4 * A 30 2 + 3) (n3 p3)) 1 4 (n3 (A 30 2 + 1))) := by
                obtain ⟨⟨a1, a2, a3, a4, a5⟩, ⟨b1, b2⟩, cc, qq, vv, mm, ii⟩ := hC.1
                refine ⟨⟨a1, rfl, a3, uw (M := T.1) (B := A) (c := 2) (c' := 31) _ _ a4, ?_⟩, ⟨fun i hi => ?_, fun i hi => ?_⟩, cc, qq, vv, mm, ii⟩
                · exact uw (c := 3) (c' := 32) _ _ (uw (c := 3) (c' := 32) _ _ (uw (c := 3) (c' := 32) _ _ (uw (M := T.1) (B := A) (c := 3) (c' := 32) _ _ a5)))
                · show hbt (T.1.2 1 2) i = (decide (i < A 30 2 + 1) && sA (adA A v p0 p1 p2 p3) i)
                  rw [b1 i hi, (adA_b A v p0 p1 p2 p3 i).1]
                  by_cases q : i = A 30 2
                  · rw [if_pos q]; simp [q]
                  · rw [if_neg q]
                    congr 1
                    apply decide_eq_decide.mpr
                    omega
                · show hbt (T.1.2 1 3) i = (decide (i < A 30 2 + 1) && eA (adA A v p0 p1 p2 p3) i)
                  rw [b2 i hi, (adA_b A v p0 p1 p2 p3 i).2]
                  by_cases q : i = A 30 2
                  · rw [if_pos q]; simp [q]
                  · rw [if_neg q]
                    congr 1
                    apply decide_eq_decide.mpr
                    omega
              obtain ⟨M', m1, m2, -, -, -, -⟩ := lay_same hW' hB
              have hR' : RI (adA A v p0 p1 p2 p3) (wI (wI (wI (wI (wI (wI (wI (wI (wI T.2.1 30 0 0) 31 (A 30 2) (n3 v)) 32 (4 * A 30 2) (n3 p0)) 32 (4 * A 30 2 + 1) (n3 p1)) 32 (4 * A 30 2 + 2) (n3 p2)) 32 (4 * A 30 2 + 3) (n3 p3)) 33 (A 30 2) (n3 0)) 34 (A 30 2) (n3 0)) 30 2 (n3 (A 30 2 + 1))) :=
                RI.u (RI.u (RI.u (RI.u (RI.u (RI.u (RI.u (RI.u (RI.w hR rfl) 31 (A 30 2) v) 32 (4 * A 30 2) p0) 32 (4 * A 30 2 + 1) p1) 32 (4 * A 30 2 + 2) p2) 32 (4 * A 30 2 + 3) p3) 33 (A 30 2) 0) 34 (A 30 2) 0) 30 2 (A 30 2 + 1)
              have e14 : M'.1 1 4 - 1 = n3 (A 30 2) := by
                rw [CA_n m2]
                show n3 (A 30 2 + 1) - 1 = _
                rw [l_1, n3_sub (by omega)]; rfl
              refine fin_v (T := T) (v := n3 (A 30 2)) hW' m2 hR' rfl ?_ ?_
              · rw [La_addNote, Hp_addNote, k1]
                dsimp only
                rw [k2]
                dsimp only
                rw [k3]
                dsimp only
                rw [k4]
                dsimp only
                rw [k5]
                dsimp only
                rw [h14, if_pos (by rw [l_40, n3_lt (by omega) (by omega)]; exact hm), ep, Option.bind_some, m1, Option.bind_some, e14]
                rfl
              · rw [Rf_addNote, hr, Option.bind_some, rd_eq, if_pos gt0.2.2.2, rd_nk (by decide), h30, stE_in _ _ _ hm (by decide), Option.bind_some, rd_ne (by decide), rd_nk (by decide), h30, l_4, n3_mul, stE_in _ _ _ (by omega) (by decide), Option.bind_some, rd_ne (by decide), rd_ne (by decide), rd_nk (by decide), h30, l_1, n3_mul, n3_add, stE_in _ _ _ (by omega) (by decide), Option.bind_some, rd_ne (by decide), rd_ne (by decide), rd_ne (by decide), rd_nk (by decide), h30, show (2 : Int32) = n3 2 from rfl, n3_mul, n3_add, stE_in _ _ _ (by omega) (by decide), Option.bind_some, rd_ne (by decide), rd_ne (by decide), rd_ne (by decide), rd_ne (by decide), rd_nk (by decide), h30, show (3 : Int32) = n3 3 from rfl, n3_mul, n3_add, stE_in _ _ _ (by omega) (by decide), Option.bind_some, rd_ne (by decide), rd_ne (by decide), rd_ne (by decide), rd_ne (by decide), rd_ne (by decide), rd_nk (by decide), h30, stE_in _ _ _ hm (by decide), Option.bind_some, rd_ne (by decide), rd_ne (by decide), rd_ne (by decide), rd_ne (by decide), rd_ne (by decide), rd_ne (by decide), rd_nk (by decide), h30, stE_in _ _ _ hm (by decide), Option.bind_some, rd_ne (by decide), rd_ne (by decide), rd_ne (by decide), rd_ne (by decide), rd_ne (by decide), rd_ne (by decide), rd_ne (by decide), rd_nk (by decide), h30, n3_add, Option.bind_some, rd_eq, n3_sub (by omega)]
                rfl
            · rw [show (if A 30 2 = 40 then 2 else 0 : Int32) = 2 from if_pos (by omega)] at hr
              refine fin_t (T := T) (k := 2) (b := 0) (N := wI T.2.1 30 0 2) (by decide) hW hC (RI.w hR rfl) ?_ ?_ (rd_eq _ _ _ _)
              · rw [La_addNote, Hp_addNote, k1]
                dsimp only
                rw [k2]
                dsimp only
                rw [k3]
                dsimp only
                rw [k4]
                dsimp only
                rw [k5]
                dsimp only
                rw [CA_n hC, if_neg (by rw [l_40, n3_lt (by omega) (by omega)]; exact hm)]
                rfl
              · rw [Rf_addNote, hr, Option.bind_some, rd_eq, if_neg gt0.2.1]
          · rw [g5, if_neg (by decide)] at k5
            refine bad (by rw [g1, if_pos rfl, g2, if_pos rfl, g3, if_pos rfl, g4, if_pos rfl, g5, if_neg (by decide)]) ?_
            rw [La_addNote, Hp_addNote, k1]
            dsimp only
            rw [k2]
            dsimp only
            rw [k3]
            dsimp only
            rw [k4]
            dsimp only
            rw [k5]
            rfl
        · rw [g4, if_neg (by decide)] at k4
          refine bad (by rw [g1, if_pos rfl, g2, if_pos rfl, g3, if_pos rfl, g4]; rfl) ?_
          rw [La_addNote, Hp_addNote, k1]
          dsimp only
          rw [k2]
          dsimp only
          rw [k3]
          dsimp only
          rw [k4]
          rfl
      · rw [g3, if_neg (by decide)] at k3
        refine bad (by rw [g1, if_pos rfl, g2, if_pos rfl, g3]; rfl) ?_
        rw [La_addNote, Hp_addNote, k1]
        dsimp only
        rw [k2]
        dsimp only
        rw [k3]
        rfl
    · rw [g2, if_neg (by decide)] at k2
      refine bad (by rw [g1, if_pos rfl, g2]; rfl) ?_
      rw [La_addNote, Hp_addNote, k1]
      dsimp only
      rw [k2]
      rfl
  · rw [g1, if_neg (by decide)] at k1
    refine bad (by rw [g1]; rfl) ?_
    rw [La_addNote, Hp_addNote, k1]
    rfl
