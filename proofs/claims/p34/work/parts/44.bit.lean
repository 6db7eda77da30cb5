/-! Bits of a mask. -/
theorem bt_sh : ∀ j : Fin 40, ((((n3 j.val).toInt64.toUInt64 &&& Int64.toUInt64 63) % 64 : UInt64)).toBitVec.toNat = j.val := by decide +kernel
theorem bt_one : ∀ i j : Fin 40, (jlshl 1 (n3 i.val)).toUInt64.toBitVec.getLsbD j.val = decide (j.val = i.val) := by decide +kernel
theorem bt_not : ∀ i j : Fin 40, ((jlshl 1 (n3 i.val)) ^^^ (-1)).toUInt64.toBitVec.getLsbD j.val = !decide (j.val = i.val) := by decide +kernel
theorem lg_cmp0 (v : Int64) : (lg_cmp v 0 = 0) ↔ v = 0 := by
  unfold lg_cmp
  constructor
  · intro h
    by_cases c : v > 0
    · rw [if_pos c] at h; exact absurd h (by decide)
    · rw [if_neg c] at h
      by_cases d : v = 0
      · exact d
      · rw [if_neg d] at h; exact absurd h (by decide)
  · rintro rfl
    decide
theorem hbt_bit (m : Int64) {j : Nat} (hj : j < 40) : hbt m j = m.toUInt64.toBitVec.getLsbD j := by
  have hs := bt_sh ⟨j, hj⟩
  have e1 : (jlushr m (n3 j) &&& 1).toUInt64.toBitVec = (m.toUInt64.toBitVec >>> j) &&& 1#64 := by
    show (m.toUInt64.toBitVec >>> (((n3 j).toInt64.toUInt64 &&& Int64.toUInt64 63) % 64 : UInt64).toBitVec) &&& 1#64 = _
    rw [BitVec.ushiftRight_eq', hs]
  have e2 : ((jlushr m (n3 j) &&& 1) = 0) ↔ (m.toUInt64.toBitVec >>> j) &&& 1#64 = 0#64 := by
    rw [← e1]
    constructor
    · intro h; rw [h]; rfl
    · intro h
      exact congrArg UInt64.toInt64 (UInt64.toBitVec_inj.mp h : (jlushr m (n3 j) &&& 1).toUInt64 = (0 : Int64).toUInt64)
  unfold hbt
  rw [show decide (lg_cmp (jlushr m (n3 j) &&& 1) 0 = 0) = decide ((m.toUInt64.toBitVec >>> j) &&& 1#64 = 0#64) from decide_eq_decide.mpr ((lg_cmp0 _).trans e2)]
  have e3 : (m.toUInt64.toBitVec >>> j) &&& 1#64 = BitVec.setWidth 64 (BitVec.ofBool (m.toUInt64.toBitVec.getLsbD j)) := by
    rw [BitVec.and_one_eq_setWidth_ofBool_getLsbD, BitVec.getLsbD_ushiftRight, Nat.add_zero]
  rw [e3]
  cases m.toUInt64.toBitVec.getLsbD j <;> decide
theorem hbt_with (m : Int64) (b : Bool) (M : hyM) {i j : Nat} (hi : i < 40) (hj : j < 40) : hbt (Hp_withBit m (n3 i) b M) j = if j = i then b else hbt m j := by
  rw [hbt_bit _ hj, hbt_bit _ hj]
  unfold Hp_withBit
  cases b
  · rw [if_neg (by decide)]
    show (m.toUInt64.toBitVec &&& ((jlshl 1 (n3 i)) ^^^ (-1)).toUInt64.toBitVec).getLsbD j = _
    rw [BitVec.getLsbD_and, bt_not ⟨i, hi⟩ ⟨j, hj⟩]
    by_cases e : j = i
    · rw [if_pos e]; simp [e]
    · rw [if_neg e]; simp [e]
  · rw [if_pos rfl]
    show (m.toUInt64.toBitVec ||| (jlshl 1 (n3 i)).toUInt64.toBitVec).getLsbD j = _
    rw [BitVec.getLsbD_or, bt_one ⟨i, hi⟩ ⟨j, hj⟩]
    by_cases e : j = i
    · rw [if_pos e]; simp [e]
    · rw [if_neg e]; simp [e]
/-! a note more -/
theorem uw {M : hyM} {B : aS} {c c' : Nat} (k v : Nat) (h : ∀ j, M.1 c j = n3 (B c' j)) : ∀ j, (wI M c k (n3 v)).1 c j = n3 (uA B c' k v c' j) := fun j => by
  rw [rd_wI]
  unfold uA
  by_cases q : j = k
  · rw [if_pos ⟨rfl, q⟩, if_pos ⟨rfl, q⟩]
  · rw [if_neg (fun z => q z.2), if_neg (fun z => q z.2)]; exact h j
theorem WR_mono {m m' : Nat} {q : rpT} (h : WR m q) (hm : m ≤ m') : WR m' q :=
  ⟨h.1, fun i hi => ⟨(h.2.1 i hi).1, by have := (h.2.1 i hi).2.1; omega, (h.2.1 i hi).2.2⟩, h.2.2⟩
theorem phc_cg {e e' : Nat → Bool} {n : Nat} (h : ∀ i, i < n → e i = e' i) : ∀ k, k ≤ n + 1 → phc e k = phc e' k := by
  intro k hk
  unfold phc
  apply cnt_congr
  intro i hi
  cases i with
  | zero => rfl
  | succ i => rw [stt_s, stt_s]; exact h i (by omega)
def adA (A : aS) (v p0 p1 p2 p3 : Nat) : aS := uA (uA (uA (uA (uA (uA (uA (uA A 31 (A 30 2) v) 32 (4 * A 30 2) p0) 32 (4 * A 30 2 + 1) p1) 32 (4 * A 30 2 + 2) p2) 32 (4 * A 30 2 + 3) p3) 33 (A 30 2) 0) 34 (A 30 2) 0) 30 2 (A 30 2 + 1)
theorem adA_b (A : aS) (v p0 p1 p2 p3 i : Nat) : sA (adA A v p0 p1 p2 p3) i = (if i = A 30 2 then false else sA A i) ∧ eA (adA A v p0 p1 p2 p3) i = (if i = A 30 2 then false else eA A i) := by
  have e1 : adA A v p0 p1 p2 p3 33 i = uA A 33 (A 30 2) 0 33 i := rfl
  have e2 : adA A v p0 p1 p2 p3 34 i = uA A 34 (A 30 2) 0 34 i := rfl
  unfold sA eA
  rw [e1, e2]
  unfold uA
  by_cases q : i = A 30 2
  · rw [if_pos q, if_pos q, if_pos ⟨rfl, q⟩, if_pos ⟨rfl, q⟩]; exact ⟨rfl, rfl⟩
  · rw [if_neg q, if_neg q, if_neg (fun z => q z.2), if_neg (fun z => q z.2)]; exact ⟨rfl, rfl⟩
theorem adA_WF {A : aS} (hW : WFA A) {v p0 p1 p2 p3 : Nat} (hn : A 30 2 < 40) (hv : 1 ≤ v ∧ v ≤ 8) (h0 : 36 ≤ p0 ∧ p0 ≤ 84) (h1 : 36 ≤ p1 ∧ p1 ≤ 84) (h2 : 36 ≤ p2 ∧ p2 ≤ 84) (h3 : 36 ≤ p3 ∧ p3 ≤ 84) : WFA (adA A v p0 p1 p2 p3) := by
  have hm : mA A ≤ mA (adA A v p0 p1 p2 p3) := by
    show phc (eA A) (A 30 2) ≤ phc (eA (adA A v p0 p1 p2 p3)) (A 30 2 + 1)
    rw [phc_cg (e := eA A) (e' := eA (adA A v p0 p1 p2 p3)) (n := A 30 2) (fun i hi => by rw [(adA_b A v p0 p1 p2 p3 i).2, if_neg (by omega)]) (A 30 2) (by omega)]
    exact phc_mono (by omega)
  refine ⟨⟨show A 30 2 + 1 ≤ 40 from hn, hW.1.2.1, fun i hi => ?_, fun i hi => ?_, fun i => ?_⟩, ⟨WR_mono hW.2.1.1 hm, hW.2.1.2⟩, hW.2.2.1, hW.2.2.2.1, hW.2.2.2.2.1, hW.2.2.2.2.2⟩
  · have hi2 : i < A 30 2 + 1 := hi
    show 1 ≤ uA A 31 (A 30 2) v 31 i ∧ uA A 31 (A 30 2) v 31 i ≤ 8
    unfold uA
    by_cases q : i = A 30 2
    · rw [if_pos ⟨rfl, q⟩]; exact hv
    · rw [if_neg (fun z => q z.2)]; exact hW.1.2.2.1 i (by omega)
  · have hi2 : i < 4 * (A 30 2 + 1) := hi
    show 36 ≤ uA (uA (uA (uA A 32 (4 * A 30 2) p0) 32 (4 * A 30 2 + 1) p1) 32 (4 * A 30 2 + 2) p2) 32 (4 * A 30 2 + 3) p3 32 i ∧ uA (uA (uA (uA A 32 (4 * A 30 2) p0) 32 (4 * A 30 2 + 1) p1) 32 (4 * A 30 2 + 2) p2) 32 (4 * A 30 2 + 3) p3 32 i ≤ 84
    by_cases q3 : i = 4 * A 30 2 + 3
    · subst q3; rw [uA_eq]; exact h3
    · rw [uA_nk q3]
      by_cases q2 : i = 4 * A 30 2 + 2
      · subst q2; rw [uA_eq]; exact h2
      · rw [uA_nk q2]
        by_cases q1 : i = 4 * A 30 2 + 1
        · subst q1; rw [uA_eq]; exact h1
        · rw [uA_nk q1]
          by_cases q0 : i = 4 * A 30 2
          · subst q0; rw [uA_eq]; exact h0
          · rw [uA_nk q0]; exact hW.1.2.2.2.1 i (by omega)
  · show uA A 33 (A 30 2) 0 33 i ≤ 1 ∧ uA A 34 (A 30 2) 0 34 i ≤ 1
    unfold uA
    by_cases q : i = A 30 2
    · rw [if_pos ⟨rfl, q⟩, if_pos ⟨rfl, q⟩]; exact ⟨Nat.zero_le _, Nat.zero_le _⟩
    · rw [if_neg (fun z => q z.2), if_neg (fun z => q z.2)]; exact hW.1.2.2.2.2 i
