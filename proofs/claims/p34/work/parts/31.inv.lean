/-! The state that both sides hold: numbers of the reference's lasting places. -/
abbrev aS : Type := Nat → Nat → Nat
def eA (A : aS) (i : Nat) : Bool := Nat.beq (A 34 i) 1
def sA (A : aS) (i : Nat) : Bool := Nat.beq (A 33 i) 1
def rpA (A : aS) : rpT := (A 30 7, A 35, A 36, A 37)
def XA (A : aS) : pgT := (fun r i => A 39 (60 * r + i), A 38)
def mA (A : aS) : Nat := phc (eA A) (A 30 2)
def LA (A : aS) : List Nat := orl (rpA A) (mA A)
def wA (A : aS) (i : Nat) : Nat := wdc (XA A) (eA A) (sA A) (LA A) i
def WFn (A : aS) : Prop := A 30 2 ≤ 40 ∧ A 30 1 < 12 ∧ (∀ i, i < A 30 2 → 1 ≤ A 31 i ∧ A 31 i ≤ 8) ∧ (∀ i, i < 4 * A 30 2 → 36 ≤ A 32 i ∧ A 32 i ≤ 84) ∧ ∀ i, A 33 i ≤ 1 ∧ A 34 i ≤ 1
def WFr (A : aS) : Prop := WR (mA A) (rpA A) ∧ ∀ i, A 35 i < 1000 ∧ A 36 i < 1000 ∧ A 37 i < 1000
def WFb (A : aS) : Prop := 2 ≤ A 30 11 ∧ A 30 11 ≤ 24 ∧ A 30 12 < A 30 11 ∧ 20 ≤ A 30 13 ∧ A 30 13 ≤ 200
def WFm (A : aS) : Prop := A 30 16 ≤ 8 ∧ ∀ m, m < A 30 16 → 1 ≤ A 40 m ∧ A 40 m ≤ 24 ∧ ∀ j, j < A 40 m → 1 ≤ A 41 (24 * m + j) ∧ A 41 (24 * m + j) ≤ 20
def WFi (A : aS) : Prop := A 30 19 ≤ 60 ∧ ∀ i, A 42 i < 128
def WFA (A : aS) : Prop := WFn A ∧ WFr A ∧ WFb A ∧ PV (XA A) ∧ WFm A ∧ WFi A
/-- one place of the state changed -/
def uA (A : aS) (c k v : Nat) : aS := fun c' k' => if c' = c ∧ k' = k then v else A c' k'
theorem uA_eq (A : aS) (c k v : Nat) : uA A c k v c k = v := if_pos ⟨rfl, rfl⟩
theorem uA_ne {A : aS} {c k v c' k' : Nat} (h : c' ≠ c) : uA A c k v c' k' = A c' k' := if_neg (fun q => h q.1)
theorem uA_nk {A : aS} {c k v c' k' : Nat} (h : k' ≠ k) : uA A c k v c' k' = A c' k' := if_neg (fun q => h q.2)
theorem bI_of {v : Nat} (h : v ≤ 1) : n3 v = bI (Nat.beq v 1) := by
  rcases Nat.lt_or_ge v 1 with c | c
  · have : v = 0 := by omega
    subst this; rfl
  · have : v = 1 := by omega
    subst this; rfl
theorem mA_le (A : aS) : mA A ≤ A 30 2 := phc_le _ _
theorem LA_len {A : aS} (h : WFA A) : (LA A).length ≤ 80 := by
  have h1 := orl_len h.2.1.1 (mA A)
  have h2 := mA_le A
  have h3 := h.1.1
  unfold LA; omega
theorem LA_mem {A : aS} (h : WFA A) {x : Nat} (hx : x ∈ LA A) : x < mA A := orl_mem h.2.1.1 hx
theorem wA_le {A : aS} (h : WFA A) (i : Nat) : 3 ≤ wA A i ∧ wA A i ≤ 13 := wdc_le h.2.2.2.1 _ _ _ _
/-! the class -/
/-- the class's base: all but what it lays out; its repeats are q -/
def CBq (A : aS) (q : rpT) (M : hyM) : Prop :=
  (M.1 0 9 = n3 (A 30 13) ∧ M.1 1 4 = n3 (A 30 2) ∧ M.1 1 5 = n3 (A 30 1) ∧ (∀ i, M.1 2 i = n3 (A 31 i)) ∧ (∀ i, M.1 3 i = n3 (A 32 i))) ∧
  ((∀ i, i < 40 → hbt (M.2 1 2) i = (decide (i < A 30 2) && sA A i)) ∧ (∀ i, i < 40 → hbt (M.2 1 3) i = (decide (i < A 30 2) && eA A i))) ∧
  (M.1 4 0 = n3 (A 30 11) ∧ M.1 4 1 = n3 (A 30 12)) ∧ (M.1 5 3 = n3 q.1 ∧ RQ q M) ∧ VA (XA A) M ∧
  (M.1 25 2 = n3 (A 30 16) ∧ ∀ m, m < A 30 16 → M.1 27 m = n3 (A 40 m) ∧ ∀ j, j < A 40 m → M.1 26 (m * 24 + j) = n3 (A 41 (24 * m + j))) ∧
  (M.1 28 1 = n3 (A 30 19) ∧ ∀ i, M.1 29 i = n3 (A 42 i))
def CB (A : aS) (M : hyM) : Prop := CBq A (rpA A) M
def CD (A : aS) (M : hyM) : Prop := PF (eA A) (sA A) (A 30 2) M ∧ OL (LA A) (mA A) M ∧ CLy (wA A) (eA A) (A 30 2) (A 30 13) M
/-- what layOut may write -/
def yce (c _ : Nat) : Bool := (Nat.ble 5 c && Nat.ble c 8) || (Nat.ble 12 c && Nat.ble c 24)
theorem CBq.fr {A : aS} {q : rpT} {M N : hyM} (h : CBq A q M) (g : frm yce M N) (q2 : rpT) (h5 : N.1 5 3 = n3 q2.1) (hq : RQ q2 N) : CBq A q2 N := by
  obtain ⟨⟨a1, a2, a3, a4, a5⟩, ⟨b1, b2⟩, ⟨c1, c2⟩, -, v, ⟨m1, m2⟩, ⟨i1, i2⟩⟩ := h
  refine ⟨⟨by rw [g.2 _ _ rfl]; exact a1, by rw [g.2 _ _ rfl]; exact a2, by rw [g.2 _ _ rfl]; exact a3, fun i => by rw [g.2 _ _ rfl]; exact a4 i, fun i => by rw [g.2 _ _ rfl]; exact a5 i⟩, ⟨by rw [g.1]; exact b1, by rw [g.1]; exact b2⟩, ⟨by rw [g.2 _ _ rfl]; exact c1, by rw [g.2 _ _ rfl]; exact c2⟩, ⟨h5, hq⟩, fun r hr => ⟨by rw [g.2 _ _ rfl]; exact (v r hr).1, fun j hj => by rw [g.2 _ _ rfl]; exact (v r hr).2 j hj⟩, ⟨by rw [g.2 _ _ rfl]; exact m1, fun m hm => ⟨by rw [g.2 _ _ rfl]; exact (m2 m hm).1, fun j hj => by rw [g.2 _ _ rfl]; exact (m2 m hm).2 j hj⟩⟩, ⟨by rw [g.2 _ _ rfl]; exact i1, fun i => by rw [g.2 _ _ rfl]; exact i2 i⟩⟩
theorem frm_yce1 {c k : Nat} (h : yce c k = false) : pcel c k = false ∧ kcel c k = false ∧ ocel c k = false ∧ ccel c k = false := by
  unfold yce at h
  rw [Bool.or_eq_false_iff] at h
  obtain ⟨h1, h2⟩ := h
  have hA : ∀ a b : Nat, (Nat.ble a c && Nat.ble c b) = false ↔ ¬ (a ≤ c ∧ c ≤ b) := by
    intro a b
    constructor
    · intro q ⟨q1, q2⟩
      rw [Nat.ble_eq_true_of_le q1, Nat.ble_eq_true_of_le q2] at q; cases q
    · intro q
      cases q3 : (Nat.ble a c && Nat.ble c b) with
      | false => rfl
      | true =>
        rw [Bool.and_eq_true] at q3
        exact absurd ⟨Nat.le_of_ble_eq_true q3.1, Nat.le_of_ble_eq_true q3.2⟩ q
  rw [hA] at h1 h2
  unfold pcel kcel ocel ccel
  refine ⟨(hA _ _).mpr ?_, (hA _ _).mpr ?_, (hA _ _).mpr ?_, (hA _ _).mpr ?_⟩ <;> omega
theorem kst_bd {m : Nat} {q : rpT} (h : ∀ i, q.2.2.1 i < 1000) : ∀ k i, (kst m q k).2.2.1 i < 1000 := by
  intro k
  induction k with
  | zero => exact h
  | succ k ih =>
    intro i
    by_cases c : (kst m q k).2.2.1 k < m
    · rw [kst_t c]
      dsimp only
      by_cases d : i = (kst m q k).1
      · rw [d, updN_eq]; exact ih _
      · rw [updN_ne d]; exact ih _
    · rw [kst_f c]; exact ih _
theorem Hp_layOut_ok {A : aS} {q : rpT} {M : hyM} (hW : WFA A) (hB : CBq A q M) (hq1 : q.1 ≤ 3) (hq2 : ∀ i, q.2.2.1 i < 1000) (hk : kept (mA A) q = rpA A) :
    ∃ M', Hp_layOut M = some M' ∧ CB A M' ∧ CD A M' ∧ frm yce M M' := by
  obtain ⟨⟨a1, a2, a3, a4, a5⟩, ⟨b1, b2⟩, -, ⟨c1, c2⟩, v, -, -⟩ := id hB
  have hn := hW.1.1
  have hm := mA_le A
  obtain ⟨M1, e1, f1, p1⟩ := Ph_find_ok (e := eA A) (sl := sA A) (n := A 30 2) (M := M) hn a2 (fun i hi => by rw [b1 i (by omega)]; simp [hi]) (fun i hi => by rw [b2 i (by omega)]; simp [hi])
  have g53 : M1.1 5 3 = n3 q.1 := by rw [f1.2 _ _ rfl]; exact c1
  have gq : RQ q M1 := ⟨fun i => by rw [f1.2 _ _ rfl]; exact c2.1 i, fun i => by rw [f1.2 _ _ rfl]; exact c2.2.1 i, fun i => by rw [f1.2 _ _ rfl]; exact c2.2.2 i⟩
  obtain ⟨M2, e2, f2, k1, k2⟩ := Re_keepWithin_ok (m := mA A) (q := q) (M := M1) (by omega) hq1 g53 gq (fun k i _ => kst_bd hq2 k i)
  rw [hk] at k1 k2
  have hF2 : frm yce M M2 := (f1.mono (fun c k h => (frm_yce1 h).1)).trans (f2.mono (fun c k h => (frm_yce1 h).2.1))
  have p2 : PF (eA A) (sA A) (A 30 2) M2 := by
    obtain ⟨x1, x2, x3, x4⟩ := p1
    refine ⟨by rw [f2.2 _ _ rfl]; exact x1, fun i hi => by rw [f2.2 _ _ rfl]; exact x2 i hi, fun i hi => by rw [f2.2 _ _ rfl]; exact x3 i hi, fun p hp => ?_⟩
    rw [f2.2 _ _ rfl, f2.2 _ _ rfl, f2.2 _ _ rfl]; exact x4 p hp
  obtain ⟨M3, e3, o3, f3⟩ := Or_find_ok (m := mA A) (q := rpA A) (M := M2) hW.2.1.1 (by omega) k1 k2
  have hF3 : frm yce M M3 := hF2.trans (f3.mono (fun c k h => (frm_yce1 h).2.2.1))
  have p3 : PF (eA A) (sA A) (A 30 2) M3 := by
    obtain ⟨x1, x2, x3, x4⟩ := p2
    refine ⟨by rw [f3.2 _ _ rfl]; exact x1, fun i hi => by rw [f3.2 _ _ rfl]; exact x2 i hi, fun i hi => by rw [f3.2 _ _ rfl]; exact x3 i hi, fun p hp => ?_⟩
    rw [f3.2 _ _ rfl, f3.2 _ _ rfl, f3.2 _ _ rfl]; exact x4 p hp
  have v3 : VA (XA A) M3 := fun r hr => ⟨by rw [hF3.2 _ _ rfl]; exact (v r hr).1, fun j hj => by rw [hF3.2 _ _ rfl]; exact (v r hr).2 j hj⟩
  have cp3 : CP (XA A) (eA A) (sA A) (A 30 2) (LA A) M3 := ⟨hn, hW.2.2.2.1, p3, o3, v3, LA_len hW, fun x hx => LA_mem hW hx⟩
  obtain ⟨M4, e4, f4, w4⟩ := Co_findWidths_ok cp3
  have cp4 := cp3.fr f4
  have hF4 : frm yce M M4 := hF3.trans (f4.mono (fun c k h => (frm_yce1 h).2.2.2))
  have g09 : M4.1 0 9 = n3 (A 30 13) := by rw [hF4.2 _ _ rfl]; exact a1
  obtain ⟨M5, e5, f5, y5⟩ := Co_findSystems_ok (w := wA A) (pg := A 30 13) (M := M4) hn (by have := hW.2.2.1.2.2.2.2; omega) cp4.2.2.1 w4 (fun i _ => (wA_le hW i).2)
  have cp5 := cp4.fr f5
  have hF5 : frm yce M M5 := hF4.trans (f5.mono (fun c k h => (frm_yce1 h).2.2.2))
  have g125 : M1.1 12 5 = n3 (mA A) := p1.1
  have g125' : M2.1 12 5 = n3 (mA A) := p2.1
  refine ⟨M5, ?_, hB.fr hF5 (rpA A) ?_ ?_, ⟨cp5.2.2.1, cp5.2.2.2.1, y5⟩, hF5⟩
  · rw [Hp_layOut, e1, Option.bind_some, g125, e2, Option.bind_some, g125', e3, Option.bind_some, e4, Option.bind_some, g09, e5, Option.bind_some]
  · rw [f5.2 _ _ rfl, f4.2 _ _ rfl, f3.2 _ _ rfl]; exact k1
  · exact ⟨fun i => by rw [f5.2 _ _ rfl, f4.2 _ _ rfl, f3.2 _ _ rfl]; exact k2.1 i, fun i => by rw [f5.2 _ _ rfl, f4.2 _ _ rfl, f3.2 _ _ rfl]; exact k2.2.1 i, fun i => by rw [f5.2 _ _ rfl, f4.2 _ _ rfl, f3.2 _ _ rfl]; exact k2.2.2 i⟩
