/-! A line that is set; the first error of a line. -/
theorem lgo_2 (t : Nat → Nat) (d : Nat) : ∀ k s, s ≤ 12 → (lgo t d k s).2 ≤ 12 := by
  induction d with
  | zero => intro k s h; exact h
  | succ d ih =>
    intro k s h
    rw [lgo]
    cases e : stp (t k) s with
    | none => exact h
    | some s' =>
      dsimp only
      apply ih
      unfold stp at e
      split at e
      · split at e
        · cases e; omega
        · cases e
      · split at e
        · cases e; omega
        · cases e
theorem sep_cg {t t' : Nat → Nat} {L : Nat} (h : ∀ i, i < L → t i = t' i) {i : Nat} (hi : i < L) : sep t i = sep t' i := by unfold sep; rw [h i hi]
theorem cse_cg {t t' : Nat → Nat} {L : Nat} (h : ∀ i, i < L → t i = t' i) {k : Nat} (hk : k ≤ L) : cse t k = cse t' k := cnt_congr (fun i hi => sep_cg h (by omega))
theorem bc_cg {t t' : Nat → Nat} {L : Nat} (h : ∀ i, i < L → t i = t' i) {k : Nat} (hk : k ≤ L) : bc t k = bc t' k := by
  induction k with
  | zero => rfl
  | succ k ih => rw [bc, bc, sep_cg h (by omega), ih (by omega)]
theorem VT_cg {t t' : Nat → Nat} {L : Nat} (h : ∀ i, i < L → t i = t' i) (hv : VT t L) : VT t' L := by
  refine ⟨fun j hj => ?_, by rw [← bc_cg h (Nat.le_refl _)]; exact hv.2⟩
  have := hv.1 j hj
  unfold oks at this ⊢
  rw [← h j hj, ← bc_cg h (by omega)]
  exact this
theorem VL_cg {t t' : Nat → Nat} {L : Nat} (h : ∀ i, i < L → t i = t' i) (hv : VL t L) (hb : ∀ i, t' i < 128) : VL t' L := ⟨hv.1, hv.2.1.elim Or.inl (fun q => Or.inr (VT_cg h q)), hb⟩
theorem ns_cg {t t' : Nat → Nat} {L : Nat} (h : ∀ i, i < L → t i = t' i) : nsS t L = nsS t' L := by unfold nsS; rw [cse_cg h (Nat.le_refl _)]
theorem sepE_cg {t t' : Nat → Nat} {L : Nat} (h : ∀ i, i < L → t i = t' i) {i : Nat} (hi : i ≤ L) : sepE t L i = sepE t' L i := by
  unfold sepE
  by_cases e : i = L
  · subst e; rw [show Nat.beq i i = true from Nat.beq_refl i, Bool.true_or, Bool.true_or]
  · rw [sep_cg h (by omega)]
theorem ep_cg {t t' : Nat → Nat} {L : Nat} (h : ∀ i, i < L → t i = t' i) {j : Nat} (hj : j ≤ cse t L) : ep t L j = ep t' L j := by
  obtain ⟨a, b, c⟩ := ep_spec hj
  have := ep_of (t := t') (L := L) (i := ep t L j) a (by rw [← sepE_cg h a]; exact b)
  rw [← cse_cg h a, c] at this
  exact this.symm
theorem pk_cg {t t' : Nat → Nat} {L : Nat} (h : ∀ i, i < L → t i = t' i) (hv : VT t L) {j : Nat} (hj : j ≤ cse t L) : pkS t L j = pkS t' L j := by
  have e := ep_cg h hj
  obtain ⟨a, b, c⟩ := ep_spec hj
  obtain ⟨d, -, -⟩ := VT_sep hv a b
  unfold pkS sgS szS lkS
  rw [← e, ← bc_cg h a, h (bc t (ep t L j)) (by omega)]
  by_cases q : ep t L j < L
  · rw [h _ q]
  · rw [decide_eq_false q]; rfl
theorem VR_cg {t t' : Nat → Nat} {L : Nat} (h : ∀ i, i < L → t i = t' i) (hv : VL t L) {r : Nat} {M : hyM} (g : VR t L r M) : VR t' L r M := by
  refine ⟨by rw [← ns_cg h]; exact g.1, fun j hj => ?_⟩
  rw [← ns_cg h] at hj
  obtain ⟨a, b, -, -⟩ := VL_ns hv hj
  rw [← pk_cg h a b]
  exact g.2 j hj/-- the state behind a line that is set -/
def slA (A : aS) (r : Nat) : aS := fun c k => if c = 39 ∧ 60 * r ≤ k ∧ k < 60 * r + A 30 19 then A 42 (k - 60 * r) else if c = 38 ∧ k = r then A 30 19 else if c = 30 ∧ k = 19 then 0 else A c k
theorem slA_39 (A : aS) (r k : Nat) : slA A r 39 k = if 60 * r ≤ k ∧ k < 60 * r + A 30 19 then A 42 (k - 60 * r) else A 39 k := by
  unfold slA
  by_cases q : 60 * r ≤ k ∧ k < 60 * r + A 30 19
  · rw [if_pos ⟨rfl, q⟩, if_pos q]
  · rw [if_neg (fun z => q z.2), if_neg q]; rfl
theorem slA_38 (A : aS) (r k : Nat) : slA A r 38 k = if k = r then A 30 19 else A 38 k := by
  unfold slA
  by_cases q : k = r
  · rw [if_neg (fun z => absurd z.1 (by decide)), if_pos ⟨rfl, q⟩, if_pos q]
  · rw [if_neg (fun z => absurd z.1 (by decide)), if_neg (fun z => q z.2), if_neg q]; rfl
theorem slA_o (A : aS) (r : Nat) {c k : Nat} (h1 : c ≠ 39) (h2 : c ≠ 38) (h3 : ¬ (c = 30 ∧ k = 19)) : slA A r c k = A c k := by
  unfold slA
  rw [if_neg (fun z => h1 z.1), if_neg (fun z => h2 z.1), if_neg h3]
/-- the row itself -/
theorem sl_row (A : aS) (r : Nat) : ∀ i, i < A 30 19 → A 42 i = (XA (slA A r)).1 r i := fun i hi => by
  show _ = slA A r 39 (60 * r + i)
  rw [slA_39, if_pos (by omega)]
  congr 1
  omega
/-- the others -/
theorem sl_oth {A : aS} (hW : WFA A) {r q : Nat} (h : q ≠ r) : ∀ i, i < A 38 q → (XA A).1 q i = (XA (slA A r)).1 q i := fun i hi => by
  show A 39 (60 * q + i) = slA A r 39 (60 * q + i)
  have hb : A 38 q ≤ 60 := (hW.2.2.2.1 q).1
  have hL := hW.2.2.2.2.2.1
  rw [slA_39, if_neg (by omega)]
theorem slA_b {A : aS} (hW : WFA A) (r k : Nat) : slA A r 39 k < 128 := by
  rw [slA_39]
  split
  · exact hW.2.2.2.2.2.2 _
  · have := (hW.2.2.2.1 0).2.2 k
    have e : (XA A).1 0 k = A 39 (60 * 0 + k) := rfl
    rw [e, Nat.mul_zero, Nat.zero_add] at this
    exact this
theorem slA_PV {A : aS} (hW : WFA A) (r : Nat) (hc : VT (A 42) (A 30 19)) : PV (XA (slA A r)) := by
  intro q
  have hb : ∀ i, (XA (slA A r)).1 q i < 128 := fun i => slA_b hW r _
  have e2 : (XA (slA A r)).2 q = if q = r then A 30 19 else A 38 q := slA_38 A r q
  rw [e2]
  by_cases c : q = r
  · rw [if_pos c]
    subst c
    exact VL_cg (sl_row A q) ⟨hW.2.2.2.2.2.1, Or.inr hc, hW.2.2.2.2.2.2⟩ hb
  · rw [if_neg c]
    exact VL_cg (sl_oth hW c) (hW.2.2.2.1 q) hb
theorem slA_WF {A : aS} (hW : WFA A) (r : Nat) (hc : VT (A 42) (A 30 19)) : WFA (slA A r) :=
  ⟨hW.1, hW.2.1, hW.2.2.1, slA_PV hW r hc, hW.2.2.2.2.1, Nat.zero_le _, hW.2.2.2.2.2.2⟩
theorem CA_inb {A : aS} {M : hyM} (hW : WFA A) (hC : CA A M) : inb_ (A 42) (A 30 19) M := ⟨hW.2.2.2.2.2.1, hC.1.2.2.2.2.2.2.1, hC.1.2.2.2.2.2.2.2, hW.2.2.2.2.2.2⟩
