/-! Columns and systems. -/
/-- the page: texts of the rows, notes, marks, repeats, width -/
abbrev pgT : Type := (Nat → Nat → Nat) × (Nat → Nat)
/-- the width below the syllable s of the row r -/
def bel (X : pgT) (r s : Nat) : Nat := if s < nsS (X.1 r) (X.2 r) then szS (X.1 r) (X.2 r) s else 0
/-- over all verses -/
def wst (X : pgT) (k s : Nat) : Nat := mxN (fun v => bel X (v * 24 + k) s) 4
/-- over the sung phrases below k that are p's -/
def wdp (X : pgT) (L : List Nat) (p s : Nat) (k : Nat) : Nat := mxN (fun j => if L[j]? = some p then wst X j s else 0) k
/-- the column of note i -/
def wdc (X : pgT) (e sl : Nat → Bool) (L : List Nat) (i : Nat) : Nat := (max 2 (if qf e sl i = true then wdp X L (phc e (i + 1) - 1) (slo e sl i) (min L.length 24) else 0)) + 1
def PV (X : pgT) : Prop := ∀ r, VL (X.1 r) (X.2 r)
theorem bel_le {X : pgT} (h : PV X) (r s : Nat) : bel X r s ≤ 12 := by
  unfold bel
  split
  · rename_i hs
    obtain ⟨a, b, -, -⟩ := VL_ns (h r) hs
    exact (VT_sz a b).2.1
  · omega
theorem wst_le {X : pgT} (h : PV X) (k s : Nat) : wst X k s ≤ 12 := mxN_le (fun _ _ => bel_le h _ _)
theorem wdp_le {X : pgT} (h : PV X) (L : List Nat) (p s k : Nat) : wdp X L p s k ≤ 12 := mxN_le (fun j _ => by
  split
  · exact wst_le h _ _
  · omega)
theorem wdc_le {X : pgT} (h : PV X) (e sl : Nat → Bool) (L : List Nat) (i : Nat) : 3 ≤ wdc X e sl L i ∧ wdc X e sl L i ≤ 13 := by
  have := wdp_le h L (phc e (i + 1) - 1) (slo e sl i) (min L.length 24)
  unfold wdc
  split <;> omega
/-! class -/
def VA (X : pgT) (M : hyM) : Prop := ∀ r, r < 96 → VR (X.1 r) (X.2 r) r M
theorem slo_le (e sl : Nat → Bool) (i : Nat) : slo e sl i ≤ i := by
  have := cnt_le (qf e sl) i
  unfold slo; omega
theorem hasSyl_ok {X : pgT} {M : hyM} (h : VA X M) (hp : PV X) {v k s : Nat} (hv : v < 4) (hk : k < 24) (hs : s < 1000) : Ve_hasSyllable (n3 v) (n3 k) (n3 s) M = decide (s < nsS (X.1 (v * 24 + k)) (X.2 (v * 24 + k))) := by
  have hn := ns_le (hp (v * 24 + k))
  unfold Ve_hasSyllable
  rw [l_24, if_neg (by rw [n3_le (by omega) (by omega)]; omega), l_0, if_neg (by rw [n3_lt (by omega) (by omega)]; omega), Ve_syl_ok (h _ (by omega)) hv hk]
  have : (n3 (nsS (X.1 (v * 24 + k)) (X.2 (v * 24 + k))) ≤ n3 s) = (nsS (X.1 (v * 24 + k)) (X.2 (v * 24 + k)) ≤ s) := n3_le (by omega) (by omega)
  simp only [this]
  by_cases c : s < nsS (X.1 (v * 24 + k)) (X.2 (v * 24 + k))
  · simp [c, Nat.not_le.mpr c]
  · simp [c, Nat.not_lt.mp c]
theorem hasSyl_m1 {M : hyM} {v k : Nat} (hk : k < 24) : Ve_hasSyllable (n3 v) (n3 k) (-1) M = false := by
  unfold Ve_hasSyllable
  rw [l_24, if_neg (by rw [n3_le (by omega) (by omega)]; omega), if_pos (by decide)]
theorem widest_ok {X : pgT} {M : hyM} (h : VA X M) (hp : PV X) {k s : Nat} (hk : k < 24) (hs : s < 1000) : Ve_widestBelow (n3 k) (n3 s) M = some (n3 (wst X k s)) := by
  have key := lpE (fun f (q : Int32 × Int32) => Ve_widestBelow_L5 (n3 k) (n3 s) M f q.1 q.2) (fun j => (n3 (mxN (fun v => bel X (v * 24 + k) s) j), n3 j)) 4 (n3 (wst X k s), n3 4) ?_ ?_ hyFu 0 (Nat.zero_le _) (hyFu_big (by omega))
  · dsimp only at key
    rw [Ve_widestBelow]
    rw [show n3 (mxN (fun v => bel X (v * 24 + k) s) 0) = 0 from rfl, show n3 0 = 0 from rfl] at key
    rw [key]
    rfl
  · intro f j hj
    have b1 : mxN (fun v => bel X (v * 24 + k) s) j ≤ 12 := mxN_le (fun _ _ => bel_le hp _ _)
    dsimp only
    rw [Ve_widestBelow_L5, l_4, if_neg (by rw [n3_le (by omega) (by omega)]; omega), hasSyl_ok h hp hj hk hs, l_1, n3_add, mxN]
    congr 1
    by_cases c : s < nsS (X.1 (j * 24 + k)) (X.2 (j * 24 + k))
    · have b2 := (pk_bd (hp _) c).2
      rw [if_pos (by simpa using c), Ve_len_ok (h _ (by omega)) (hp _) hj hk c, jmax_n3 (by omega) (by omega)]
      unfold bel
      rw [if_pos c]
    · rw [if_neg (by simpa using c)]
      unfold bel
      rw [if_neg c, Nat.max_zero]
  · intro f
    dsimp only
    rw [Ve_widestBelow_L5, l_4, if_pos (by rw [n3_le (by omega) (by omega)]; omega)]
    rfl
theorem widest_m1 {M : hyM} {k : Nat} (hk : k < 24) : Ve_widestBelow (n3 k) (-1) M = some (n3 0) := by
  have key := lpE (fun f (q : Int32 × Int32) => Ve_widestBelow_L5 (n3 k) (-1) M f q.1 q.2) (fun j => (n3 0, n3 j)) 4 (n3 0, n3 4) ?_ ?_ hyFu 0 (Nat.zero_le _) (hyFu_big (by omega))
  · dsimp only at key
    rw [Ve_widestBelow]
    rw [show n3 0 = 0 from rfl] at key ⊢
    rw [key]
    rfl
  · intro f j hj
    dsimp only
    rw [Ve_widestBelow_L5, l_4, if_neg (by rw [n3_le (by omega) (by omega)]; omega), hasSyl_m1 hk, if_neg (by decide), l_1, n3_add]
  · intro f
    dsimp only
    rw [Ve_widestBelow_L5, l_4, if_pos (by rw [n3_le (by omega) (by omega)]; omega)]
def ccel (c _ : Nat) : Bool := Nat.ble 21 c && Nat.ble c 24
theorem Co_widen_eq {M : hyM} {i w x : Nat} (hi : i < 40) (hx : M.1 22 i = n3 x) (hx2 : x < 1000) (hw : w < 1000) : Co_widen (n3 i) (n3 w) M = wI M 22 i (n3 (max x w)) := by
  unfold Co_widen Co_widthOf
  rw [atf_in _ hi (by decide), hx, jmax_n3 (by omega) (by omega), putf_in _ _ _ hi (by decide)]
theorem Co_widths_L3 {M : hyM} : ∃ r, Co_findWidths_L3 hyFu (n3 0) M = some r ∧ frm ccel M r.2 ∧ ∀ i, i < 40 → r.2.1 22 i = n3 3 := by
  refine lpI (σ := Int32 × hyM) (fun f s => Co_findWidths_L3 f s.1 s.2) (fun k s => s.1 = n3 k ∧ frm ccel M s.2 ∧ ∀ p, p < k → s.2.1 22 p = n3 3) 40 _ ?_ ?_ hyFu 0 (n3 0, M) (Nat.zero_le _) (hyFu_big (by omega)) ⟨rfl, frm.rf _ _, fun p hp => absurd hp (Nat.not_lt_zero _)⟩
  · rintro f k ⟨x2, M3⟩ hk ⟨rfl, hF, h2⟩
    refine Or.inl ?_
    dsimp only at hF h2 ⊢
    rw [Co_findWidths_L3, l_40, if_neg (by rw [n3_le (by omega) (by omega)]; omega), putf_in _ _ _ hk (by decide), Option.bind_some, l_1, n3_add]
    refine ⟨(_, _), rfl, rfl, hF.w rfl, fun p hp => ?_⟩
    show (wI M3 22 k 3).1 22 p = n3 3
    by_cases c : p = k
    · subst c; rw [rd_eq]; rfl
    · rw [rd_nk c]; exact h2 p (by omega)
  · rintro f ⟨x2, M3⟩ ⟨rfl, hF, h2⟩
    dsimp only at hF h2 ⊢
    rw [Co_findWidths_L3, l_40, if_pos (by rw [n3_le (by omega) (by omega)]; omega)]
    exact ⟨_, rfl, hF, h2⟩
/-- the class behind phrases and order -/
def CP (X : pgT) (e sl : Nat → Bool) (n : Nat) (L : List Nat) (M : hyM) : Prop := n ≤ 40 ∧ PV X ∧ PF e sl n M ∧ OL L (phc e n) M ∧ VA X M ∧ L.length ≤ 80 ∧ ∀ x, x ∈ L → x < phc e n
theorem CP.fr {X : pgT} {e sl : Nat → Bool} {n : Nat} {L : List Nat} {M N : hyM} (h : CP X e sl n L M) (g : frm ccel M N) : CP X e sl n L N := by
  obtain ⟨h1, h2, ⟨a, b, c, d⟩, ⟨o1, o2, o3⟩, v, l, l2⟩ := h
  refine ⟨h1, h2, ⟨by rw [g.2 _ _ rfl]; exact a, fun i hi => by rw [g.2 _ _ rfl]; exact b i hi, fun i hi => by rw [g.2 _ _ rfl]; exact c i hi, fun p hp => ?_⟩, ⟨by rw [g.2 _ _ rfl]; exact o1, fun i x hx => by rw [g.2 _ _ rfl]; exact o2 i x hx, fun p hp => by rw [g.2 _ _ rfl]; exact o3 p hp⟩, fun r hr => ⟨by rw [g.2 _ _ rfl]; exact (v r hr).1, fun j hj => by rw [g.2 _ _ rfl]; exact (v r hr).2 j hj⟩, l, l2⟩
  rw [g.2 _ _ rfl, g.2 _ _ rfl, g.2 _ _ rfl]
  exact d p hp
/-- the width of note i by the sung phrases below k -/
def wdk (X : pgT) (e sl : Nat → Bool) (L : List Nat) (k i : Nat) : Nat := (max 2 (if qf e sl i = true then wdp X L (phc e (i + 1) - 1) (slo e sl i) k else 0)) + 1
theorem wdk_le {X : pgT} (h : PV X) (e sl : Nat → Bool) (L : List Nat) (k i : Nat) : wdk X e sl L k i ≤ 13 := by
  have := wdp_le h L (phc e (i + 1) - 1) (slo e sl i) k
  unfold wdk
  split <;> omega
theorem phraseAt_ok {X : pgT} {e sl : Nat → Bool} {n : Nat} {L : List Nat} {M : hyM} (h : CP X e sl n L M) {k p : Nat} (hk : L[k]? = some p) : Or_phraseAt (n3 k) M = n3 p := by
  obtain ⟨-, -, -, ⟨-, o2, -⟩, -, l, -⟩ := h
  have hkl := (List.getElem?_eq_some_iff.mp hk).1
  unfold Or_phraseAt
  rw [atf_in _ (by omega) (by decide), o2 k p hk]
theorem Co_widths_L61 {X : pgT} {e sl : Nat → Bool} {n : Nat} {L : List Nat} {M : hyM} {k p : Nat} (h : CP X e sl n L M) (hk : k < 24) (hkp : L[k]? = some p)
    (hw : ∀ i, i < n → M.1 22 i = n3 (wdk X e sl L k i)) :
    ∃ r, Co_findWidths_L61 (n3 k) M hyFu (n3 (pfi e n p)) M = some r ∧ frm ccel M r.2 ∧ ∀ i, i < n → r.2.1 22 i = n3 (wdk X e sl L (k + 1) i) := by
  have hn := h.1
  have hp : p < phc e n := h.2.2.2.2.2.2 p (List.mem_of_getElem? hkp)
  have hple := phc_le e n
  obtain ⟨a2, b2, c2, d2⟩ := pla_spec hp
  have hle := pfi_le_pla hp
  have hkl := (List.getElem?_eq_some_iff.mp hkp).1
  refine lpI (σ := Int32 × hyM) (fun f s => Co_findWidths_L61 (n3 k) M f s.1 s.2) (fun j s => s.1 = n3 (pfi e n p + j) ∧ frm ccel M s.2 ∧ ∀ i, i < n → s.2.1 22 i = n3 (if pfi e n p ≤ i ∧ i < pfi e n p + j then wdk X e sl L (k + 1) i else wdk X e sl L k i)) (pla e n p + 1 - pfi e n p) _ ?_ ?_ hyFu 0 (n3 (pfi e n p), M) (Nat.zero_le _) (hyFu_big (by omega)) ⟨rfl, frm.rf _ _, fun i hi => by rw [if_neg (by omega)]; exact hw i hi⟩
  · rintro f j ⟨x10, N⟩ hj ⟨rfl, hF, h2⟩
    refine Or.inl ?_
    dsimp only at hF h2 ⊢
    have hN := h.fr hF
    have hi : pfi e n p + j < n := by omega
    have hph : phc e (pfi e n p + j + 1) = p + 1 := (ph_in hp hi).mpr ⟨by omega, by omega⟩
    have hslo := slo_le e sl (pfi e n p + j)
    have e1 : Ph_lastOf (Or_phraseAt (n3 k) M) N = n3 (pla e n p) := by
      rw [phraseAt_ok h hkp]
      unfold Ph_lastOf
      rw [atf_in _ (by omega) (by decide)]
      exact (hN.2.2.1.2.2.2 p hp).2.1
    have e2 : Ph_syllableOf (n3 (pfi e n p + j)) N = if qf e sl (pfi e n p + j) = true then n3 (slo e sl (pfi e n p + j)) else -1 := by
      unfold Ph_syllableOf
      rw [atf_in _ (by omega) (by decide)]
      exact hN.2.2.1.2.2.1 _ hi
    rw [Co_findWidths_L61, e1, if_neg (by rw [n3_lt (by omega) (by omega)]; omega), e2]
    have hcur := h2 _ hi
    rw [if_neg (by omega)] at hcur
    have hb := wdk_le h.2.1 e sl L k (pfi e n p + j)
    have hws := wst_le h.2.1 k (slo e sl (pfi e n p + j))
    -- the new width, in both cases
    have hnew : ∃ w, Ve_widestBelow (n3 k) (if qf e sl (pfi e n p + j) = true then n3 (slo e sl (pfi e n p + j)) else -1) N = some (n3 w) ∧ w < 100 ∧ max (wdk X e sl L k (pfi e n p + j)) (w + 1) = wdk X e sl L (k + 1) (pfi e n p + j) := by
      unfold wdk
      rw [hph, Nat.add_sub_cancel]
      by_cases c : qf e sl (pfi e n p + j) = true
      · rw [if_pos c, if_pos c, if_pos c]
        refine ⟨_, widest_ok hN.2.2.2.2.1 hN.2.1 hk (by omega), by omega, ?_⟩
        have : wdp X L p (slo e sl (pfi e n p + j)) (k + 1) = max (wdp X L p (slo e sl (pfi e n p + j)) k) (wst X k (slo e sl (pfi e n p + j))) := by
          unfold wdp
          rw [mxN]
          congr 1
          rw [if_pos hkp]
        rw [this]
        omega
      · rw [if_neg c, if_neg c, if_neg c]
        exact ⟨0, widest_m1 hk, by omega, by omega⟩
    obtain ⟨w, f1, f2, f3⟩ := hnew
    rw [f1, Option.bind_some, l_1, n3_add, n3_add, Co_widen_eq (by omega) hcur (by omega) (by omega), f3, Option.bind_some]
    refine ⟨(_, _), rfl, rfl, hF.w rfl, fun i hi2 => ?_⟩
    show (wI N 22 (pfi e n p + j) (n3 (wdk X e sl L (k + 1) (pfi e n p + j)))).1 22 i = n3 (if pfi e n p ≤ i ∧ i < pfi e n p + (j + 1) then wdk X e sl L (k + 1) i else wdk X e sl L k i)
    by_cases c : i = pfi e n p + j
    · subst c
      rw [rd_eq, if_pos (by omega)]
    · rw [rd_nk c, h2 i hi2]
      by_cases c2 : pfi e n p ≤ i ∧ i < pfi e n p + j
      · rw [if_pos c2, if_pos (by omega)]
      · rw [if_neg c2, if_neg (by omega)]
  · rintro f ⟨x10, N⟩ ⟨rfl, hF, h2⟩
    dsimp only at hF h2 ⊢
    have hN := h.fr hF
    have e1 : Ph_lastOf (Or_phraseAt (n3 k) M) N = n3 (pla e n p) := by
      rw [phraseAt_ok h hkp]
      unfold Ph_lastOf
      rw [atf_in _ (by omega) (by decide)]
      exact (hN.2.2.1.2.2.2 p hp).2.1
    rw [Co_findWidths_L61, e1, if_pos (by rw [n3_lt (by omega) (by omega)]; omega)]
    refine ⟨_, rfl, hF, fun i hi => ?_⟩
    rw [h2 i hi]
    by_cases c : pfi e n p ≤ i ∧ i < pfi e n p + (pla e n p + 1 - pfi e n p)
    · rw [if_pos c]
    · rw [if_neg c]
      congr 1
      unfold wdk
      by_cases c2 : qf e sl i = true
      · rw [if_pos c2, if_pos c2]
        congr 2
        unfold wdp
        rw [mxN]
        have : ¬ L[k]? = some (phc e (i + 1) - 1) := by
          intro q
          rw [hkp] at q
          have q2 := Option.some.inj q
          have := phc_pos (e := e) (show 0 < i + 1 by omega)
          have := (ph_in hp hi).mp (by omega)
          omega
        rw [if_neg this, Nat.max_zero]
      · rw [if_neg c2, if_neg c2]
theorem Co_findWidths_ok {X : pgT} {e sl : Nat → Bool} {n : Nat} {L : List Nat} {M : hyM} (h : CP X e sl n L M) :
    ∃ M', Co_findWidths M = some M' ∧ frm ccel M M' ∧ ∀ i, i < n → M'.1 22 i = n3 (wdc X e sl L i) := by
  have hn := h.1
  obtain ⟨⟨y0, N0⟩, a1, a2, a3⟩ := Co_widths_L3 (M := M)
  dsimp only at a2 a3
  have hL := h.2.2.2.2.2.1
  have hw0 : ∀ i, wdk X e sl L 0 i = 3 := by
    intro i
    unfold wdk
    rw [show wdp X L (phc e (i + 1) - 1) (slo e sl i) 0 = 0 from rfl]
    split <;> rfl
  have key := lpI (σ := Int32 × hyM) (fun f s => Co_findWidths_L29 f s.1 s.2) (fun k s => s.1 = n3 k ∧ frm ccel M s.2 ∧ ∀ i, i < n → s.2.1 22 i = n3 (wdk X e sl L k i)) (min L.length 24) (fun r => frm ccel M r.2 ∧ ∀ i, i < n → r.2.1 22 i = n3 (wdc X e sl L i)) ?_ ?_ hyFu 0 (n3 0, N0) (Nat.zero_le _) (hyFu_big (by omega)) ⟨rfl, a2, fun i hi => by rw [hw0]; exact a3 i (by omega)⟩
  · obtain ⟨⟨y, N⟩, e1, e2, e3⟩ := key
    refine ⟨N, ?_, e2, e3⟩
    dsimp only at e1
    rw [Co_findWidths, show (0 : Int32) = n3 0 from rfl, a1, Option.bind_some]
    dsimp only
    rw [e1]
    rfl
  · rintro f k ⟨x6, N⟩ hk ⟨rfl, hF, h2⟩
    refine Or.inl ?_
    dsimp only at hF h2 ⊢
    have hN := h.fr hF
    have hkp : L[k]? = some (L[k]'(by omega)) := List.getElem?_eq_getElem (by omega)
    generalize L[k]'(by omega) = p at hkp
    have hp : p < phc e n := h.2.2.2.2.2.2 p (List.mem_of_getElem? hkp)
    have hple := phc_le e n
    have e1 : (if N.1 18 2 ≤ n3 k then false else !decide (24 ≤ n3 k)) = true := by
      rw [hN.2.2.2.1.1, if_neg (by rw [n3_le (by omega) (by omega)]; omega), l_24]
      have : (n3 24 ≤ n3 k) = (24 ≤ k) := n3_le (by omega) (by omega)
      simp only [this]
      simp; omega
    rw [Co_findWidths_L29, if_pos e1, phraseAt_ok hN hkp]
    unfold Ph_firstOf
    rw [atf_in _ (by omega) (by decide), (hN.2.2.1.2.2.2 p hp).1]
    obtain ⟨⟨y, N2⟩, b1, b2, b3⟩ := Co_widths_L61 hN (by omega) hkp h2
    rw [b1, Option.bind_some, l_1, n3_add]
    exact ⟨(_, _), rfl, rfl, hF.trans b2, b3⟩
  · rintro f ⟨x6, N⟩ ⟨rfl, hF, h2⟩
    dsimp only at hF h2 ⊢
    have hN := h.fr hF
    have e1 : ¬ (if N.1 18 2 ≤ n3 (min L.length 24) then false else !decide (24 ≤ n3 (min L.length 24))) = true := by
      rw [hN.2.2.2.1.1, l_24]
      have : (n3 24 ≤ n3 (min L.length 24)) = (24 ≤ min L.length 24) := n3_le (by omega) (by omega)
      simp only [this]
      by_cases c : L.length ≤ 24
      · rw [if_pos (by rw [n3_le (by omega) (by omega)]; omega)]; decide
      · rw [if_neg (by rw [n3_le (by omega) (by omega)]; omega)]
        simp; omega
    rw [Co_findWidths_L29, if_neg e1]
    exact ⟨_, rfl, hF, h2⟩
