/-! The reference's layout. -/
/-- the reference behind laySung -/
def RX_ (X : pgT) (e sl : Nat → Bool) (n : Nat) (L : List Nat) (M : hyM) : Prop := RP e sl n M ∧ PV X ∧ (∀ r, r < 96 → RT (X.1 r) (X.2 r) r M) ∧ SL L M ∧ L.length ≤ 80 ∧ ∀ x, x ∈ L → x < phc e n
/-- what lay writes behind laySung -/
def lcel (c k : Nat) : Bool := (Nat.beq c 30 && Nat.beq k 30) || (Nat.ble 47 c && Nat.ble c 49)
theorem RX_.fr {X : pgT} {e sl : Nat → Bool} {n : Nat} {L : List Nat} {M N : hyM} (h : RX_ X e sl n L M) (g : frm lcel M N) : RX_ X e sl n L N := by
  obtain ⟨⟨h1, h2, h3, h4, h5, h6, h7⟩, p, t, ⟨s1, s2⟩, l, l2⟩ := h
  refine ⟨⟨h1, by rw [g.2 _ _ rfl]; exact h2, fun i hi => by rw [g.2 _ _ rfl]; exact h3 i hi, fun i hi => by rw [g.2 _ _ rfl]; exact h4 i hi, by rw [g.2 _ _ rfl]; exact h5, fun i hi => by rw [g.2 _ _ rfl]; exact h6 i hi, fun p hp => ?_⟩, p, fun r hr => ⟨by rw [g.2 _ _ rfl]; exact (t r hr).1, fun i => by rw [g.2 _ _ rfl]; exact (t r hr).2 i⟩, ⟨by rw [g.2 _ _ rfl]; exact s1, fun i x hx => by rw [g.2 _ _ rfl]; exact s2 i x hx⟩, l, l2⟩
  rw [g.2 _ _ rfl, g.2 _ _ rfl]
  exact h7 p hp
theorem Rf_col_L38 {X : pgT} {e sl : Nat → Bool} {n : Nat} {L : List Nat} {M : hyM} {i k p b : Nat} (h : RX_ X e sl n L M) (hi : i < n) (hk : k < 24) (hkp : L[k]? = some p) (hb : b ≤ 100) :
    ∃ y, Rf_columnOf_L38 (n3 i) M (n3 (slo e sl i)) (n3 k) hyFu (n3 b) (n3 0) = some (n3 (max b (if p = phc e (i + 1) - 1 then wst X k (slo e sl i) else 0)), y) := by
  have hn := h.1.1
  have hL := h.2.2.2.2.1
  have hkl := (List.getElem?_eq_some_iff.mp hkp).1
  have hp : p < phc e n := h.2.2.2.2.2 p (List.mem_of_getElem? hkp)
  have hple := phc_le e n
  have hsl := slo_le e sl i
  have e46 : M.1 46 k = n3 p := h.2.2.2.1.2 k p hkp
  have e45 : M.1 45 i = n3 (phc e (i + 1) - 1) := h.1.2.2.2.2.2.1 i hi
  have hph := phc_le e (i + 1)
  by_cases c : p = phc e (i + 1) - 1
  · rw [if_pos c]
    refine ⟨n3 4, ?_⟩
    have key := lpE (fun f (s : Int32 × Int32) => Rf_columnOf_L38 (n3 i) M (n3 (slo e sl i)) (n3 k) f s.1 s.2) (fun j => (n3 (max b (mxN (fun v => bel X (v * 24 + k) (slo e sl i)) j)), n3 j)) 4 (n3 (max b (wst X k (slo e sl i))), n3 4) ?_ ?_ hyFu 0 (Nat.zero_le _) (hyFu_big (by omega))
    · dsimp only at key
      rw [show mxN (fun v => bel X (v * 24 + k) (slo e sl i)) 0 = 0 from rfl, Nat.max_zero] at key
      exact key
    · intro f j hj
      have b1 : mxN (fun v => bel X (v * 24 + k) (slo e sl i)) j ≤ 12 := mxN_le (fun _ _ => bel_le h.2.1 _ _)
      have hT := h.2.2.1 (j * 24 + k) (by omega)
      have hV := h.2.1 (j * 24 + k)
      have hns := ns_le hV
      have erow : 24 * n3 j + n3 k = n3 (j * 24 + k) := by rw [l_24, n3_mul, n3_add, Nat.mul_comm]
      dsimp only
      rw [Rf_columnOf_L38, l_4, if_neg (by rw [n3_le (by omega) (by omega)]; omega), ldE_in _ (by omega) (by decide), Option.bind_some, e46, ldE_in _ (by omega) (by decide), Option.bind_some, e45, if_pos (by rw [c]), erow, Rf_counts0_ok hT hV (by omega), Option.bind_some, ite_le (by omega) (by omega), n3_s]
      rw [mxN]
      by_cases d : nsS (X.1 (j * 24 + k)) (X.2 (j * 24 + k)) ≤ slo e sl i
      · rw [if_pos d, if_pos (by rw [l_0, n3_le (by omega) (by omega)]; omega)]
        unfold bel
        rw [if_neg (show ¬ slo e sl i < nsS (X.1 (j * 24 + k)) (X.2 (j * 24 + k)) by omega), Nat.max_zero]
      · have hsz := (pk_bd hV (show slo e sl i < nsS (X.1 (j * 24 + k)) (X.2 (j * 24 + k)) by omega)).2
        rw [if_neg d, Rf_sizeOf_ok hT hV (by omega) (by omega), Option.bind_some, ite_le (by omega) (by omega)]
        unfold bel at b1 ⊢
        rw [if_pos (show slo e sl i < nsS (X.1 (j * 24 + k)) (X.2 (j * 24 + k)) by omega)]
        congr 1
        split
        · congr 1; omega
        · congr 1; omega
    · intro f
      dsimp only
      rw [Rf_columnOf_L38, l_4, if_pos (by rw [n3_le (by omega) (by omega)]; omega)]
      rfl
  · rw [if_neg c, Nat.max_zero]
    refine ⟨n3 0, ?_⟩
    rw [show hyFu = 99999 + 1 from rfl, Rf_columnOf_L38, l_4, if_neg (by rw [n3_le (by omega) (by omega)]; omega), ldE_in _ (by omega) (by decide), Option.bind_some, e46, ldE_in _ (by omega) (by decide), Option.bind_some, e45, if_neg (by rw [n3_eq (by omega) (by omega)]; exact c)]
theorem Rf_columnOf_ok {X : pgT} {e sl : Nat → Bool} {n : Nat} {L : List Nat} {M : hyM} {i : Nat} (h : RX_ X e sl n L M) (hi : i < n) : Rf_columnOf (n3 i) M = some (n3 (wdc X e sl L i)) := by
  have hn := h.1.1
  have hL := h.2.2.2.2.1
  have hsl := slo_le e sl i
  have hbd : ∀ k, wdp X L (phc e (i + 1) - 1) (slo e sl i) k ≤ 12 := fun k => wdp_le h.2.1 _ _ _ _
  have hcond : ∀ k, k < 1000 → ((if M.1 30 25 ≤ n3 k then false else !decide (24 ≤ n3 k)) = true ↔ k < min L.length 24) := by
    intro k hk
    rw [h.2.2.2.1.1, l_24, dec_le (by omega) (by omega), ite_le (by omega) (by omega)]
    by_cases c : L.length ≤ k
    · rw [if_pos c]; constructor
      · intro q; cases q
      · intro q; omega
    · rw [if_neg c]
      by_cases d : 24 ≤ k
      · simp [d]; omega
      · simp [d]; omega
  rw [Rf_columnOf, Rf_syllableOf_ok h.1 hi, Option.bind_some]
  rw [show (2 : Int32) = n3 2 from rfl, show (0 : Int32) = n3 0 from rfl]
  by_cases q : qf e sl i = true
  · have key := lpI (σ := Int32 × Int32) (fun f s => Rf_columnOf_L11 (n3 i) M (n3 (slo e sl i)) f s.1 s.2) (fun k s => s.1 = n3 (max 2 (wdp X L (phc e (i + 1) - 1) (slo e sl i) k)) ∧ s.2 = n3 k) (min L.length 24) (fun r => r.1 = n3 (max 2 (wdp X L (phc e (i + 1) - 1) (slo e sl i) (min L.length 24)))) ?_ ?_ hyFu 0 (n3 2, n3 0) (Nat.zero_le _) (hyFu_big (by omega)) ⟨rfl, rfl⟩
    · obtain ⟨⟨a, b⟩, e1, e2⟩ := key
      dsimp only at e1 e2
      rw [e1, Option.bind_some]
      show some (a + 1) = _
      rw [e2, n3_s]
      unfold wdc
      rw [if_pos q]
    · rintro f k ⟨x2, x3⟩ hk ⟨rfl, rfl⟩
      refine Or.inl ?_
      dsimp only
      have hb := hbd k
      have hkp : L[k]? = some (L[k]'(by omega)) := List.getElem?_eq_getElem (by omega)
      generalize L[k]'(by omega) = p at hkp
      obtain ⟨y, hy⟩ := Rf_col_L38 (b := max 2 (wdp X L (phc e (i + 1) - 1) (slo e sl i) k)) h hi (by omega) hkp (by omega)
      rw [Rf_columnOf_L11, if_pos ((hcond k (by omega)).mpr hk), Rf_isSlurred_ok h.1 hi, Option.bind_some, q, if_neg (by decide), show (0 : Int32) = n3 0 from rfl, hy, Option.bind_some]
      dsimp only
      rw [n3_s]
      refine ⟨(_, _), rfl, ?_, rfl⟩
      show n3 _ = n3 _
      congr 1
      rw [show wdp X L (phc e (i + 1) - 1) (slo e sl i) (k + 1) = max (wdp X L (phc e (i + 1) - 1) (slo e sl i) k) (if L[k]? = some (phc e (i + 1) - 1) then wst X k (slo e sl i) else 0) from rfl, hkp]
      by_cases c : p = phc e (i + 1) - 1
      · rw [if_pos c, if_pos (by rw [c])]; omega
      · rw [if_neg c, if_neg (fun w => c (Option.some.inj w))]; omega
    · rintro f ⟨x2, x3⟩ ⟨rfl, rfl⟩
      dsimp only
      rw [Rf_columnOf_L11, if_neg (fun w => by have := (hcond _ (by omega)).mp w; omega)]
      exact ⟨_, rfl, rfl⟩
  · have : ∃ y, Rf_columnOf_L11 (n3 i) M (n3 (slo e sl i)) hyFu (n3 2) (n3 0) = some (n3 2, y) := by
      refine ⟨n3 0, ?_⟩
      have q2 : qf e sl i = false := by simpa using q
      rw [show hyFu = 99999 + 1 from rfl, Rf_columnOf_L11]
      by_cases c : (if M.1 30 25 ≤ n3 0 then false else !decide (24 ≤ n3 0)) = true
      · rw [if_pos c, Rf_isSlurred_ok h.1 hi, Option.bind_some, q2]; rfl
      · rw [if_neg c]
    obtain ⟨y, hy⟩ := this
    rw [hy, Option.bind_some]
    dsimp only
    rw [n3_s]
    unfold wdc
    rw [if_neg q]
    rfl
/-- the reference's layout -/
def RLy (w : Nat → Nat) (e : Nat → Bool) (n pg : Nat) (M : hyM) : Prop :=
  (∀ i, i < n → M.1 47 i = n3 (w i)) ∧ (∀ p, p < phc e n → M.1 48 p = n3 (phw w e n p) ∧ M.1 49 p = n3 (ssf (phw w e n) pg (p + 1)).1) ∧ M.1 30 30 = n3 (nsy (phw w e n) pg (phc e n))
theorem Rf_lay_L6_ok {X : pgT} {e sl : Nat → Bool} {n : Nat} {L : List Nat} {M : hyM} (h : RX_ X e sl n L M) :
    ∃ r, Rf_lay_L6 hyFu (n3 0) M = some r ∧ frm lcel M r.2 ∧ ∀ i, i < n → r.2.1 47 i = n3 (wdc X e sl L i) := by
  have hn := h.1.1
  refine lpI (σ := Int32 × hyM) (fun f s => Rf_lay_L6 f s.1 s.2) (fun k s => s.1 = n3 k ∧ frm lcel M s.2 ∧ ∀ i, i < k → s.2.1 47 i = n3 (wdc X e sl L i)) n _ ?_ ?_ hyFu 0 (n3 0, M) (Nat.zero_le _) (hyFu_big (by omega)) ⟨rfl, frm.rf _ _, fun i hi => absurd hi (Nat.not_lt_zero _)⟩
  · rintro f k ⟨x2, N⟩ hk ⟨rfl, hF, h2⟩
    refine Or.inl ?_
    dsimp only at hF h2 ⊢
    have hN := h.fr hF
    rw [Rf_lay_L6, hN.1.2.1, if_neg (by rw [n3_le (by omega) (by omega)]; omega), Rf_columnOf_ok hN hk, Option.bind_some, stE_in _ _ _ (by omega) (by decide), Option.bind_some, n3_s]
    refine ⟨(n3 (k + 1), wI N 47 k (n3 (wdc X e sl L k))), rfl, rfl, hF.w rfl, fun i hi => ?_⟩
    dsimp only
    by_cases c : i = k
    · subst c; rw [rd_eq]
    · rw [rd_nk c]; exact h2 i (by omega)
  · rintro f ⟨x2, N⟩ ⟨rfl, hF, h2⟩
    dsimp only at hF h2 ⊢
    have hN := h.fr hF
    rw [Rf_lay_L6, hN.1.2.1, if_pos (by rw [n3_le (by omega) (by omega)]; omega)]
    exact ⟨_, rfl, hF, h2⟩
theorem Rf_lay_L62_ok {w : Nat → Nat} {a b k : Nat} {M : hyM} (hb : b < 40) (ha : a ≤ b + 1) (hk : k < 40) (h44 : M.1 44 k = n3 b) (h47 : ∀ i, i ≤ b → M.1 47 i = n3 (w i)) (h48 : M.1 48 k = n3 0) :
    ∃ r, Rf_lay_L62 (n3 k) hyFu (n3 a) M = some r ∧ frm lcel M r.2 ∧ r.2.1 48 k = n3 (smN w (b + 1) - smN w a) ∧ r.2.1 30 30 = M.1 30 30 ∧ (∀ i, r.2.1 47 i = M.1 47 i) ∧ (∀ i, r.2.1 49 i = M.1 49 i) ∧ ∀ i, i ≠ k → r.2.1 48 i = M.1 48 i := by
  refine lpI (σ := Int32 × hyM) (fun f s => Rf_lay_L62 (n3 k) f s.1 s.2) (fun j s => s.1 = n3 (a + j) ∧ frm lcel M s.2 ∧ s.2.1 48 k = n3 (smN w (a + j) - smN w a) ∧ s.2.1 30 30 = M.1 30 30 ∧ (∀ i, s.2.1 47 i = M.1 47 i) ∧ (∀ i, s.2.1 49 i = M.1 49 i) ∧ ∀ i, i ≠ k → s.2.1 48 i = M.1 48 i) (b + 1 - a) _ ?_ ?_ hyFu 0 (n3 a, M) (Nat.zero_le _) (hyFu_big (by omega)) ⟨rfl, frm.rf _ _, by rw [Nat.add_zero, Nat.sub_self]; exact h48, rfl, fun _ => rfl, fun _ => rfl, fun _ _ => rfl⟩
  · rintro f j ⟨x15, N⟩ hj ⟨rfl, hF, h1, h2, h3, h4, h5⟩
    refine Or.inl ?_
    dsimp only at hF h1 h2 h3 h4 h5 ⊢
    have g44 : N.1 44 k = n3 b := by rw [hF.2 _ _ rfl]; exact h44
    have hm := smN_mono w (show a ≤ a + j by omega)
    have e1 : n3 (smN w (a + j) - smN w a) + n3 (w (a + j)) = n3 (smN w (a + (j + 1)) - smN w a) := by
      rw [n3_add, show a + (j + 1) = a + j + 1 from rfl, smN]
      congr 1; omega
    rw [Rf_lay_L62, ldE_in _ hk (by decide), Option.bind_some, g44, if_neg (by rw [n3_lt (by omega) (by omega)]; omega), ldE_in _ hk (by decide), Option.bind_some, h1, ldE_in _ (by omega) (by decide), Option.bind_some, h3, h47 _ (by omega), e1, stE_in _ _ _ hk (by decide), Option.bind_some, n3_s]
    refine ⟨(n3 (a + j + 1), wI N 48 k (n3 (smN w (a + (j + 1)) - smN w a))), rfl, rfl, hF.w rfl, rd_eq _ _ _ _, h2, h3, h4, fun i hi => ?_⟩
    dsimp only
    rw [rd_nk hi]; exact h5 i hi
  · rintro f ⟨x15, N⟩ ⟨rfl, hF, h1, h2, h3, h4, h5⟩
    dsimp only at hF h1 h2 h3 h4 h5 ⊢
    have g44 : N.1 44 k = n3 b := by rw [hF.2 _ _ rfl]; exact h44
    rw [show a + (b + 1 - a) = b + 1 by omega] at h1 ⊢
    rw [Rf_lay_L62, ldE_in _ hk (by decide), Option.bind_some, g44, if_pos (by rw [n3_lt (by omega) (by omega)]; omega)]
    exact ⟨_, rfl, hF, h1, h2, h3, h4, h5⟩
theorem Rf_lay_L40_ok {w : Nat → Nat} {X : pgT} {e sl : Nat → Bool} {n pg : Nat} {L : List Nat} {M : hyM} (h : RX_ X e sl n L M) (hpg : pg ≤ 1000) (h13 : M.1 30 13 = n3 pg) (hw : ∀ i, i < n → M.1 47 i = n3 (w i)) (hw13 : ∀ i, i < n → w i ≤ 13) (h30 : M.1 30 30 = 0) :
    ∃ r, Rf_lay_L40 hyFu (n3 0) (n3 0) M = some r ∧ frm lcel M r.2.2 ∧ RLy w e n pg r.2.2 := by
  have hn := h.1.1
  have hple := phc_le e n
  refine lpI (σ := Int32 × Int32 × hyM) (fun f s => Rf_lay_L40 f s.1 s.2.1 s.2.2) (fun k s => s.1 = n3 (ssf (phw w e n) pg k).2 ∧ s.2.1 = n3 k ∧ frm lcel M s.2.2 ∧ (∀ i, i < n → s.2.2.1 47 i = n3 (w i)) ∧ (∀ p, p < k → s.2.2.1 48 p = n3 (phw w e n p) ∧ s.2.2.1 49 p = n3 (ssf (phw w e n) pg (p + 1)).1) ∧ s.2.2.1 30 30 = n3 (nsy (phw w e n) pg k)) (phc e n) _ ?_ ?_ hyFu 0 (n3 0, n3 0, M) (Nat.zero_le _) (hyFu_big (by omega)) ⟨rfl, rfl, frm.rf _ _, hw, fun p hp => absurd hp (Nat.not_lt_zero _), h30⟩
  · rintro f k ⟨x9, x10, N⟩ hk ⟨rfl, rfl, hF, h1, h2, h3⟩
    refine Or.inl ?_
    dsimp only at hF h1 h2 h3 ⊢
    have hN := h.fr hF
    have h21 : N.1 30 21 = n3 (phc e n) := hN.1.2.2.2.2.1
    have hla := (pla_spec hk).1
    have hle := pfi_le_pla hk
    have hb := ssf_bd' (pg := pg) hn hw13 (show k ≤ phc e n by omega)
    have hpw := phw_le hn hk hw13
    have hfl := hN.1.2.2.2.2.2.2 k hk
    have g13 : N.1 30 13 = n3 pg := by rw [hF.2 _ _ rfl]; exact h13
    obtain ⟨⟨y, N2⟩, a1, a2, a3, a4, a5, a6, a7⟩ := Rf_lay_L62_ok (w := w) (a := pfi e n k) (b := pla e n k) (k := k) (M := wI N 48 k 0) (by omega) (by omega) (by omega) (by rw [rd_ne (by decide)]; exact hfl.2) (fun i hi => by rw [rd_ne (by decide)]; exact h1 i (by omega)) (by rw [rd_eq]; rfl)
    dsimp only at a2 a3 a4 a5 a6 a7
    have hF2 : frm lcel M N2 := (hF.w (c := 48) (k := k) rfl).trans a2
    have b30 : N2.1 30 30 = n3 (nsy (phw w e n) pg k) := by rw [a4, rd_ne (by decide)]; exact h3
    have b13 : N2.1 30 13 = n3 pg := by rw [hF2.2 _ _ rfl]; exact h13
    have b48 : N2.1 48 k = n3 (phw w e n k) := a3
    have fin : ∀ s1 u1 : Nat, (ssf (phw w e n) pg (k + 1)) = (s1, u1) → ∀ N3 : hyM, N3 = wI (wI N2 30 30 (n3 (s1 + 1))) 49 k (n3 s1) ∨ (N3 = wI N2 49 k (n3 s1) ∧ N2.1 30 30 = n3 (s1 + 1)) →
        n3 u1 = n3 (ssf (phw w e n) pg (k + 1)).2 ∧ n3 (k + 1) = n3 (k + 1) ∧ frm lcel M N3 ∧ (∀ i, i < n → N3.1 47 i = n3 (w i)) ∧ (∀ p, p < k + 1 → N3.1 48 p = n3 (phw w e n p) ∧ N3.1 49 p = n3 (ssf (phw w e n) pg (p + 1)).1) ∧ N3.1 30 30 = n3 (nsy (phw w e n) pg (k + 1)) := by
      intro s1 u1 hs N3 hN3
      have hns : nsy (phw w e n) pg (k + 1) = s1 + 1 := by unfold nsy; rw [if_neg (by omega), hs]
      have r47 : ∀ i, N3.1 47 i = N2.1 47 i := by
        intro i
        rcases hN3 with rfl | ⟨rfl, -⟩
        · rw [rd_ne (by decide), rd_ne (by decide)]
        · rw [rd_ne (by decide)]
      have r48 : ∀ i, N3.1 48 i = N2.1 48 i := by
        intro i
        rcases hN3 with rfl | ⟨rfl, -⟩
        · rw [rd_ne (by decide), rd_ne (by decide)]
        · rw [rd_ne (by decide)]
      have r49 : ∀ i, N3.1 49 i = if i = k then n3 s1 else N2.1 49 i := by
        intro i
        rcases hN3 with rfl | ⟨rfl, -⟩
        · by_cases c : i = k
          · subst c; rw [rd_eq, if_pos rfl]
          · rw [rd_nk c, if_neg c, rd_ne (by decide)]
        · by_cases c : i = k
          · subst c; rw [rd_eq, if_pos rfl]
          · rw [rd_nk c, if_neg c]
      have r30 : N3.1 30 30 = n3 (s1 + 1) := by
        rcases hN3 with rfl | ⟨rfl, q⟩
        · rw [rd_ne (by decide), rd_eq]
        · rw [rd_ne (by decide)]; exact q
      refine ⟨by rw [hs], rfl, ?_, fun i hi => ?_, fun p hp => ?_, by rw [hns]; exact r30⟩
      · rcases hN3 with rfl | ⟨rfl, -⟩
        · exact (hF2.w rfl).w rfl
        · exact hF2.w rfl
      · rw [r47, a5, rd_ne (by decide)]; exact h1 i hi
      · rw [r48, r49]
        by_cases c : p = k
        · subst c; rw [if_pos rfl, b48, hs]; exact ⟨rfl, rfl⟩
        · rw [if_neg c, a7 p c, a6, rd_nk c, rd_ne (by decide)]; exact h2 p (by omega)
    rw [Rf_lay_L40, h21, if_neg (by rw [n3_le (by omega) (by omega)]; omega), stE_in _ _ _ (by omega) (by decide), Option.bind_some, ldE_in _ (by omega) (by decide), Option.bind_some, rd_ne (show 43 ≠ 48 by decide), hfl.1, a1, Option.bind_some]
    dsimp only
    by_cases c0 : k = 0
    · have hs : ssf (phw w e n) pg (k + 1) = (0, phw w e n k) := by rw [ssf, if_pos c0, c0]
      have hn0 : nsy (phw w e n) pg k = 0 := by unfold nsy; rw [if_pos c0]
      rw [if_pos (by rw [l_0, n3_eq (by omega) (by omega)]; exact c0), Option.bind_some, ldE_in _ (by omega) (by decide), Option.bind_some, b30, hn0, n3_s, rd_ne (show 48 ≠ 30 by decide), b48, rd_eq]
      rw [show n3 (0 + 1) - 1 = n3 0 from rfl, stE_in _ _ _ (by omega) (by decide), Option.bind_some, n3_s, l_0, n3_add, Nat.zero_add]
      exact ⟨(n3 (phw w e n k), n3 (k + 1), wI (wI N2 30 30 (n3 (0 + 1))) 49 k (n3 0)), rfl, fin 0 _ hs _ (Or.inl rfl)⟩
    · have hnk : nsy (phw w e n) pg k = (ssf (phw w e n) pg k).1 + 1 := by unfold nsy; rw [if_neg c0]
      rw [if_neg (by rw [l_0, n3_eq (by omega) (by omega)]; exact c0), ldE_in _ (by omega) (by decide), Option.bind_some, b48, n3_add, b13, ite_le (by omega) (by omega)]
      by_cases d : (ssf (phw w e n) pg k).2 + phw w e n k ≤ pg
      · have hs : ssf (phw w e n) pg (k + 1) = ((ssf (phw w e n) pg k).1, (ssf (phw w e n) pg k).2 + phw w e n k) := by rw [ssf, if_neg c0, if_neg (by omega)]
        rw [if_pos d, Option.bind_some, b30, hnk, show n3 ((ssf (phw w e n) pg k).1 + 1) - 1 = n3 (ssf (phw w e n) pg k).1 by rw [l_1, n3_sub (by omega)]; rfl, stE_in _ _ _ (by omega) (by decide), Option.bind_some, n3_s, n3_add]
        exact ⟨(_, n3 (k + 1), wI N2 49 k (n3 (ssf (phw w e n) pg k).1)), rfl, fin _ _ hs _ (Or.inr ⟨rfl, by rw [b30, hnk]⟩)⟩
      · have hs : ssf (phw w e n) pg (k + 1) = ((ssf (phw w e n) pg k).1 + 1, phw w e n k) := by rw [ssf, if_neg c0, if_pos (by omega)]
        rw [if_neg d, Option.bind_some, ldE_in _ (by omega) (by decide), Option.bind_some, b30, hnk, n3_s, rd_ne (show 48 ≠ 30 by decide), b48, rd_eq]
        rw [show n3 ((ssf (phw w e n) pg k).1 + 1 + 1) - 1 = n3 ((ssf (phw w e n) pg k).1 + 1) by rw [l_1, n3_sub (by omega)]; rfl, stE_in _ _ _ (by omega) (by decide), Option.bind_some, n3_s, l_0, n3_add, Nat.zero_add]
        exact ⟨(n3 (phw w e n k), n3 (k + 1), wI (wI N2 30 30 (n3 ((ssf (phw w e n) pg k).1 + 1 + 1))) 49 k (n3 ((ssf (phw w e n) pg k).1 + 1))), rfl, fin _ _ hs _ (Or.inl rfl)⟩
  · rintro f ⟨x9, x10, N⟩ ⟨rfl, rfl, hF, h1, h2, h3⟩
    dsimp only at hF h1 h2 h3 ⊢
    have hN := h.fr hF
    rw [Rf_lay_L40, hN.1.2.2.2.2.1, if_pos (by rw [n3_le (by omega) (by omega)]; omega)]
    exact ⟨_, rfl, hF, h1, h2, h3⟩
