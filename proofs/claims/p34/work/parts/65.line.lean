/-! The law's line is always true. -/
theorem lgo_app {t : Nat → Nat} : ∀ d k s s', lgo t d k s = (k + d, s') → lgo t (d + 1) k s = (match stp (t (k + d)) s' with | some s2 => (k + d + 1, s2) | none => (k + d, s')) := by
  intro d
  induction d with
  | zero =>
    intro k s s' h
    have h2 : s = s' := congrArg Prod.snd h
    subst h2
    rw [lgo, Nat.add_zero]
    cases stp (t k) s with
    | none => rfl
    | some x => rfl
  | succ d ih =>
    intro k s s' h
    rw [lgo] at h ⊢
    cases e : stp (t k) s with
    | none =>
      rw [e] at h
      have := congrArg Prod.fst h
      dsimp only at this
      omega
    | some x =>
      rw [e] at h
      dsimp only at h ⊢
      have := ih (k + 1) x s' (by rw [h]; congr 1; omega)
      rw [this, show k + 1 + d = k + (d + 1) by omega]
theorem lgo_cg {t t' : Nat → Nat} : ∀ d k s, (∀ i, k ≤ i → i < k + d → t i = t' i) → lgo t d k s = lgo t' d k s := by
  intro d
  induction d with
  | zero => intro k s _; rfl
  | succ d ih =>
    intro k s h
    rw [lgo, lgo, h k (Nat.le_refl _) (by omega)]
    cases stp (t' k) s with
    | none => rfl
    | some x => exact ih (k + 1) x (fun i h1 h2 => h i (by omega) (by omega))
/-- a text of j syllables, each with its separator, and s letters behind them -/
def TX (t : Nat → Nat) (L j s : Nat) (sz : Nat → Nat) (en : Nat → Bool) : Prop := lgo t L 0 0 = (L, s) ∧ cse t L = j ∧ bc t L + s = L ∧ L ≤ 10 * j + s ∧ ∀ i, i < j → ∃ p, p < L ∧ sep t p = true ∧ cse t p = i ∧ 0 < sz i ∧ p - bc t p = sz i ∧ t (bc t p) = 97 + sz i ∧ Nat.beq (t p) 45 = !en i
theorem TX_0 (t : Nat → Nat) (sz : Nat → Nat) (en : Nat → Bool) : TX t 0 0 0 sz en := ⟨rfl, rfl, rfl, Nat.le_refl _, fun _ h => absurd h (Nat.not_lt_zero _)⟩
theorem TX_old {t t' : Nat → Nat} {L j s : Nat} {sz : Nat → Nat} {en : Nat → Bool} (h : TX t L j s sz en) (hg : ∀ i, i < L → t' i = t i) {i : Nat} (hi : i < j) : ∃ p, p < L + 1 ∧ sep t' p = true ∧ cse t' p = i ∧ 0 < sz i ∧ p - bc t' p = sz i ∧ t' (bc t' p) = 97 + sz i ∧ Nat.beq (t' p) 45 = !en i := by
  obtain ⟨p, p1, p2, p3, p4, p5, p6, p7⟩ := h.2.2.2.2 i hi
  have hb := bc_le t p
  refine ⟨p, by omega, ?_, ?_, p4, ?_, ?_, ?_⟩
  · rw [sep_cg hg p1]; exact p2
  · rw [cse_cg hg (Nat.le_of_lt p1)]; exact p3
  · rw [bc_cg hg (Nat.le_of_lt p1)]; exact p5
  · rw [bc_cg hg (Nat.le_of_lt p1), hg _ (by omega)]; exact p6
  · rw [hg _ p1]; exact p7
theorem TX_l {t t' : Nat → Nat} {L j s c : Nat} {sz : Nat → Nat} {en : Nat → Bool} (h : TX t L j s sz en) (hg : ∀ i, i < L → t' i = t i) (hc : t' L = c) (hl : ltr c = true) (hs : s < 12) : TX t' (L + 1) j (s + 1) sz en ∧ bc t' (L + 1) = bc t L := by
  have hsep : sep t' L = false := by unfold sep; rw [hc, hl]; rfl
  have hbc : bc t' (L + 1) = bc t L := by rw [bc, hsep, if_neg (by decide), bc_cg hg (Nat.le_refl _)]
  refine ⟨⟨?_, ?_, ?_, ?_, fun i hi => TX_old h hg hi⟩, hbc⟩
  · have e := lgo_cg (t := t') (t' := t) L 0 0 (fun i _ h2 => hg i (by omega))
    rw [h.1] at e
    rw [lgo_app L 0 0 s (by rw [e, Nat.zero_add]), Nat.zero_add, hc]
    unfold stp
    rw [hl, if_pos rfl, if_pos hs]
  · rw [cse_s, hsep, cse_cg hg (Nat.le_refl _), h.2.1]; rfl
  · have := h.2.2.1
    rw [hbc]; omega
  · have := h.2.2.2.1
    omega
theorem TX_s {t t' : Nat → Nat} {L j s c : Nat} {sz : Nat → Nat} {en : Nat → Bool} (h : TX t L j s sz en) (hg : ∀ i, i < L → t' i = t i) (hc : t' L = c) (hl : c = 32 ∨ c = 45) (hs : 0 < s) (hs9 : s ≤ 9) (hf : t (bc t L) = 97 + s) {b : Bool} (hb : Nat.beq c 45 = !b) : TX t' (L + 1) (j + 1) 0 (updN sz j s) (fun i => if i = j then b else en i) := by
  have hl2 : ltr c = false := by
    rcases hl with e | e
    · subst e; decide
    · subst e; decide
  have hsep : sep t' L = true := by unfold sep; rw [hc, hl2]; rfl
  have hbc : bc t' (L + 1) = L + 1 := by rw [bc, hsep, if_pos rfl]
  have hb0 := h.2.2.1
  refine ⟨?_, ?_, ?_, ?_, fun i hi => ?_⟩
  · have e := lgo_cg (t := t') (t' := t) L 0 0 (fun i _ h2 => hg i (by omega))
    rw [h.1] at e
    rw [lgo_app L 0 0 s (by rw [e, Nat.zero_add]), Nat.zero_add, hc]
    unfold stp
    rw [hl2, if_neg (by decide), if_pos ⟨hl, hs⟩]
  · rw [cse_s, hsep, cse_cg hg (Nat.le_refl _), h.2.1]; rfl
  · rw [hbc]
  · have := h.2.2.2.1
    omega
  · by_cases e : i = j
    · subst e
      rw [updN_eq]
      dsimp only
      rw [if_pos rfl, ← hb]
      refine ⟨L, by omega, hsep, ?_, hs, ?_, ?_, by rw [hc]⟩
      · rw [cse_cg hg (Nat.le_refl _), h.2.1]
      · rw [bc_cg hg (Nat.le_refl _)]; omega
      · rw [bc_cg hg (Nat.le_refl _), hg _ (by omega)]; exact hf
    · rw [updN_ne e]
      dsimp only
      rw [if_neg e]
      exact TX_old h hg (by omega)
theorem TX_e {t : Nat → Nat} {L j z W : Nat} {sz : Nat → Nat} {en : Nat → Bool} (h : TX t L j z sz en) (hw : WB W j sz en) (hz16 : ∀ i, sz i < 16) (hz : 0 < z) (hz9 : z ≤ 9) (hf : t (bc t L) = 97 + z) (hj : j < 6) :
    LIw (n3 (W ||| ((z <<< (4 * j)) ||| (1 <<< (24 + j))))) t L ∧ nsS t L = j + 1 ∧ cpl t L = true := by
  obtain ⟨h1, h2, h3, h4, h5⟩ := h
  have hns : nsS t L = j + 1 := by unfold nsS; rw [if_neg (by omega), h2]
  have hcp : cpl t L = true := by unfold cpl; rw [h1]; simp [hz]
  refine ⟨⟨_, j + 1, updN sz j z, fun i => if i = j then true else en i, rfl, WB_push (b := true) hw hj (by omega), hns, by omega, fun i => ?_, fun i hi => ?_⟩, hns, hcp⟩
  · by_cases e : i = j
    · subst e; rw [updN_eq]; omega
    · rw [updN_ne e]; exact hz16 i
  · by_cases e : i = j
    · subst e
      have hep : ep t L (cse t L) = L := ep_of (Nat.le_refl _) (by simp [sepE])
      rw [h2] at hep
      rw [updN_eq]
      dsimp only
      rw [if_pos rfl]
      unfold szS sgS lkS
      rw [hep, hf]
      refine ⟨hz, by omega, rfl, ?_⟩
      simp
    · obtain ⟨p, p1, p2, p3, p4, p5, p6, p7⟩ := h5 i (by omega)
      have hep : ep t L (cse t p) = p := ep_of (Nat.le_of_lt p1) (by simp [sepE, p2])
      rw [p3] at hep
      rw [updN_ne e]
      dsimp only
      rw [if_neg e]
      unfold szS sgS lkS
      rw [hep, decide_eq_true p1, Bool.true_and]
      exact ⟨p4, p5, p6, p7⟩
theorem LIw_cg {w : Int32} {t t' : Nat → Nat} {L : Nat} (h : ∀ i, i < L → t i = t' i) (hv : VL t L) (g : LIw w t L) : LIw w t' L := by
  obtain ⟨W, k, sz, en, e, hb, a, b, c, d⟩ := g
  refine ⟨W, k, sz, en, e, hb, by rw [← ns_cg h]; exact a, b, c, fun j hj => ?_⟩
  obtain ⟨d1, d2, d3, d4⟩ := d j hj
  obtain ⟨v1, v2, -, -⟩ := VL_ns hv (show j < nsS t L by omega)
  have ee := ep_cg h v2
  obtain ⟨x1, x2, x3⟩ := ep_spec v2
  obtain ⟨y1, -, -⟩ := VT_sep v1 x1 x2
  unfold szS at d2 ⊢
  unfold sgS at d3 ⊢
  unfold lkS at d4 ⊢
  rw [← ee, ← bc_cg h x1]
  refine ⟨d1, d2, by rw [← h _ (by omega)]; exact d3, ?_⟩
  rw [← d4]
  by_cases q : ep t L j < L
  · rw [h _ q]
  · rw [decide_eq_false q]; rfl
theorem k_97 : ∀ r : Fin 9, 97 + (1 + n3 r.val) = n3 (97 + (1 + r.val)) := by decide +kernel
/-- both copies of the law's syllable -/
theorem sylb_ok {A : aS} {C M : hyM} (hW : WFA A) (hC : CA A C) (a2 : Int32) {r L j : Nat} {sz : Nat → Nat} {en : Nat → Bool} (hr : r < 9) (hj : j ≤ 5) (hL : A 30 19 = L) (hT : TX (A 42) L j 0 sz en)
    (g : Nat → Int32 → Int32 → hyM → Option ((Bool × hyM × hyM) ⊕ (Int32 × Int32 × hyM)))
    (hg : ∀ f a b C, g (f + 1) a b C = (if (1 + n3 r) ≤ b then some (.inr (a, b, C)) else (if b = 0 then (rtM (Hp_append (97 + (1 + n3 r)) C)).bind fun (v57, C58) => (if v57 = (a + 1) then g f (a + 1) (b + 1) C58 else some (.inl (false, C58, M))) else (La_at (a2 >>> (b &&& 31)) 9 M).bind fun v51 => (rtM (Hp_append ((if v51 = 0 then 39 else 77) : Int32) C)).bind fun (v53, C54) => (if v53 = (a + 1) then g f (a + 1) (b + 1) C54 else some (.inl (false, C54, M)))))) :
    ∃ B C' y, g hyFu (n3 L) 0 C = some (.inr (n3 (L + (1 + r)), y, C')) ∧ WFA B ∧ CA B C' ∧ sI A B ∧ B 30 19 = L + (1 + r) ∧ TX (B 42) (L + (1 + r)) j (1 + r) sz en ∧ B 42 (bc (B 42) (L + (1 + r))) = 97 + (1 + r) := by
  have hL10 := hT.2.2.2.1
  have key := lpI (σ := Int32 × Int32 × hyM) (fun f s => g f s.1 s.2.1 s.2.2)
    (fun i s => ∃ B, s.1 = n3 (L + i) ∧ s.2.1 = n3 i ∧ WFA B ∧ CA B s.2.2 ∧ sI A B ∧ B 30 19 = L + i ∧ TX (B 42) (L + i) j i sz en ∧ (0 < i → B 42 (bc (B 42) (L + i)) = 97 + (1 + r))) (1 + r)
    (fun r' => ∃ B C' y, r' = .inr (n3 (L + (1 + r)), y, C') ∧ WFA B ∧ CA B C' ∧ sI A B ∧ B 30 19 = L + (1 + r) ∧ TX (B 42) (L + (1 + r)) j (1 + r) sz en ∧ B 42 (bc (B 42) (L + (1 + r))) = 97 + (1 + r))
    ?_ ?_ hyFu 0 (n3 L, n3 0, C) (Nat.zero_le _) (hyFu_big (by omega)) ⟨A, rfl, rfl, hW, hC, sI.rf A, hL, hT, fun z => absurd z (Nat.lt_irrefl _)⟩
  · obtain ⟨r', e, B, C', y, rfl, q⟩ := key
    exact ⟨B, C', y, e, q⟩
  · rintro f i ⟨xa, xb, C2⟩ hi ⟨B, rfl, rfl, hW2, hC2, hI, hL2, hT2, hF⟩
    refine Or.inl ?_
    dsimp only at hC2 ⊢
    rw [hg, if_neg (show ¬ (1 + n3 r ≤ n3 i) by rw [l_1, n3_add, n3_le (by omega) (by omega)]; omega)]
    have fin : ∀ c, (32 ≤ c ∧ c ≤ 126) → ltr c = true → (i = 0 → c = 97 + (1 + r)) → ∃ s' : Int32 × Int32 × hyM, ((rtM (Hp_append (n3 c) C2)).bind fun (x : Int32 × hyM) => (if x.1 = (n3 (L + i) + 1) then g f (n3 (L + i) + 1) (n3 i + 1) x.2 else some (.inl (false, x.2, M)))) = g f s'.1 s'.2.1 s'.2.2 ∧ ∃ B, s'.1 = n3 (L + (i + 1)) ∧ s'.2.1 = n3 (i + 1) ∧ WFA B ∧ CA B s'.2.2 ∧ sI A B ∧ B 30 19 = L + (i + 1) ∧ TX (B 42) (L + (i + 1)) j (i + 1) sz en ∧ (0 < i + 1 → B 42 (bc (B 42) (L + (i + 1))) = 97 + (1 + r)) := by
      intro c hc hlt h0
      obtain ⟨B', C', e1, w1, q1, g1, l1, x1, y1⟩ := ap_ok hW2 hC2 hc hL2 (by omega)
      obtain ⟨hT3, hb3⟩ := TX_l hT2 y1 x1 hlt (by omega)
      refine ⟨(n3 (L + (i + 1)), n3 (i + 1), C'), ?_, B', rfl, rfl, w1, q1, hI.trans g1, l1, hT3, fun _ => ?_⟩
      · rw [e1, Option.bind_some]
        dsimp only
        rw [n3_s, n3_s, if_pos rfl]
        rfl
      · have hb2 := hT2.2.2.1
        rw [show L + (i + 1) = L + i + 1 by omega, hb3]
        by_cases z : i = 0
        · subst z
          rw [show bc (B 42) (L + 0) = L + 0 by omega, x1]
          exact h0 rfl
        · rw [y1 _ (by omega)]
          exact hF (by omega)
    by_cases c0 : i = 0
    · rw [l_0, if_pos (by rw [c0]), k_97 ⟨r, hr⟩]
      exact fin _ ⟨by omega, by omega⟩ (by unfold ltr; rw [show Nat.ble 97 (97 + (1 + r)) = true from Nat.ble_eq.mpr (by omega), show Nat.ble (97 + (1 + r)) 122 = true from Nat.ble_eq.mpr (by omega)]; rfl) (fun _ => rfl)
    · obtain ⟨r2, hr2, er2⟩ := at_ok (a2 >>> (n3 i &&& 31)) (m := 9) (by decide) (by decide) M
      have er2 : La_at (a2 >>> (n3 i &&& 31)) 9 M = some (n3 r2) := er2
      rw [l_0, ite_eq (by omega) (by omega), if_neg c0, er2, Option.bind_some, ite_eq (by omega) (by omega)]
      by_cases c2 : r2 = 0
      · rw [if_pos c2]
        exact fin 39 (by decide) (by decide) (fun z => absurd z c0)
      · rw [if_neg c2]
        exact fin 77 (by decide) (by decide) (fun z => absurd z c0)
  · rintro f ⟨xa, xb, C2⟩ ⟨B, rfl, rfl, hW2, hC2, hI, hL2, hT2, hF⟩
    dsimp only at hC2 ⊢
    rw [hg, if_pos (show (1 + n3 r ≤ n3 (1 + r)) by rw [l_1, n3_add, n3_le (by omega) (by omega)]; omega)]
    exact ⟨_, rfl, B, C2, _, rfl, hW2, hC2, hI, hL2, hT2, hF (by omega)⟩
