/-! Properties of notes, parts, staves: both sides alike. -/
theorem alk_of {α : Type} {x y : Option α} (v : α) (h1 : x = some v) (h2 : y = some v) : alk x y := ⟨v, h1, h2⟩
/-- the class, whole -/
def CA (A : aS) (M : hyM) : Prop := CB A M ∧ CD A M
/-- the reference behind lay -/
def RLa (A : aS) (N : hyM) : Prop := RA A N ∧ RLy (wA A) (eA A) (A 30 2) (A 30 13) N
theorem CA_len {A : aS} {M : hyM} (h : CA A M) (i : Nat) : M.1 2 i = n3 (A 31 i) := h.1.1.2.2.2.1 i
theorem CA_pit {A : aS} {M : hyM} (h : CA A M) (i : Nat) : M.1 3 i = n3 (A 32 i) := h.1.1.2.2.2.2 i
theorem CA_n {A : aS} {M : hyM} (h : CA A M) : M.1 1 4 = n3 (A 30 2) := h.1.1.2.1
theorem CA_t {A : aS} {M : hyM} (h : CA A M) : M.1 1 5 = n3 (A 30 1) := h.1.1.2.2.1
theorem st_le {A : aS} (hW : WFA A) {i : Nat} (hi : i ≤ A 30 2) : smN (A 31) i ≤ 320 := by
  have h1 := hW.1.1
  have h2 : smN (A 31) i ≤ i * 8 := smN_le (fun j hj => (hW.1.2.2.1 j (by omega)).2)
  omega
theorem qf_ite {b : Bool} {x : Int32} {k : Nat} (hk : k < 1000) (hx : x = if b = true then n3 k else -1) : decide (x = -1) = !b := by
  rw [hx]
  cases b with
  | true => rw [if_pos rfl]; simp only [n3_m1 (show k < 2147483648 by omega)]; rfl
  | false => rw [if_neg (by decide)]; rfl
theorem note_alk {A : aS} {M N : hyM} (hW : WFA A) (hC : CA A M) (hR : RLa A N) {i w : Nat} (hi : i < A 30 2) (hw : w ≤ 8) : alk (Hp_noteProperty (n3 i) (n3 w) M) (Rf_noteNow (n3 i) (n3 w) N) := by
  have hn := hW.1.1
  have hst := st_le hW (show i ≤ A 30 2 by omega)
  have hlen := hW.1.2.2.1 i hi
  obtain ⟨hb1, hb2, hu, -, -⟩ := hW.2.2.1
  have h0 := hC.1.2.2.1.1
  have h1 := hC.1.2.2.1.2
  have r0 : N.1 30 11 = n3 (A 30 11) := hR.1.1 30 11 rfl
  have r1 : N.1 30 12 = n3 (A 30 12) := hR.1.1 30 12 rfl
  have r31 : ∀ j, N.1 31 j = n3 (A 31 j) := fun j => hR.1.1 31 j rfl
  have r32 : ∀ j, N.1 32 j = n3 (A 32 j) := fun j => hR.1.1 32 j rfl
  have hS : Tu_startOf (n3 i) M = some (n3 (smN (A 31) i)) := Tu_start_ok (CA_len hC) (by omega)
  have hP := hC.2.1
  have hp := phc_pos (e := eA A) (show 0 < i + 1 by omega)
  have hp2 := phc_le (eA A) (i + 1)
  have hp3 := phc_mono (e := eA A) (show i + 1 ≤ A 30 2 by omega)
  have hsl := slo_le (eA A) (sA A) i
  have c13 : Ph_phraseOf (n3 i) M = n3 (phc (eA A) (i + 1) - 1) := by unfold Ph_phraseOf; rw [atf_in _ (by omega) (by decide), hP.2.1 i hi]
  have r45 : N.1 45 i = n3 (phc (eA A) (i + 1) - 1) := hR.1.2.1.2.2.2.2.2.1 i hi
  rw [Hp_noteProperty, hS, Option.bind_some]
  match w, hw with
  | 0, _ =>
    refine alk_of (n3 (A 31 i)) ?_ ?_
    · rw [if_pos (by decide)]
      unfold Tu_lengthOf
      rw [atf_in _ (by omega) (by decide), CA_len hC]
    · rw [Rf_noteNow, if_pos (by decide), ldE_in _ (by omega) (by decide), Option.bind_some, r31]
  | 1, _ =>
    refine alk_of (bI (!qf (eA A) (sA A) i)) ?_ ?_
    · rw [if_neg (by decide), if_pos (by decide)]
      unfold Hp_flag Ph_syllableOf
      rw [atf_in _ (by omega) (by decide), qf_ite (k := slo (eA A) (sA A) i) (by omega) (hP.2.2.1 i hi)]
    · rw [Rf_noteNow, if_neg (by decide), if_pos (by decide), Rf_isSlurred_ok hR.1.2.1 hi, Option.bind_some]
  | 2, _ =>
    refine alk_of (n3 (phc (eA A) (i + 1) - 1)) ?_ ?_
    · rw [if_neg (by decide), if_neg (by decide), if_pos (by decide), c13]
    · rw [Rf_noteNow, if_neg (by decide), if_neg (by decide), if_pos (by decide), ldE_in _ (by omega) (by decide), Option.bind_some, r45]
  | 3, _ =>
    refine alk_of (n3 i - n3 (bgn (eA A) i)) ?_ ?_
    · rw [if_neg (by decide), if_neg (by decide), if_neg (by decide), if_pos (by decide), c13]
      unfold Ph_firstOf
      rw [atf_in _ (by omega) (by decide), (hP.2.2.2 _ (show phc (eA A) (i + 1) - 1 < phc (eA A) (A 30 2) by omega)).1, bgn_pfi hi]
    · rw [Rf_noteNow, if_neg (by decide), if_neg (by decide), if_neg (by decide), if_pos (by decide), ldE_in _ (by omega) (by decide), Option.bind_some, r45, ldE_in _ (by omega) (by decide), Option.bind_some, (hR.1.2.1.2.2.2.2.2.2 _ (show phc (eA A) (i + 1) - 1 < phc (eA A) (A 30 2) by omega)).1, bgn_pfi hi]
  | 4, _ =>
    refine alk_of (n3 (bnum (A 30 12) (A 30 11) (smN (A 31) i))) ?_ ?_
    · rw [if_neg (by decide), if_neg (by decide), if_neg (by decide), if_neg (by decide), if_pos (by decide), Ba_num_ok hb1 hb2 hu (by omega) h0 h1, Option.bind_some]
    · rw [Rf_noteNow, if_neg (by decide), if_neg (by decide), if_neg (by decide), if_neg (by decide), if_pos (by decide), Rf_bar_ok hb1 hb2 hu (by omega) r0 r1 r31 (by omega), Option.bind_some]
  | 5, _ =>
    refine alk_of (n3 (buni (A 30 12) (A 30 11) (smN (A 31) i))) ?_ ?_
    · rw [if_neg (by decide), if_neg (by decide), if_neg (by decide), if_neg (by decide), if_neg (by decide), if_pos (by decide), Ba_uni_ok hb1 hb2 hu (by omega) h0 h1, Option.bind_some]
    · rw [Rf_noteNow, if_neg (by decide), if_neg (by decide), if_neg (by decide), if_neg (by decide), if_neg (by decide), if_pos (by decide), Rf_uni_ok hb1 hb2 hu (by omega) r0 r1 r31 (by omega), Option.bind_some]
  | 6, _ =>
    have hl := buni_le (s := smN (A 31) i) hb1 hu
    refine alk_of (bI (bover (A 30 12) (A 30 11) (smN (A 31) i) (A 31 i))) ?_ ?_
    · rw [if_neg (by decide), if_neg (by decide), if_neg (by decide), if_neg (by decide), if_neg (by decide), if_neg (by decide), if_pos (by decide), Ba_from_ok hb1 hb2 hu (by omega) h0 h1, Option.bind_some]
      unfold Hp_flag Tu_lengthOf
      rw [atf_in _ (by omega) (by decide), CA_len hC, dec_le (by omega) (by split <;> omega)]
      congr 2
      unfold bover
      rw [← decide_not]
      apply decide_eq_decide.mpr
      omega
    · rw [Rf_noteNow, if_neg (by decide), if_neg (by decide), if_neg (by decide), if_neg (by decide), if_neg (by decide), if_neg (by decide), if_pos (by decide), Rf_over_ok hb1 hb2 hu (by omega) r0 r1 r31 (by omega) (by omega), Option.bind_some]
  | 7, _ =>
    refine alk_of (n3 (wA A i)) ?_ ?_
    · rw [if_neg (by decide), if_neg (by decide), if_neg (by decide), if_neg (by decide), if_neg (by decide), if_neg (by decide), if_neg (by decide), if_pos (by decide)]
      unfold Co_widthOf
      rw [atf_in _ (by omega) (by decide), hC.2.2.2.1 i hi]
    · rw [Rf_noteNow, if_neg (by decide), if_neg (by decide), if_neg (by decide), if_neg (by decide), if_neg (by decide), if_neg (by decide), if_neg (by decide), if_pos (by decide), ldE_in _ (by omega) (by decide), Option.bind_some, hR.2.1 i hi]
  | 8, _ =>
    refine alk_of (pmk (A 32) i) ?_ ?_
    · rw [if_neg (by decide), if_neg (by decide), if_neg (by decide), if_neg (by decide), if_neg (by decide), if_neg (by decide), if_neg (by decide), if_neg (by decide), Tu_par_ok hW.1.2.2.2.1 hn (CA_pit hC) hi, Option.bind_some]
    · rw [Rf_noteNow, if_neg (by decide), if_neg (by decide), if_neg (by decide), if_neg (by decide), if_neg (by decide), if_neg (by decide), if_neg (by decide), if_neg (by decide), Rf_par_ok hW.1.2.2.2.1 hn r32 hi, Option.bind_some]
theorem stp_ok {t p : Nat} (ht : t < 12) (hp : 36 ≤ p ∧ p ≤ 84) : (∀ M, Ke_stepOf (n3 t) (n3 p) M = some (n3 (stT t p))) ∧ (∀ N : hyM, N.1 30 1 = n3 t → Rf_step (n3 p) N = some (n3 (stT t p))) ∧ stT t p < 64 := by
  obtain ⟨a, b, c⟩ := k_stp ⟨t, ht⟩ ⟨p - 36, by omega⟩
  dsimp only at a b c
  rw [show p - 36 + 36 = p by omega] at a b c
  exact ⟨fun M => a, fun N hN => by rw [stp_cg (N := mT t) hN]; exact b, c⟩
theorem part_alk {A : aS} {M N : hyM} (hW : WFA A) (hC : CA A M) (hR : RI A N) {i p w : Nat} (hi : i < A 30 2) (hp : p < 4) (hw : w ≤ 5) : alk (Hp_partProperty (n3 i) (n3 p) (n3 w) M) (Rf_partNow (n3 i) (n3 p) (n3 w) N) := by
  have hn := hW.1.1
  have ht := hW.1.2.1
  have hg := hW.1.2.2.2.1 (4 * i + p) (by omega)
  have hN : N.1 30 1 = n3 (A 30 1) := hR 30 1 rfl
  have hcg := hN.trans (mT_rd (A 30 1)).symm
  obtain ⟨s1, s2, s3⟩ := stp_ok ht hg
  have e1 := Tu_pitch_ok (CA_pit hC) (i := i) (p := p) (by omega) hp
  have e2 : Rf_pitch (n3 i) (n3 p) N = some (n3 (A 32 (4 * i + p))) := Rf_pitch_ok (fun j => hR 32 j rfl) (by omega) hp
  have k1 := k_rai ⟨A 30 1, ht⟩ ⟨A 32 (4 * i + p) - 36, by omega⟩
  have k2 := k_deg ⟨A 30 1, ht⟩ ⟨A 32 (4 * i + p) - 36, by omega⟩
  have k3 := k_sha ⟨A 30 1, ht⟩ ⟨A 32 (4 * i + p) - 36, by omega⟩
  dsimp only at k1 k2 k3
  rw [show A 32 (4 * i + p) - 36 + 36 = A 32 (4 * i + p) by omega] at k1 k2 k3
  rw [Hp_partProperty, Rf_partNow, CA_t hC, e1, e2, Option.bind_some]
  generalize A 32 (4 * i + p) = g at *
  obtain ⟨r, hr⟩ := Option.isSome_iff_exists.mp k1.2
  have k1a : Ke_isRaised (n3 (A 30 1)) (n3 g) M = some r := hr
  have k1b : Rf_isRaised (n3 g) N = some r := by rw [rai_cg hcg, ← k1.1]; exact hr
  rw [k1a, Option.bind_some]
  match w, hw with
  | 0, _ => exact alk_of (n3 g) (if_pos (by decide)) (if_pos (by decide))
  | 1, _ =>
    obtain ⟨d, hd⟩ := Option.isSome_iff_exists.mp k2.2
    refine alk_of d ?_ ?_
    · rw [if_neg (by decide), if_pos (by decide), show Ke_degreeOf (n3 (A 30 1)) (n3 g) M = some d from hd, Option.bind_some]
    · rw [if_neg (by decide), if_pos (by decide), deg_cg hcg, ← k2.1, hd, Option.bind_some]
  | 2, _ =>
    refine alk_of (n3 (stT (A 30 1) g)) ?_ ?_
    · rw [if_neg (by decide), if_neg (by decide), if_pos (by decide), s1 M, Option.bind_some]
    · rw [if_neg (by decide), if_neg (by decide), if_pos (by decide), s2 N hN, Option.bind_some]
  | 3, _ =>
    refine alk_of (bI r) ?_ ?_
    · rw [if_neg (by decide), if_neg (by decide), if_neg (by decide), if_pos (by decide)]; rfl
    · rw [if_neg (by decide), if_neg (by decide), if_neg (by decide), if_pos (by decide), k1b, Option.bind_some]
  | 4, _ =>
    obtain ⟨d, hd⟩ := Option.isSome_iff_exists.mp k3.2
    have k3a := k3.1
    rw [hr, Option.bind_some, hd] at k3a
    refine alk_of d ?_ ?_
    · rw [if_neg (by decide), if_neg (by decide), if_neg (by decide), if_neg (by decide), if_pos (by decide)]
      cases r with
      | true => exact k3a
      | false =>
        rw [if_neg (by decide)] at k3a ⊢
        rw [show Ke_shapeOf (n3 (A 30 1)) (n3 g) M = some d from k3a, Option.bind_some]
    · rw [if_neg (by decide), if_neg (by decide), if_neg (by decide), if_neg (by decide), if_pos (by decide), sha_cg hcg, hd, Option.bind_some]
  | 5, _ =>
    have kl := k_led ⟨stT (A 30 1) g, s3⟩ ⟨p, hp⟩
    dsimp only at kl
    refine alk_of (Ke_ledgerLines (n3 (stT (A 30 1) g)) (n3 p / 2) M) ?_ ?_
    · rw [if_neg (by decide), if_neg (by decide), if_neg (by decide), if_neg (by decide), if_neg (by decide), s1 M, Option.bind_some]
    · rw [if_neg (by decide), if_neg (by decide), if_neg (by decide), if_neg (by decide), if_neg (by decide), Rf_ledgers, s2 N hN, Option.bind_some, Option.bind_some]
      exact congrArg some kl.symm
theorem heads_alk {A : aS} {M N : hyM} (hW : WFA A) (hC : CA A M) (hR : RI A N) {i s : Nat} (hi : i < A 30 2) (hs : s < 2) : alk (Hp_headsOf (n3 i) (n3 s) M) (Rf_headsNow (n3 i) (n3 s) N) := by
  have hn := hW.1.1
  have ht := hW.1.2.1
  have hN : N.1 30 1 = n3 (A 30 1) := hR 30 1 rfl
  have g1 := hW.1.2.2.2.1 (4 * i + 2 * s) (by omega)
  have g2 := hW.1.2.2.2.1 (4 * i + (2 * s + 1)) (by omega)
  have e1 := Tu_pitch_ok (CA_pit hC) (i := i) (p := 2 * s) (by omega) (by omega)
  have e2 := Tu_pitch_ok (CA_pit hC) (i := i) (p := 2 * s + 1) (by omega) (by omega)
  have f1 : Rf_pitch (n3 i) (n3 (2 * s)) N = some (n3 (A 32 (4 * i + 2 * s))) := Rf_pitch_ok (fun j => hR 32 j rfl) (by omega) (by omega)
  have f2 : Rf_pitch (n3 i) (n3 (2 * s + 1)) N = some (n3 (A 32 (4 * i + (2 * s + 1)))) := Rf_pitch_ok (fun j => hR 32 j rfl) (by omega) (by omega)
  obtain ⟨s1, s2, s3⟩ := stp_ok ht g1
  obtain ⟨t1, t2, t3⟩ := stp_ok ht g2
  have m1 : 2 * n3 s = n3 (2 * s) := by rw [l_2, n3_mul]
  have m2 : n3 (2 * s) + 1 = n3 (2 * s + 1) := n3_s _
  have hk := k_abs ⟨stT (A 30 1) (A 32 (4 * i + 2 * s)), s3⟩ ⟨stT (A 30 1) (A 32 (4 * i + (2 * s + 1))), t3⟩
  dsimp only at hk
  rw [Hp_headsOf, Rf_headsNow, m1, m2, CA_t hC, e1, e2, f1, f2, Option.bind_some, Option.bind_some, s1 M, t1 M, s2 N hN, t2 N hN]
  simp only [Option.bind_some]
  generalize A 32 (4 * i + 2 * s) = u at *
  generalize A 32 (4 * i + (2 * s + 1)) = l at *
  rw [hk, dec_eq (by omega) (by omega), dec_le (by omega) (by omega), ite_eq (by omega) (by omega), ite_le (by omega) (by omega)]
  have hw : Rf_within (n3 (stT (A 30 1) u) - n3 (stT (A 30 1) l)) (-1) 1 N = Rf_within (n3 (stT (A 30 1) u) - n3 (stT (A 30 1) l)) (-1) 1 hM0 := rfl
  rw [hw]
  generalize Rf_within (n3 (stT (A 30 1) u) - n3 (stT (A 30 1) l)) (-1) 1 hM0 = z
  unfold Hp_flag
  by_cases c : u = l
  · subst c
    rw [if_pos rfl]
    refine alk_of 1 ?_ rfl
    simp only [decide_true, Nat.le_refl, if_true, Bool.not_true]
    rfl
  · rw [if_neg c]
    refine ⟨_, rfl, ?_⟩
    simp only [c, decide_false, Bool.false_eq_true, if_false]
    by_cases d : l ≤ u
    · simp only [d, decide_true, if_true, Bool.not_true]
      cases z <;> rfl
    · simp only [d, decide_false, if_false, Bool.not_false]
      cases z <;> rfl
