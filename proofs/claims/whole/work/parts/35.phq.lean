/-! Phrases, sung phrases, verses: both sides alike. -/
theorem cnt_take (L : List Nat) (p : Nat) : ∀ k, k ≤ L.length → cnt (fun j => decide (L[j]? = some p)) k = (L.take k).count p := by
  intro k
  induction k with
  | zero => intro _; rfl
  | succ k ih =>
    intro hk
    have hlt : k < L.length := by omega
    rw [cnt, ih (by omega), List.take_succ_eq_append_getElem hlt, List.count_append, List.count_singleton, List.getElem?_eq_getElem hlt]
    congr 1
    by_cases c : L[k] = p
    · simp [c]
    · simp [c]
theorem Rf_times_ok {L : List Nat} {N : hyM} {p : Nat} (hS : SL L N) (hL : L.length ≤ 80) (hp : p < 1000) (hx : ∀ x, x ∈ L → x < 1000) : Rf_timesSung (n3 p) N = some (n3 (L.count p)) := by
  have key := lpE (fun f (s : Int32 × Int32) => Rf_timesSung_L4 (n3 p) N f s.1 s.2) (fun j => (n3 (cnt (fun j => decide (L[j]? = some p)) j), n3 j)) L.length (n3 (L.count p), n3 L.length) ?_ ?_ hyFu 0 (Nat.zero_le _) (hyFu_big (by omega))
  · dsimp only at key
    rw [Rf_timesSung, show (0 : Int32) = n3 0 from rfl]
    rw [show cnt (fun j => decide (L[j]? = some p)) 0 = 0 from rfl] at key
    rw [key]
    rfl
  · intro f j hj
    have hkp : L[j]? = some (L[j]'hj) := List.getElem?_eq_getElem hj
    generalize L[j]'hj = x at hkp
    have hxx := hx x (List.mem_of_getElem? hkp)
    dsimp only
    rw [Rf_timesSung_L4, hS.1, if_neg (by rw [n3_le (by omega) (by omega)]; omega), ldE_in _ (by omega) (by decide), Option.bind_some, hS.2 j x hkp, dec_eq (by omega) (by omega), bI_n3, n3_add, n3_s, cnt]
    congr 2
    by_cases c : x = p
    · subst c; simp [hkp]
    · simp [hkp, c]
  · intro f
    dsimp only
    rw [Rf_timesSung_L4, hS.1, if_pos (by rw [n3_le (by omega) (by omega)]; omega), cnt_take L p L.length (Nat.le_refl _), List.take_length]
theorem mA_lt {A : aS} (hW : WFA A) : mA A ≤ 40 := by have := mA_le A; have := hW.1.1; omega
theorem phrase_alk {A : aS} {M N : hyM} (hW : WFA A) (hC : CA A M) (hR : RLa A N) {p w : Nat} (hp : p < mA A) (hw : w ≤ 5) : alk (some (Hp_phraseProperty (n3 p) (n3 w) M)) (Rf_phraseNow (n3 p) (n3 w) N) := by
  have hm := mA_lt hW
  obtain ⟨q1, q2, q3⟩ := hC.2.1.2.2.2 p hp
  obtain ⟨r1, r2⟩ := hR.1.2.1.2.2.2.2.2.2 p hp
  unfold Hp_phraseProperty
  match w, hw with
  | 0, _ =>
    refine alk_of (n3 (pfi (eA A) (A 30 2) p)) ?_ ?_
    · rw [if_pos (by decide)]; unfold Ph_firstOf; rw [atf_in _ (by omega) (by decide), q1]
    · rw [Rf_phraseNow, if_pos (by decide), ldE_in _ (by omega) (by decide), Option.bind_some, r1]
  | 1, _ =>
    refine alk_of (n3 (pla (eA A) (A 30 2) p)) ?_ ?_
    · rw [if_neg (by decide), if_pos (by decide)]; unfold Ph_lastOf; rw [atf_in _ (by omega) (by decide), q2]
    · rw [Rf_phraseNow, if_neg (by decide), if_pos (by decide), ldE_in _ (by omega) (by decide), Option.bind_some, r2]
  | 2, _ =>
    refine alk_of (n3 (sly (eA A) (sA A) (A 30 2) p)) ?_ ?_
    · rw [if_neg (by decide), if_neg (by decide), if_pos (by decide)]; unfold Ph_syllablesOf; rw [atf_in _ (by omega) (by decide), q3]
    · rw [Rf_phraseNow, if_neg (by decide), if_neg (by decide), if_pos (by decide), Rf_syllablesOf_ok hR.1.2.1 hp, Option.bind_some]
  | 3, _ =>
    refine alk_of (n3 (phw (wA A) (eA A) (A 30 2) p)) ?_ ?_
    · rw [if_neg (by decide), if_neg (by decide), if_neg (by decide), if_pos (by decide)]; unfold Co_widthOfPhrase; rw [atf_in _ (by omega) (by decide), (hC.2.2.2.2.1 p hp).1]
    · rw [Rf_phraseNow, if_neg (by decide), if_neg (by decide), if_neg (by decide), if_pos (by decide), ldE_in _ (by omega) (by decide), Option.bind_some, (hR.2.2.1 p hp).1]
  | 4, _ =>
    refine alk_of (n3 (ssf (phw (wA A) (eA A) (A 30 2)) (A 30 13) (p + 1)).1) ?_ ?_
    · rw [if_neg (by decide), if_neg (by decide), if_neg (by decide), if_neg (by decide), if_pos (by decide)]; unfold Co_systemOf; rw [atf_in _ (by omega) (by decide), (hC.2.2.2.2.1 p hp).2]
    · rw [Rf_phraseNow, if_neg (by decide), if_neg (by decide), if_neg (by decide), if_neg (by decide), if_pos (by decide), ldE_in _ (by omega) (by decide), Option.bind_some, (hR.2.2.1 p hp).2]
  | 5, _ =>
    refine alk_of (n3 ((LA A).count p)) ?_ ?_
    · rw [if_neg (by decide), if_neg (by decide), if_neg (by decide), if_neg (by decide), if_neg (by decide)]; unfold Or_timesOf; rw [atf_in _ (by omega) (by decide), hC.2.2.1.2.2 p hp]
    · rw [Rf_phraseNow, if_neg (by decide), if_neg (by decide), if_neg (by decide), if_neg (by decide), if_neg (by decide), Rf_times_ok hR.1.2.2.2.2.1 (LA_len hW) (by omega) (fun x hx => by have := LA_mem hW hx; omega), Option.bind_some]
/-! sung phrases -/
theorem CA_at {A : aS} {M : hyM} (hW : WFA A) (hC : CA A M) {k p : Nat} (hk : (LA A)[k]? = some p) : Or_phraseAt (n3 k) M = n3 p := by
  have hkl := (List.getElem?_eq_some_iff.mp hk).1
  have := LA_len hW
  unfold Or_phraseAt
  rw [atf_in _ (by omega) (by decide), hC.2.2.1.2.1 k p hk]
/-- syllables that line k must have -/
def due (A : aS) (k : Nat) : Nat := match (LA A)[k]? with
  | some p => sly (eA A) (sA A) (A 30 2) p
  | none => 0
theorem due_le {A : aS} (hW : WFA A) (k : Nat) : due A k ≤ 40 := by
  unfold due
  cases h : (LA A)[k]? with
  | none => exact Nat.zero_le _
  | some p =>
    have := sly_le (eA A) (sA A) (show p < phc (eA A) (A 30 2) from LA_mem hW (List.mem_of_getElem? h))
    have := hW.1.1
    dsimp only; omega
theorem due_pos {A : aS} (hW : WFA A) {k : Nat} (hk : k < (LA A).length) : 0 < due A k := by
  unfold due
  rw [List.getElem?_eq_getElem hk]
  exact sly_pos _ _ (show (LA A)[k] < phc (eA A) (A 30 2) from LA_mem hW (List.getElem_mem hk))
theorem due_none {A : aS} {k : Nat} (hk : (LA A).length ≤ k) : due A k = 0 := by
  unfold due
  rw [List.getElem?_eq_none hk]
theorem CA_due {A : aS} {M : hyM} (hW : WFA A) (hC : CA A M) {k : Nat} (hk : k < (LA A).length) : Hp_syllablesSung (n3 k) M = n3 (due A k) := by
  have hkp := List.getElem?_eq_getElem hk
  have hx : (LA A)[k] < mA A := LA_mem hW (List.getElem_mem hk)
  have := mA_lt hW
  unfold Hp_syllablesSung due
  rw [CA_at hW hC hkp, hkp]
  unfold Ph_syllablesOf
  rw [atf_in _ (by omega) (by decide), (hC.2.1.2.2.2 _ hx).2.2]
theorem RA_due {A : aS} {N : hyM} (hW : WFA A) (hR : RA A N) {k : Nat} (hk : k < (LA A).length) : ∃ p, ldE 80 (N.1 46) (n3 k) = some (n3 p) ∧ Rf_syllablesOf (n3 p) N = some (n3 (due A k)) := by
  have hkp := List.getElem?_eq_getElem hk
  have hx : (LA A)[k] < mA A := LA_mem hW (List.getElem_mem hk)
  have hl := LA_len hW
  refine ⟨(LA A)[k], ?_, ?_⟩
  · rw [ldE_in _ (by omega) (by decide), hR.2.2.2.2.1.2 k _ hkp]
  · rw [Rf_syllablesOf_ok hR.2.1 hx]
    unfold due
    rw [hkp]
/-! fit -/
def fsr (mis : Nat → Bool) : Nat → Nat → Option Nat
  | 0, _ => none
  | d + 1, k => if mis k = true then some k else fsr mis d (k + 1)
def misf (A : aS) (v k : Nat) : Bool := !decide (nsS ((XA A).1 (v * 24 + k)) ((XA A).2 (v * 24 + k)) = due A k)
def fitV (A : aS) (v : Nat) : Int32 := match fsr (misf A v) 24 0 with
  | some k => n3 k
  | none => if (LA A).length ≤ 24 then -1 else n3 24
theorem fit_class {A : aS} {M : hyM} (hW : WFA A) (hC : CA A M) {v : Nat} (hv : v < 4) : Hp_firstMisfit (n3 v) M = some (fitV A v) := by
  have hL := LA_len hW
  have hO : M.1 18 2 = n3 (LA A).length := hC.2.2.1.1
  have hV : VA (XA A) M := hC.1.2.2.2.2.1
  have key : ∀ d f k, k + d = 24 → d < f → ∃ r, Hp_firstMisfit_L2 (n3 v) M f (n3 k) = some r ∧ ((∃ j, fsr (misf A v) d k = some j ∧ r = .inl (n3 j)) ∨ (fsr (misf A v) d k = none ∧ ∃ y, r = .inr y)) := by
    intro d
    induction d with
    | zero =>
      intro f k hk hf
      obtain ⟨f, rfl⟩ : ∃ g, f = g + 1 := ⟨f - 1, by omega⟩
      rw [Hp_firstMisfit_L2, l_24, if_pos (by rw [n3_le (by omega) (by omega)]; omega)]
      exact ⟨_, rfl, Or.inr ⟨rfl, _, rfl⟩⟩
    | succ d ih =>
      intro f k hk hf
      obtain ⟨f, rfl⟩ : ∃ g, f = g + 1 := ⟨f - 1, by omega⟩
      have hns := ns_le (hW.2.2.2.1 (v * 24 + k))
      have hdl := due_le hW k
      have e : (if M.1 18 2 ≤ n3 k then 0 else Hp_syllablesSung (n3 k) M) = n3 (due A k) := by
        rw [hO, ite_le (by omega) (by omega)]
        by_cases c : (LA A).length ≤ k
        · rw [if_pos c, due_none c]; rfl
        · rw [if_neg c, CA_due hW hC (by omega)]
      rw [Hp_firstMisfit_L2, l_24, if_neg (by rw [n3_le (by omega) (by omega)]; omega), e, Ve_syl_ok (hV _ (by omega)) hv (by omega), ite_eq (by omega) (by omega), n3_s, fsr]
      unfold misf
      by_cases c : nsS ((XA A).1 (v * 24 + k)) ((XA A).2 (v * 24 + k)) = due A k
      · rw [if_pos c, if_neg (by simp [c])]
        exact ih f (k + 1) (by omega) (by omega)
      · rw [if_neg c, if_pos (by simp [c])]
        exact ⟨_, rfl, Or.inl ⟨k, rfl, rfl⟩⟩
  obtain ⟨r, e1, e2⟩ := key 24 hyFu 0 rfl (by unfold hyFu; omega)
  rw [Hp_firstMisfit, show (0 : Int32) = n3 0 from rfl, e1, Option.bind_some]
  unfold fitV
  rcases e2 with ⟨j, h1, rfl⟩ | ⟨h1, y, rfl⟩
  · rw [h1]
  · rw [h1]
    dsimp only
    rw [hO, l_24, ite_le (by omega) (by omega)]
theorem fit_ref {A : aS} {N : hyM} (hW : WFA A) (hR : RA A N) {v : Nat} (hv : v < 4) : Rf_fitNow (n3 v) N = some (fitV A v) := by
  have hL := LA_len hW
  have hO : N.1 30 25 = n3 (LA A).length := hR.2.2.2.2.1.1
  have stop : ∀ f j k, 0 < f → j < 1000 → Rf_fitNow_L4 (n3 v) N f (n3 j) (n3 k) = some (n3 j, n3 k) := by
    intro f j k hf hj
    obtain ⟨f, rfl⟩ : ∃ g, f = g + 1 := ⟨f - 1, by omega⟩
    rw [Rf_fitNow_L4, if_neg]
    intro q
    have : decide (n3 j = -1) = false := by simp only [n3_m1 (show j < 2147483648 by omega)]; rfl
    rw [this] at q
    split at q <;> cases q
  have key : ∀ d f k, k + d = 24 → d + 1 < f → ∃ y, Rf_fitNow_L4 (n3 v) N f (-1) (n3 k) = some ((match fsr (misf A v) d k with | some j => n3 j | none => -1), y) := by
    intro d
    induction d with
    | zero =>
      intro f k hk hf
      obtain ⟨f, rfl⟩ : ∃ g, f = g + 1 := ⟨f - 1, by omega⟩
      refine ⟨n3 k, ?_⟩
      rw [Rf_fitNow_L4, l_24, if_pos (show n3 24 ≤ n3 k by rw [n3_le (by omega) (by omega)]; omega), if_neg (by decide)]
      rfl
    | succ d ih =>
      intro f k hk hf
      obtain ⟨f, rfl⟩ : ∃ g, f = g + 1 := ⟨f - 1, by omega⟩
      have hT := hR.2.2.2.1 (v * 24 + k) (by omega)
      have hVl := hW.2.2.2.1 (v * 24 + k)
      have hns := ns_le hVl
      have hdl := due_le hW k
      have erow : 24 * n3 v + n3 k = n3 (v * 24 + k) := by rw [l_24, n3_mul, n3_add, Nat.mul_comm]
      -- what is found at k
      have found : ∀ b : Bool, b = misf A v k → ∃ y, Rf_fitNow_L4 (n3 v) N f (if (!b) = true then -1 else n3 k) (n3 (k + 1)) = some ((match fsr (misf A v) (d + 1) k with | some j => n3 j | none => -1), y) := by
        intro b hb
        rw [fsr, ← hb]
        cases b with
        | true =>
          rw [if_neg (by decide), if_pos rfl]
          exact ⟨_, stop f k (k + 1) (by omega) (by omega)⟩
        | false =>
          rw [if_pos (by decide), if_neg (by decide)]
          exact ih f (k + 1) (by omega) (by omega)
      have hc : (if 24 ≤ n3 k then false else decide ((-1 : Int32) = -1)) = true := by
        rw [l_24, if_neg (by rw [n3_le (by omega) (by omega)]; omega)]; rfl
      rw [Rf_fitNow_L4, if_pos hc, hO, ite_le (by omega) (by omega), erow, ldE_in _ (by omega) (by decide), hT.1, n3_s]
      simp only [Option.bind_some]
      by_cases c : (LA A).length ≤ k
      · have e : (!decide (n3 ((XA A).2 (v * 24 + k)) = 0)) = misf A v k := by
          rw [l_0, dec_eq (by have := hVl.1; omega) (by omega)]
          unfold misf nsS
          rw [due_none c]
          by_cases q : (XA A).2 (v * 24 + k) = 0
          · rw [if_pos q]; simp [q]
          · rw [if_neg q]; simp [q]
        rw [if_pos c]
        have := found _ e
        rw [Bool.not_not] at this
        exact this
      · rw [if_neg c, l_0, ite_le (by have := hVl.1; omega) (by omega)]
        have hdp := due_pos hW (show k < (LA A).length by omega)
        by_cases q : (XA A).2 (v * 24 + k) ≤ 0
        · have e : true = misf A v k := by
            unfold misf nsS
            rw [if_pos (by omega)]
            have : ¬ 0 = due A k := by omega
            simp [this]
          rw [if_pos q]
          have := found true e
          rw [if_neg (by decide)] at this
          exact this
        · obtain ⟨p, p1, p2⟩ := RA_due hW hR (show k < (LA A).length by omega)
          have e : (!decide (n3 (nsS ((XA A).1 (v * 24 + k)) ((XA A).2 (v * 24 + k))) = n3 (due A k))) = misf A v k := by
            rw [dec_eq (by omega) (by omega)]
            rfl
          rw [if_neg q, ← l_0, Rf_counts0_ok hT hVl (by omega), Option.bind_some, p1, Option.bind_some, p2, Option.bind_some]
          have := found _ e
          rw [Bool.not_not] at this
          exact this
  obtain ⟨y, e1⟩ := key 24 hyFu 0 rfl (by unfold hyFu; omega)
  rw [Rf_fitNow, show (0 : Int32) = n3 0 from rfl, e1, Option.bind_some]
  unfold fitV
  dsimp only
  have hm : ∀ j, fsr (misf A v) 24 0 = some j → j < 1000 := by
    have : ∀ d k j, fsr (misf A v) d k = some j → j < k + d := by
      intro d
      induction d with
      | zero => intro k j h; cases h
      | succ d ih =>
        intro k j h
        rw [fsr] at h
        split at h
        · cases h; omega
        · have := ih (k + 1) j h; omega
    intro j hj
    have := this 24 0 j hj
    omega
  cases hf : fsr (misf A v) 24 0 with
  | some j =>
    have := hm j hf
    dsimp only
    rw [if_neg (by rw [n3_m1 (by omega)]; exact id)]
  | none =>
    dsimp only
    rw [if_pos rfl, hO, l_24, ite_le (by omega) (by omega)]
/-! lines -/
theorem line_alk {A : aS} {M N : hyM} (hW : WFA A) (hC : CA A M) (hR : RI A N) {v l w : Nat} (hv : v < 4) (hl : l < 24) (hw : w ≤ 2) : alk (Hp_lineProperty (n3 v) (n3 l) (n3 w) M) (Rf_lineNow (n3 (v * 24 + l)) (n3 w) N) := by
  have hV : VA (XA A) M := hC.1.2.2.2.2.1
  have hv1 := hV (v * 24 + l) (by omega)
  have hVl := hW.2.2.2.1 (v * 24 + l)
  have hT : RT ((XA A).1 (v * 24 + l)) ((XA A).2 (v * 24 + l)) (v * 24 + l) N := ⟨hR 38 _ rfl, fun i => hR 39 (60 * (v * 24 + l) + i) rfl⟩
  match w, hw with
  | 0, _ =>
    refine alk_of (n3 (nsS ((XA A).1 (v * 24 + l)) ((XA A).2 (v * 24 + l)))) ?_ ?_
    · rw [Hp_lineProperty, if_pos (by decide), Ve_syl_ok hv1 hv hl]
    · rw [Rf_lineNow, if_neg (by decide), show n3 0 = 0 from rfl, Rf_counts0_ok hT hVl (by omega), Option.bind_some]
  | 1, _ =>
    refine alk_of (n3 (wdS ((XA A).1 (v * 24 + l)) ((XA A).2 (v * 24 + l)))) ?_ ?_
    · rw [Hp_lineProperty, if_neg (by decide), if_pos (by decide), Ve_words_ok hv1 hVl hv hl, Option.bind_some, words_eq hVl]
    · rw [Rf_lineNow, if_neg (by decide), show n3 1 = 1 from rfl, Rf_counts1_ok hT hVl (by omega), Option.bind_some]
  | 2, _ =>
    refine alk_of (n3 (loS ((XA A).1 (v * 24 + l)) ((XA A).2 (v * 24 + l)))) ?_ ?_
    · rw [Hp_lineProperty, if_neg (by decide), if_neg (by decide), Ve_longest_ok hv1 hVl hv hl, Option.bind_some]
    · rw [Rf_lineNow, if_pos (by decide), Rf_longest_ok hT hVl (by omega), Option.bind_some]
/-! below -/
theorem below_alk {A : aS} {M N : hyM} (hW : WFA A) (hC : CA A M) (hR : RA A N) {v k p j w : Nat} (hv : v < 4) (hk : (LA A)[k]? = some p) (hj : pfi (eA A) (A 30 2) p + j ≤ pla (eA A) (A 30 2) p) (hw : w ≤ 3) :
    alk (some (Hp_belowProperty (n3 v) (n3 k) (n3 j) (n3 w) M)) (Rf_belowNow (n3 v) (n3 k) (n3 (pfi (eA A) (A 30 2) p + j)) (n3 w) N) := by
  have hL := LA_len hW
  have hkl := (List.getElem?_eq_some_iff.mp hk).1
  have hp : p < phc (eA A) (A 30 2) := LA_mem hW (List.mem_of_getElem? hk)
  have hm := mA_lt hW
  have hn := hW.1.1
  have hpm : p < 40 := by unfold mA at hm; omega
  have hla := (pla_spec hp).1
  have hi : pfi (eA A) (A 30 2) p + j < A 30 2 := by omega
  generalize hI : pfi (eA A) (A 30 2) p + j = i at *
  have hsl := slo_le (eA A) (sA A) i
  have hV : VA (XA A) M := hC.1.2.2.2.2.1
  have en : Ph_firstOf (Or_phraseAt (n3 k) M) M + n3 j = n3 i := by
    rw [CA_at hW hC hk]
    unfold Ph_firstOf
    rw [atf_in _ hpm (by decide), (hC.2.1.2.2.2 p hp).1, n3_add, hI]
  have es : Ph_syllableOf (n3 i) M = if qf (eA A) (sA A) i = true then n3 (slo (eA A) (sA A) i) else -1 := by
    unfold Ph_syllableOf
    rw [atf_in _ (by omega) (by decide), hC.2.1.2.2.1 i hi]
  unfold Hp_belowProperty
  rw [en, es, Rf_belowNow, Rf_syllableOf_ok hR.2.1 hi, Option.bind_some, l_24, ite_le (by omega) (by omega)]
  by_cases c1 : 24 ≤ k
  · have : ∀ x : Int32, Ve_hasSyllable (n3 v) (n3 k) x M = false := by
      intro x
      unfold Ve_hasSyllable
      rw [l_24, if_pos (by rw [n3_le (by omega) (by omega)]; exact c1)]
    rw [this, if_neg (by decide), if_pos c1]
    exact ⟨_, rfl, rfl⟩
  rw [if_neg c1, Rf_isSlurred_ok hR.2.1 hi, Option.bind_some]
  cases hq : qf (eA A) (sA A) i with
  | false =>
    rw [if_neg (show ¬ (false = true) by decide), hasSyl_m1 (by omega), if_neg (by decide), if_pos (by decide)]
    exact ⟨_, rfl, rfl⟩
  | true =>
    have erow : n3 24 * n3 v + n3 k = n3 (v * 24 + k) := by rw [n3_mul, n3_add, Nat.mul_comm]
    have hT := hR.2.2.2.1 (v * 24 + k) (by omega)
    have hVl := hW.2.2.2.1 (v * 24 + k)
    have hns := ns_le hVl
    simp only [if_true, Bool.not_true, Bool.false_eq_true, if_false]
    rw [hasSyl_ok hV hW.2.2.2.1 hv (by omega) (by omega), erow, Rf_counts0_ok hT hVl (by omega), Option.bind_some, ite_lt (by omega) (by omega)]
    by_cases c2 : slo (eA A) (sA A) i < nsS ((XA A).1 (v * 24 + k)) ((XA A).2 (v * 24 + k))
    · obtain ⟨hvt, hsc, -, -⟩ := VL_ns hVl c2
      obtain ⟨ea, eb, ec⟩ := ep_spec hsc
      have hb := (VT_sep hvt ea eb).1
      have hLl := hVl.1
      rw [if_pos (by simpa using c2), if_pos c2, Rf_beginOf_ok hT hVl (by omega) c2, Option.bind_some, Rf_sizeOf_ok hT hVl (by omega) c2, Option.bind_some, n3_add]
      have e3 : bc ((XA A).1 (v * 24 + k)) (ep ((XA A).1 (v * 24 + k)) ((XA A).2 (v * 24 + k)) (slo (eA A) (sA A) i)) + szS ((XA A).1 (v * 24 + k)) ((XA A).2 (v * 24 + k)) (slo (eA A) (sA A) i) = ep ((XA A).1 (v * 24 + k)) ((XA A).2 (v * 24 + k)) (slo (eA A) (sA A) i) := by unfold szS; omega
      rw [e3]
      match w, hw with
      | 0, _ => exact alk_of (n3 (slo (eA A) (sA A) i)) (by rw [if_pos (by decide)]) (by rw [if_pos (by decide)])
      | 1, _ =>
        refine alk_of (n3 (szS ((XA A).1 (v * 24 + k)) ((XA A).2 (v * 24 + k)) (slo (eA A) (sA A) i))) ?_ ?_
        · rw [if_neg (by decide), if_pos (by decide), Ve_len_ok (hV _ (by omega)) hVl hv (by omega) c2]
        · rw [if_neg (by decide), if_pos (by decide), n3_sub (by omega)]; rfl
      | 2, _ =>
        refine alk_of (n3 (sgS ((XA A).1 (v * 24 + k)) ((XA A).2 (v * 24 + k)) (slo (eA A) (sA A) i))) ?_ ?_
        · rw [if_neg (by decide), if_neg (by decide), if_pos (by decide), Ve_sig_ok (hV _ (by omega)) hVl hv (by omega) c2]
        · rw [if_neg (by decide), if_neg (by decide), if_pos (by decide), Rf_sign_ok hT (by omega) (by omega), Option.bind_some]; rfl
      | 3, _ =>
        refine alk_of (bI (lkS ((XA A).1 (v * 24 + k)) ((XA A).2 (v * 24 + k)) (slo (eA A) (sA A) i))) ?_ ?_
        · rw [if_neg (by decide), if_neg (by decide), if_neg (by decide), Ve_lnk_ok (hV _ (by omega)) hVl hv (by omega) c2]; rfl
        · rw [if_neg (by decide), if_neg (by decide), if_neg (by decide), ldE_in _ (by omega) (by decide), Option.bind_some, hT.1, ite_le (by omega) (by omega)]
          unfold lkS
          by_cases c3 : (XA A).2 (v * 24 + k) ≤ ep ((XA A).1 (v * 24 + k)) ((XA A).2 (v * 24 + k)) (slo (eA A) (sA A) i)
          · have : decide (ep ((XA A).1 (v * 24 + k)) ((XA A).2 (v * 24 + k)) (slo (eA A) (sA A) i) < (XA A).2 (v * 24 + k)) = false := by simp; omega
            rw [if_pos c3, this]; rfl
          · have : decide (ep ((XA A).1 (v * 24 + k)) ((XA A).2 (v * 24 + k)) (slo (eA A) (sA A) i) < (XA A).2 (v * 24 + k)) = true := by simp; omega
            have ht := hVl.2.2 (ep ((XA A).1 (v * 24 + k)) ((XA A).2 (v * 24 + k)) (slo (eA A) (sA A) i))
            rw [if_neg c3, this, Rf_sign_ok hT (by omega) (by omega), Option.bind_some, l_45, dec_eq (by omega) (by omega), Bool.true_and]
            congr 2
            by_cases c4 : (XA A).1 (v * 24 + k) (ep ((XA A).1 (v * 24 + k)) ((XA A).2 (v * 24 + k)) (slo (eA A) (sA A) i)) = 45
            · rw [c4]; rfl
            · have h5 : Nat.beq ((XA A).1 (v * 24 + k) (ep ((XA A).1 (v * 24 + k)) ((XA A).2 (v * 24 + k)) (slo (eA A) (sA A) i))) 45 = false := by
                cases q : Nat.beq ((XA A).1 (v * 24 + k) (ep ((XA A).1 (v * 24 + k)) ((XA A).2 (v * 24 + k)) (slo (eA A) (sA A) i))) 45 with
                | false => rfl
                | true => exact absurd (Nat.eq_of_beq_eq_true q) c4
              rw [h5]; simp [c4]
    · rw [if_neg (by simpa using c2), if_neg c2]
      exact ⟨_, rfl, rfl⟩
