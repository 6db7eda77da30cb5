/-! The class's answers to the calls that only ask, by the state. -/
theorem rgOk {k lo hi : Nat} (M : hyM) (h1 : lo ≤ k) (h2 : k ≤ hi) (h3 : hi < 2147483648) : Hp_checkRange (n3 k) (n3 lo) (n3 hi) M = .inr () := by
  unfold Hp_checkRange
  rw [if_neg (show ¬ n3 k < n3 lo by rw [n3_lt (by omega) (by omega)]; omega), dec_le (by omega) (by omega), decide_eq_true h2]
  rfl
theorem ixOk {k s : Nat} (M : hyM) (h : k < s) (h3 : s < 2147483648) : Hp_checkIndex (n3 k) (n3 s) M = .inr () := by
  unfold Hp_checkIndex
  rw [if_neg (show ¬ n3 k < 0 by rw [l_0, n3_lt (by omega) (by omega)]; omega), dec_lt (by omega) (by omega), decide_eq_true h]
  rfl
def noV (A : aS) (i : Nat) : Nat → Int32
  | 0 => n3 (A 31 i)
  | 1 => bI (!qf (eA A) (sA A) i)
  | 2 => n3 (phc (eA A) (i + 1) - 1)
  | 3 => n3 i - n3 (bgn (eA A) i)
  | 4 => n3 (bnum (A 30 12) (A 30 11) (smN (A 31) i))
  | 5 => n3 (buni (A 30 12) (A 30 11) (smN (A 31) i))
  | 6 => bI (bover (A 30 12) (A 30 11) (smN (A 31) i) (A 31 i))
  | 7 => n3 (wA A i)
  | _ => pmk (A 32) i
theorem note_val {A : aS} {M : hyM} (hW : WFA A) (hC : CA A M) {i w : Nat} (hi : i < A 30 2) (hw : w ≤ 8) : Hp_noteProperty (n3 i) (n3 w) M = some (noV A i w) := by
  have hn := hW.1.1
  have hst := st_le hW (show i ≤ A 30 2 by omega)
  have hlen := hW.1.2.2.1 i hi
  obtain ⟨hb1, hb2, hu, -, -⟩ := hW.2.2.1
  have h0 := hC.1.2.2.1.1
  have h1 := hC.1.2.2.1.2
  have hS : Tu_startOf (n3 i) M = some (n3 (smN (A 31) i)) := Tu_start_ok (CA_len hC) (by omega)
  have hP := hC.2.1
  have hp := phc_pos (e := eA A) (show 0 < i + 1 by omega)
  have hp2 := phc_le (eA A) (i + 1)
  have hp3 := phc_mono (e := eA A) (show i + 1 ≤ A 30 2 by omega)
  have hsl := slo_le (eA A) (sA A) i
  have c13 : Ph_phraseOf (n3 i) M = n3 (phc (eA A) (i + 1) - 1) := by unfold Ph_phraseOf; rw [atf_in _ (by omega) (by decide), hP.2.1 i hi]
  rw [Hp_noteProperty, hS, Option.bind_some]
  match w, hw with
  | 0, _ =>
    rw [if_pos (by decide)]
    unfold Tu_lengthOf
    rw [atf_in _ (by omega) (by decide), CA_len hC]; rfl
  | 1, _ =>
    rw [if_neg (by decide), if_pos (by decide)]
    unfold Hp_flag Ph_syllableOf
    rw [atf_in _ (by omega) (by decide), qf_ite (k := slo (eA A) (sA A) i) (by omega) (hP.2.2.1 i hi)]; rfl
  | 2, _ => rw [if_neg (by decide), if_neg (by decide), if_pos (by decide), c13]; rfl
  | 3, _ =>
    rw [if_neg (by decide), if_neg (by decide), if_neg (by decide), if_pos (by decide), c13]
    unfold Ph_firstOf
    rw [atf_in _ (by omega) (by decide), (hP.2.2.2 _ (show phc (eA A) (i + 1) - 1 < phc (eA A) (A 30 2) by omega)).1, bgn_pfi hi]; rfl
  | 4, _ => rw [if_neg (by decide), if_neg (by decide), if_neg (by decide), if_neg (by decide), if_pos (by decide), Ba_num_ok hb1 hb2 hu (by omega) h0 h1, Option.bind_some]; rfl
  | 5, _ => rw [if_neg (by decide), if_neg (by decide), if_neg (by decide), if_neg (by decide), if_neg (by decide), if_pos (by decide), Ba_uni_ok hb1 hb2 hu (by omega) h0 h1, Option.bind_some]; rfl
  | 6, _ =>
    have hl := buni_le (s := smN (A 31) i) hb1 hu
    rw [if_neg (by decide), if_neg (by decide), if_neg (by decide), if_neg (by decide), if_neg (by decide), if_neg (by decide), if_pos (by decide), Ba_from_ok hb1 hb2 hu (by omega) h0 h1, Option.bind_some]
    unfold Hp_flag Tu_lengthOf
    rw [atf_in _ (by omega) (by decide), CA_len hC, dec_le (by omega) (by split <;> omega)]
    show some _ = some (bI (bover (A 30 12) (A 30 11) (smN (A 31) i) (A 31 i)))
    congr 2
    unfold bover
    rw [← decide_not]
    apply decide_eq_decide.mpr
    omega
  | 7, _ =>
    rw [if_neg (by decide), if_neg (by decide), if_neg (by decide), if_neg (by decide), if_neg (by decide), if_neg (by decide), if_neg (by decide), if_pos (by decide)]
    unfold Co_widthOf
    rw [atf_in _ (by omega) (by decide), hC.2.2.2.1 i hi]; rfl
  | 8, _ => rw [if_neg (by decide), if_neg (by decide), if_neg (by decide), if_neg (by decide), if_neg (by decide), if_neg (by decide), if_neg (by decide), if_neg (by decide), Tu_par_ok hW.1.2.2.2.1 hn (CA_pit hC) hi, Option.bind_some]; rfl
theorem g_note {A : aS} {M : hyM} (hW : WFA A) (hC : CA A M) {i w : Nat} (hi : i < A 30 2) (hw : w ≤ 8) : (Hp_note (n3 i) (n3 w) M).bind rt = some (noV A i w) := by
  have hn := hW.1.1
  rw [Hp_note, CA_n hC, ixOk M hi (by omega)]
  dsimp only
  rw [show (0 : Int32) = n3 0 from rfl, show (8 : Int32) = n3 8 from rfl, rgOk M (Nat.zero_le _) hw (by decide)]
  dsimp only
  rw [note_val hW hC hi hw]
  rfl
theorem k_stp : ∀ t : Fin 12, ∀ p : Fin 49, Ke_stepOf (n3 t.val) (n3 (p.val + 36)) hM0 = some (n3 (stT t.val (p.val + 36))) ∧ stT t.val (p.val + 36) < 64 := by decide +kernel
theorem stp_ok {t p : Nat} (ht : t < 12) (hp : 36 ≤ p ∧ p ≤ 84) : (∀ M, Ke_stepOf (n3 t) (n3 p) M = some (n3 (stT t p))) ∧ stT t p < 64 := by
  obtain ⟨a, c⟩ := k_stp ⟨t, ht⟩ ⟨p - 36, by omega⟩
  dsimp only at a c
  rw [show p - 36 + 36 = p by omega] at a c
  exact ⟨fun M => a, c⟩
/-- is a pitch raised, its degree, its shape: by the class's own words -/
def raT (t p : Nat) : Bool := (Ke_isRaised (n3 t) (n3 p) hM0).getD false
def dgT (t p : Nat) : Int32 := (Ke_degreeOf (n3 t) (n3 p) hM0).getD 0
def shT (t p : Nat) : Int32 := (Ke_shapeOf (n3 t) (n3 p) hM0).getD 0
theorem k_tab : ∀ t : Fin 12, ∀ p : Fin 49, Ke_isRaised (n3 t.val) (n3 (p.val + 36)) hM0 = some (raT t.val (p.val + 36)) ∧ Ke_degreeOf (n3 t.val) (n3 (p.val + 36)) hM0 = some (dgT t.val (p.val + 36)) ∧ (raT t.val (p.val + 36) = false → Ke_shapeOf (n3 t.val) (n3 (p.val + 36)) hM0 = some (shT t.val (p.val + 36))) := by decide +kernel
theorem tab_ok {t p : Nat} (ht : t < 12) (hp : 36 ≤ p ∧ p ≤ 84) (M : hyM) : Ke_isRaised (n3 t) (n3 p) M = some (raT t p) ∧ Ke_degreeOf (n3 t) (n3 p) M = some (dgT t p) ∧ (raT t p = false → Ke_shapeOf (n3 t) (n3 p) M = some (shT t p)) := by
  have h := k_tab ⟨t, ht⟩ ⟨p - 36, by omega⟩
  dsimp only at h
  rw [show p - 36 + 36 = p by omega] at h
  exact h
def paV (A : aS) (i p : Nat) : Nat → Int32
  | 0 => n3 (A 32 (4 * i + p))
  | 1 => dgT (A 30 1) (A 32 (4 * i + p))
  | 2 => n3 (stT (A 30 1) (A 32 (4 * i + p)))
  | 3 => bI (raT (A 30 1) (A 32 (4 * i + p)))
  | 4 => if raT (A 30 1) (A 32 (4 * i + p)) = true then -1 else shT (A 30 1) (A 32 (4 * i + p))
  | _ => Ke_ledgerLines (n3 (stT (A 30 1) (A 32 (4 * i + p)))) (n3 p / 2) hM0
theorem part_val {A : aS} {M : hyM} (hW : WFA A) (hC : CA A M) {i p w : Nat} (hi : i < A 30 2) (hp : p < 4) (hw : w ≤ 5) : Hp_partProperty (n3 i) (n3 p) (n3 w) M = some (paV A i p w) := by
  have hn := hW.1.1
  have ht := hW.1.2.1
  have hg := hW.1.2.2.2.1 (4 * i + p) (by omega)
  obtain ⟨s1, s3⟩ := stp_ok ht hg
  obtain ⟨k1, k2, k3⟩ := tab_ok ht hg M
  have e1 := Tu_pitch_ok (CA_pit hC) (i := i) (p := p) (by omega) hp
  rw [Hp_partProperty, CA_t hC, e1, k1, Option.bind_some]
  match w, hw with
  | 0, _ => rw [if_pos (by decide)]; rfl
  | 1, _ => rw [if_neg (by decide), if_pos (by decide), k2, Option.bind_some]; rfl
  | 2, _ => rw [if_neg (by decide), if_neg (by decide), if_pos (by decide), s1 M, Option.bind_some]; rfl
  | 3, _ => rw [if_neg (by decide), if_neg (by decide), if_neg (by decide), if_pos (by decide)]; rfl
  | 4, _ =>
    rw [if_neg (by decide), if_neg (by decide), if_neg (by decide), if_neg (by decide), if_pos (by decide)]
    show _ = some (if raT (A 30 1) (A 32 (4 * i + p)) = true then -1 else shT (A 30 1) (A 32 (4 * i + p)))
    cases c : raT (A 30 1) (A 32 (4 * i + p)) with
    | true => rfl
    | false => rw [if_neg (by decide), if_neg (by decide), k3 c, Option.bind_some]
  | 5, _ => rw [if_neg (by decide), if_neg (by decide), if_neg (by decide), if_neg (by decide), if_neg (by decide), s1 M, Option.bind_some]; rfl
theorem g_part {A : aS} {M : hyM} (hW : WFA A) (hC : CA A M) {i p w : Nat} (hi : i < A 30 2) (hp : p < 4) (hw : w ≤ 5) : (Hp_part (n3 i) (n3 p) (n3 w) M).bind rt = some (paV A i p w) := by
  have hn := hW.1.1
  rw [Hp_part, CA_n hC, ixOk M hi (by omega)]
  dsimp only
  rw [show (4 : Int32) = n3 4 from rfl, ixOk M hp (by decide)]
  dsimp only
  rw [show (0 : Int32) = n3 0 from rfl, show (5 : Int32) = n3 5 from rfl, rgOk M (Nat.zero_le _) hw (by decide)]
  dsimp only
  rw [part_val hW hC hi hp hw]
  rfl
theorem k_ab1 : ∀ a : Fin 64, ∀ b : Fin 64, (!decide (1 < jabs (n3 a.val - n3 b.val))) = decide (a.val - b.val + (b.val - a.val) ≤ 1) := by decide +kernel
def heV (t u l : Nat) : Int32 := if u = l then 1 else (if stT t u - stT t l + (stT t l - stT t u) ≤ 1 then 2 else 0) + (if u < l then 4 else 0)
theorem g_heads {A : aS} {M : hyM} (hW : WFA A) (hC : CA A M) {i s : Nat} (hi : i < A 30 2) (hs : s < 2) : (Hp_heads (n3 i) (n3 s) M).bind rt = some (heV (A 30 1) (A 32 (4 * i + 2 * s)) (A 32 (4 * i + (2 * s + 1)))) := by
  have hn := hW.1.1
  have ht := hW.1.2.1
  have g1 := hW.1.2.2.2.1 (4 * i + 2 * s) (by omega)
  have g2 := hW.1.2.2.2.1 (4 * i + (2 * s + 1)) (by omega)
  have e1 := Tu_pitch_ok (CA_pit hC) (i := i) (p := 2 * s) (by omega) (by omega)
  have e2 := Tu_pitch_ok (CA_pit hC) (i := i) (p := 2 * s + 1) (by omega) (by omega)
  obtain ⟨s1, s3⟩ := stp_ok ht g1
  obtain ⟨t1, t3⟩ := stp_ok ht g2
  have m1 : 2 * n3 s = n3 (2 * s) := by rw [l_2, n3_mul]
  have m2 : n3 (2 * s) + 1 = n3 (2 * s + 1) := n3_s _
  have hk := k_ab1 ⟨stT (A 30 1) (A 32 (4 * i + 2 * s)), s3⟩ ⟨stT (A 30 1) (A 32 (4 * i + (2 * s + 1))), t3⟩
  dsimp only at hk
  have hv : Hp_headsOf (n3 i) (n3 s) M = some (heV (A 30 1) (A 32 (4 * i + 2 * s)) (A 32 (4 * i + (2 * s + 1)))) := by
    rw [Hp_headsOf, m1, m2, CA_t hC, e1, e2, s1 M, t1 M]
    simp only [Option.bind_some]
    unfold heV
    generalize A 32 (4 * i + 2 * s) = u at *
    generalize A 32 (4 * i + (2 * s + 1)) = l at *
    rw [hk, dec_eq (by omega) (by omega), dec_le (by omega) (by omega)]
    unfold Hp_flag
    by_cases c : u = l
    · subst c
      rw [if_pos rfl]
      simp only [decide_true, Nat.le_refl, if_true, Bool.not_true]
      rfl
    · rw [if_neg c]
      simp only [c, decide_false, Bool.false_eq_true, if_false]
      by_cases d : l ≤ u
      · rw [decide_eq_true d, if_neg (show ¬ u < l by omega)]
        by_cases z : stT (A 30 1) u - stT (A 30 1) l + (stT (A 30 1) l - stT (A 30 1) u) ≤ 1
        · rw [decide_eq_true z, if_pos z]; rfl
        · rw [decide_eq_false z, if_neg z]; rfl
      · rw [decide_eq_false d, if_pos (show u < l by omega)]
        by_cases z : stT (A 30 1) u - stT (A 30 1) l + (stT (A 30 1) l - stT (A 30 1) u) ≤ 1
        · rw [decide_eq_true z, if_pos z]; rfl
        · rw [decide_eq_false z, if_neg z]; rfl
  rw [Hp_heads, CA_n hC, ixOk M hi (by omega)]
  dsimp only
  rw [show (2 : Int32) = n3 2 from rfl, ixOk M hs (by decide)]
  dsimp only
  rw [hv]
  rfl
def phV (A : aS) (p : Nat) : Nat → Int32
  | 0 => n3 (pfi (eA A) (A 30 2) p)
  | 1 => n3 (pla (eA A) (A 30 2) p)
  | 2 => n3 (sly (eA A) (sA A) (A 30 2) p)
  | 3 => n3 (phw (wA A) (eA A) (A 30 2) p)
  | 4 => n3 (ssf (phw (wA A) (eA A) (A 30 2)) (A 30 13) (p + 1)).1
  | _ => n3 ((LA A).count p)
theorem g_phrase {A : aS} {M : hyM} (hW : WFA A) (hC : CA A M) {p w : Nat} (hp : p < mA A) (hw : w ≤ 5) : rt (Hp_phrase (n3 p) (n3 w) M) = some (phV A p w) := by
  have hm := mA_lt hW
  obtain ⟨q1, q2, q3⟩ := hC.2.1.2.2.2 p hp
  rw [Hp_phrase, show M.1 12 5 = n3 (mA A) from hC.2.1.1, ixOk M hp (by omega)]
  dsimp only
  rw [show (0 : Int32) = n3 0 from rfl, show (5 : Int32) = n3 5 from rfl, rgOk M (Nat.zero_le _) hw (by decide)]
  dsimp only
  unfold Hp_phraseProperty
  match w, hw with
  | 0, _ => rw [if_pos (by decide)]; unfold Ph_firstOf; rw [atf_in _ (by omega) (by decide), q1]; rfl
  | 1, _ => rw [if_neg (by decide), if_pos (by decide)]; unfold Ph_lastOf; rw [atf_in _ (by omega) (by decide), q2]; rfl
  | 2, _ => rw [if_neg (by decide), if_neg (by decide), if_pos (by decide)]; unfold Ph_syllablesOf; rw [atf_in _ (by omega) (by decide), q3]; rfl
  | 3, _ => rw [if_neg (by decide), if_neg (by decide), if_neg (by decide), if_pos (by decide)]; unfold Co_widthOfPhrase; rw [atf_in _ (by omega) (by decide), (hC.2.2.2.2.1 p hp).1]; rfl
  | 4, _ => rw [if_neg (by decide), if_neg (by decide), if_neg (by decide), if_neg (by decide), if_pos (by decide)]; unfold Co_systemOf; rw [atf_in _ (by omega) (by decide), (hC.2.2.2.2.1 p hp).2]; rfl
  | 5, _ => rw [if_neg (by decide), if_neg (by decide), if_neg (by decide), if_neg (by decide), if_neg (by decide)]; unfold Or_timesOf; rw [atf_in _ (by omega) (by decide), hC.2.2.1.2.2 p hp]; rfl
theorem g_sung {A : aS} {M : hyM} (hW : WFA A) (hC : CA A M) {k p : Nat} (hk : (LA A)[k]? = some p) : rt (Hp_sung (n3 k) M) = some (n3 p) := by
  have hkl := (List.getElem?_eq_some_iff.mp hk).1
  have hL := LA_len hW
  rw [Hp_sung, show M.1 18 2 = n3 (LA A).length from hC.2.2.1.1, ixOk M hkl (by omega)]
  dsimp only
  rw [CA_at hW hC hk]
  rfl
theorem g_fit {A : aS} {M : hyM} (hW : WFA A) (hC : CA A M) {v : Nat} (hv : v < 4) : (Hp_fit (n3 v) M).bind rt = some (fitV A v) := by
  rw [Hp_fit, show (4 : Int32) = n3 4 from rfl, ixOk M hv (by decide)]
  dsimp only
  rw [fit_class hW hC hv]
  rfl
abbrev rwT (A : aS) (r : Nat) : Nat → Nat := (XA A).1 r
abbrev rwL (A : aS) (r : Nat) : Nat := (XA A).2 r
def liV (A : aS) (v l : Nat) : Nat → Int32
  | 0 => n3 (nsS (rwT A (v * 24 + l)) (rwL A (v * 24 + l)))
  | 1 => n3 (wdS (rwT A (v * 24 + l)) (rwL A (v * 24 + l)))
  | _ => n3 (loS (rwT A (v * 24 + l)) (rwL A (v * 24 + l)))
theorem g_line {A : aS} {M : hyM} (hW : WFA A) (hC : CA A M) {v l w : Nat} (hv : v < 4) (hl : l < 24) (hw : w ≤ 2) : (Hp_line (n3 v) (n3 l) (n3 w) M).bind rt = some (liV A v l w) := by
  have hV : VA (XA A) M := hC.1.2.2.2.2.1
  have hv1 := hV (v * 24 + l) (by omega)
  have hVl := hW.2.2.2.1 (v * 24 + l)
  rw [Hp_line, show (4 : Int32) = n3 4 from rfl, ixOk M hv (by decide)]
  dsimp only
  rw [show (24 : Int32) = n3 24 from rfl, ixOk M hl (by decide)]
  dsimp only
  rw [show (0 : Int32) = n3 0 from rfl, show (2 : Int32) = n3 2 from rfl, rgOk M (Nat.zero_le _) hw (by decide)]
  dsimp only
  match w, hw with
  | 0, _ => rw [Hp_lineProperty, if_pos (by decide), Ve_syl_ok hv1 hv hl]; rfl
  | 1, _ => rw [Hp_lineProperty, if_neg (by decide), if_pos (by decide), Ve_words_ok hv1 hVl hv hl, Option.bind_some, words_eq hVl]; rfl
  | 2, _ => rw [Hp_lineProperty, if_neg (by decide), if_neg (by decide), Ve_longest_ok hv1 hVl hv hl, Option.bind_some]; rfl
/-- what stands below the note at place j of the sung phrase k -/
def beV (A : aS) (v k i : Nat) (w : Nat) : Int32 :=
  if k < 24 ∧ qf (eA A) (sA A) i = true ∧ slo (eA A) (sA A) i < nsS (rwT A (v * 24 + k)) (rwL A (v * 24 + k)) then
    (match w with
    | 0 => n3 (slo (eA A) (sA A) i)
    | 1 => n3 (szS (rwT A (v * 24 + k)) (rwL A (v * 24 + k)) (slo (eA A) (sA A) i))
    | 2 => n3 (sgS (rwT A (v * 24 + k)) (rwL A (v * 24 + k)) (slo (eA A) (sA A) i))
    | _ => bI (lkS (rwT A (v * 24 + k)) (rwL A (v * 24 + k)) (slo (eA A) (sA A) i)))
  else -1
theorem g_below {A : aS} {M : hyM} (hW : WFA A) (hC : CA A M) {v k p j w : Nat} (hv : v < 4) (hk : (LA A)[k]? = some p) (hj : pfi (eA A) (A 30 2) p + j ≤ pla (eA A) (A 30 2) p) (hw : w ≤ 3) :
    rt (Hp_below (n3 v) (n3 k) (n3 j) (n3 w) M) = some (beV A v k (pfi (eA A) (A 30 2) p + j) w) := by
  have hL := LA_len hW
  have hkl := (List.getElem?_eq_some_iff.mp hk).1
  have hp : p < phc (eA A) (A 30 2) := LA_mem hW (List.mem_of_getElem? hk)
  have hm := mA_lt hW
  have hn := hW.1.1
  have hpm : p < 40 := by unfold mA at hm; omega
  have hle := pfi_le_pla hp
  have hla := (pla_spec hp).1
  have e3a : Ph_notesOf (Or_phraseAt (n3 k) M) M = n3 (pla (eA A) (A 30 2) p - pfi (eA A) (A 30 2) p + 1) := by
    rw [CA_at hW hC hk]
    unfold Ph_notesOf Ph_lastOf Ph_firstOf
    rw [atf_in _ hpm (by decide), atf_in _ hpm (by decide), (hC.2.1.2.2.2 _ hp).1, (hC.2.1.2.2.2 _ hp).2.1, n3_sub hle, n3_s]
  rw [Hp_below, show (4 : Int32) = n3 4 from rfl, ixOk M hv (by decide)]
  dsimp only
  rw [show M.1 18 2 = n3 (LA A).length from hC.2.2.1.1, ixOk M hkl (by omega)]
  dsimp only
  rw [e3a, ixOk M (show j < pla (eA A) (A 30 2) p - pfi (eA A) (A 30 2) p + 1 by omega) (by omega)]
  dsimp only
  rw [show (0 : Int32) = n3 0 from rfl, show (3 : Int32) = n3 3 from rfl, rgOk M (Nat.zero_le _) hw (by decide)]
  dsimp only
  have hi : pfi (eA A) (A 30 2) p + j < A 30 2 := by omega
  generalize hI : pfi (eA A) (A 30 2) p + j = i at *
  have hsl := slo_le (eA A) (sA A) i
  have hV : VA (XA A) M := hC.1.2.2.2.2.1
  have en : Ph_firstOf (Or_phraseAt (n3 k) M) M + n3 j = n3 i := by
    rw [CA_at hW hC hk]
    unfold Ph_firstOf
    rw [atf_in _ hpm (by decide), (hC.2.1.2.2.2 p hp).1, n3_add, hI]
  have es : Ph_syllableOf (n3 i) M = if qf (eA A) (sA A) i = true then n3 (slo (eA A) (sA A) i) else -1 := by
    unfold Ph_syllableOf
    rw [atf_in _ (by omega) (by decide), hC.2.1.2.2.1 i hi]
  unfold Hp_belowProperty
  rw [en, es]
  unfold beV
  by_cases c1 : 24 ≤ k
  · have : ∀ x : Int32, Ve_hasSyllable (n3 v) (n3 k) x M = false := by
      intro x
      unfold Ve_hasSyllable
      rw [l_24, if_pos (by rw [n3_le (by omega) (by omega)]; exact c1)]
    rw [this, if_neg (by decide), if_neg (by omega)]
    rfl
  cases hq : qf (eA A) (sA A) i with
  | false =>
    rw [if_neg (show ¬ (false = true) by decide), hasSyl_m1 (by omega), if_neg (by decide), if_neg (fun z => absurd z.2.1 (by decide))]
    rfl
  | true =>
    have hVl := hW.2.2.2.1 (v * 24 + k)
    simp only [if_true, true_and]
    rw [hasSyl_ok hV hW.2.2.2.1 hv (by omega) (by omega)]
    by_cases c2 : slo (eA A) (sA A) i < nsS (rwT A (v * 24 + k)) (rwL A (v * 24 + k))
    · rw [if_pos (show decide (slo (eA A) (sA A) i < nsS (rwT A (v * 24 + k)) (rwL A (v * 24 + k))) = true by simpa using c2), if_pos (show k < 24 ∧ slo (eA A) (sA A) i < nsS (rwT A (v * 24 + k)) (rwL A (v * 24 + k)) from ⟨by omega, c2⟩)]
      match w, hw with
      | 0, _ => rw [if_pos (by decide)]; rfl
      | 1, _ => rw [if_neg (by decide), if_pos (by decide), Ve_len_ok (hV _ (by omega)) hVl hv (by omega) c2]; rfl
      | 2, _ => rw [if_neg (by decide), if_neg (by decide), if_pos (by decide), Ve_sig_ok (hV _ (by omega)) hVl hv (by omega) c2]; rfl
      | 3, _ => rw [if_neg (by decide), if_neg (by decide), if_neg (by decide), Ve_lnk_ok (hV _ (by omega)) hVl hv (by omega) c2]; rfl
    · rw [if_neg (show ¬ decide (slo (eA A) (sA A) i < nsS (rwT A (v * 24 + k)) (rwL A (v * 24 + k))) = true by simpa using c2), if_neg (show ¬ (k < 24 ∧ slo (eA A) (sA A) i < nsS (rwT A (v * 24 + k)) (rwL A (v * 24 + k))) from fun z => c2 z.2)]
      rfl
theorem g_distance {A : aS} {M : hyM} (hW : WFA A) (hC : CA A M) {m : Nat} (hm : m < A 30 16) : (Hp_distance (n3 m) M).bind rt = some (dsV A m) := by
  have h8 := hW.2.2.2.2.1.1
  rw [Hp_distance, show M.1 25 2 = n3 (A 30 16) from hC.1.2.2.2.2.2.1.1, ixOk M hm (by omega)]
  dsimp only
  rw [dist_class hW hC hm]
  rfl
theorem g_metre {A : aS} {M : hyM} (hW : WFA A) (hC : CA A M) {m j : Nat} (hm : m < A 30 16) (hj : j < 2147483648) : rt (Hp_metre (n3 m) (n3 j) M) = some (if j < A 40 m then n3 (A 41 (24 * m + j)) else -1) := by
  have h8 := hW.2.2.2.2.1.1
  obtain ⟨w1, w2, w3⟩ := hW.2.2.2.2.1.2 m hm
  obtain ⟨b1, b2⟩ := hC.1.2.2.2.2.2.1.2 m hm
  have es : Bo_sizeOf (n3 m) M = n3 (A 40 m) := by unfold Bo_sizeOf; rw [atf_in _ (by omega) (by decide), b1]
  rw [Hp_metre, show M.1 25 2 = n3 (A 30 16) from hC.1.2.2.2.2.2.1.1, ixOk M hm (by omega)]
  dsimp only
  rw [if_neg (show ¬ n3 j < 0 by rw [l_0, n3_lt (by omega) (by omega)]; omega), es, dec_lt (by omega) (by omega)]
  by_cases c : j < A 40 m
  · rw [decide_eq_true c, if_neg (by decide), if_pos c]
    unfold Bo_numberAt
    rw [l_24, n3_mul, n3_add, atf_in _ (by omega) (by decide), b2 j c]
    rfl
  · rw [decide_eq_false c, if_pos (by decide), if_neg c]
    rfl
