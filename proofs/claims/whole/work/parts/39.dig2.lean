/-! The digest, second half. -/
section DIG2
variable {A : aS} {M N : hyM}
def fvD (M : hyM) (p w : Nat) : Int32 := Hp_phraseProperty (n3 p) (n3 w) M
theorem phv (hW : WFA A) (hC : CA A M) (hR : RLa A N) {p w : Nat} (hp : p < mA A) (hw : w ≤ 5) : Rf_phraseNow (n3 p) (n3 w) N = some (fvD M p w) := by
  obtain ⟨v, h1, h2⟩ := phrase_alk hW hC hR hp hw
  rw [h2]
  exact h1.symm
def svD (M : hyM) (k : Nat) : Int32 := Or_phraseAt (n3 k) M
def phD (M : hyM) (A : aS) (h : Int64) : Int64 := fo (stx (svD M)) (LA A).length (fo (fun p => fo (stx (fvD M p)) 6) (mA A) h)
theorem dig_ph_class (hW : WFA A) (hC : CA A M) (h : Int64) : Hp_mixedPhrases h M = some (phD M A h) := by
  have hm := mA_lt hW
  have hL := LA_len hW
  have h12 : M.1 12 5 = n3 (mA A) := hC.2.1.1
  have h18 : M.1 18 2 = n3 (LA A).length := hC.2.2.1.1
  have inner : ∀ p x, Hp_mixedPhrases_L20 M (n3 p) hyFu x (n3 0) = some (fo (stx (fvD M p)) 6 x, n3 6) := by
    intro p x
    refine lpE (fun f (s : Int64 × Int32) => Hp_mixedPhrases_L20 M (n3 p) f s.1 s.2) (fun k => (fo (stx (fvD M p)) k x, n3 k)) 6 _ ?_ ?_ hyFu 0 (Nat.zero_le _) (hyFu_big (by omega))
    · intro f k hk
      dsimp only
      rw [Hp_mixedPhrases_L20, l_6, if_neg (by rw [n3_le (by omega) (by omega)]; omega), n3_s]
      rfl
    · intro f
      dsimp only
      rw [Hp_mixedPhrases_L20, l_6, if_pos (by rw [n3_le (by omega) (by omega)]; omega)]
  have k1 := lpE (fun f (s : Int64 × Int32) => Hp_mixedPhrases_L5 M f s.1 s.2) (fun k => (fo (fun p => fo (stx (fvD M p)) 6) k h, n3 k)) (mA A) (fo (fun p => fo (stx (fvD M p)) 6) (mA A) h, n3 (mA A)) ?_ ?_ hyFu 0 (Nat.zero_le _) (hyFu_big (by omega))
  · have k2 := lpE (fun f (s : Int64 × Int32) => Hp_mixedPhrases_L56 M f s.1 s.2) (fun k => (fo (stx (svD M)) k (fo (fun p => fo (stx (fvD M p)) 6) (mA A) h), n3 k)) (LA A).length (phD M A h, n3 (LA A).length) ?_ ?_ hyFu 0 (Nat.zero_le _) (hyFu_big (by omega))
    · dsimp only at k1 k2
      have e0 : fo (fun p => fo (stx (fvD M p)) 6) 0 h = h := rfl
      have e1 : ∀ x, fo (stx (svD M)) 0 x = x := fun _ => rfl
      rw [e0] at k1
      rw [e1] at k2
      rw [Hp_mixedPhrases, show (0 : Int32) = n3 0 from rfl, k1, Option.bind_some]
      dsimp only
      rw [k2, Option.bind_some]
    · intro f k hk
      dsimp only
      rw [Hp_mixedPhrases_L56, h18, if_neg (by rw [n3_le (by omega) (by omega)]; omega), n3_s]
      rfl
    · intro f
      dsimp only
      rw [Hp_mixedPhrases_L56, h18, if_pos (by rw [n3_le (by omega) (by omega)]; omega)]
      rfl
  · intro f k hk
    dsimp only
    rw [Hp_mixedPhrases_L5, h12, if_neg (by rw [n3_le (by omega) (by omega)]; omega), show (0 : Int32) = n3 0 from rfl, inner, Option.bind_some]
    dsimp only
    rw [n3_s]
    rfl
  · intro f
    dsimp only
    rw [Hp_mixedPhrases_L5, h12, if_pos (by rw [n3_le (by omega) (by omega)]; omega)]
theorem dig_ph_ref (hW : WFA A) (hC : CA A M) (hR : RLa A N) (h : Int64) :
    Rf_digest_L63 hyFu (n3 0) (DN N h) = some (n3 (6 * mA A), DN N (fo (fun p => fo (stx (fvD M p)) 6) (mA A) h)) ∧ ∀ x, Rf_digest_L99 hyFu (n3 0) (DN N x) = some (n3 (LA A).length, DN N (fo (stx (svD M)) (LA A).length x)) := by
  have hm := mA_lt hW
  have hL := LA_len hW
  have h21 : ∀ x, (DN N x).1 30 21 = n3 (mA A) := fun x => hR.1.2.1.2.2.2.2.1
  have h25 : ∀ x, (DN N x).1 30 25 = n3 (LA A).length := fun x => hR.1.2.2.2.2.1.1
  constructor
  · have en := fo_nest (fun p => stx (fvD M p)) (show 0 < 6 by decide) (mA A) h
    rw [← en, Nat.mul_comm]
    refine lpE (fun f (s : Int32 × hyM) => Rf_digest_L63 f s.1 s.2) (fun k => (n3 k, DN N (fo (fun q => stx (fvD M (q / 6)) (q % 6)) k h))) (mA A * 6) _ ?_ ?_ hyFu 0 (Nat.zero_le _) (hyFu_big (by omega))
    · intro f k hk
      dsimp only
      rw [Rf_digest_L63, h21, l_6, n3_mul, if_neg (by rw [n3_le (by omega) (by omega)]; omega), mod_n3 (by omega) (by omega), n3_div (by omega) (by omega), phv hW hC (hR.dn _) (show k / 6 < mA A by omega) (show k % 6 ≤ 5 by omega), Option.bind_some, Option.bind_some, DN_mix, n3_s]
      rfl
    · intro f
      dsimp only
      rw [Rf_digest_L63, h21, l_6, n3_mul, if_pos (by rw [n3_le (by omega) (by omega)]; omega)]
  · intro x
    refine lpE (fun f (s : Int32 × hyM) => Rf_digest_L99 f s.1 s.2) (fun k => (n3 k, DN N (fo (stx (svD M)) k x))) (LA A).length _ ?_ ?_ hyFu 0 (Nat.zero_le _) (hyFu_big (by omega))
    · intro f k hk
      have hkp : (LA A)[k]? = some ((LA A)[k]'hk) := List.getElem?_eq_getElem hk
      have e1 : svD M k = n3 ((LA A)[k]'hk) := CA_at hW hC hkp
      have e2 : ∀ y, (DN N y).1 46 k = n3 ((LA A)[k]'hk) := fun y => hR.1.2.2.2.2.1.2 k _ hkp
      dsimp only
      rw [Rf_digest_L99, h25, if_neg (by rw [n3_le (by omega) (by omega)]; omega), ldE_in _ (by omega) (by decide), Option.bind_some, e2, Option.bind_some, DN_mix, n3_s, ← e1]
      rfl
    · intro f
      dsimp only
      rw [Rf_digest_L99, h25, if_pos (by rw [n3_le (by omega) (by omega)]; omega)]
/-! verses -/
def lvD (M : hyM) (v l w : Nat) : Int32 := (Hp_lineProperty (n3 v) (n3 l) (n3 w) M).getD 0
def veD (M : hyM) (A : aS) (v : Nat) (h : Int64) : Int64 := fo (fun l => fo (stx (lvD M v l)) 3) 24 (hx h (fitV A v))
theorem dig_ve_class (hW : WFA A) (hC : CA A M) (hR : RI A N) {v : Nat} (hv : v < 4) (h : Int64) : Hp_mixedVerse h (n3 v) M = some (veD M A v h) := by
  have inner : ∀ l, l < 24 → ∀ x, Hp_mixedVerse_L25 (n3 v) M (n3 l) hyFu x (n3 0) = some (fo (stx (lvD M v l)) 3 x, n3 3) := by
    intro l hl x
    refine lpE (fun f (s : Int64 × Int32) => Hp_mixedVerse_L25 (n3 v) M (n3 l) f s.1 s.2) (fun k => (fo (stx (lvD M v l)) k x, n3 k)) 3 _ ?_ ?_ hyFu 0 (Nat.zero_le _) (hyFu_big (by omega))
    · intro f k hk
      have hh := (alk_get (line_alk hW hC hR hv hl (show k ≤ 2 by omega))).1
      dsimp only
      rw [Hp_mixedVerse_L25, l_3, if_neg (by rw [n3_le (by omega) (by omega)]; omega), hh, Option.bind_some, n3_s]
      rfl
    · intro f
      dsimp only
      rw [Hp_mixedVerse_L25, l_3, if_pos (by rw [n3_le (by omega) (by omega)]; omega)]
  have k1 := lpE (fun f (s : Int64 × Int32) => Hp_mixedVerse_L15 (n3 v) M f s.1 s.2) (fun k => (fo (fun l => fo (stx (lvD M v l)) 3) k (hx h (fitV A v)), n3 k)) 24 (veD M A v h, n3 24) ?_ ?_ hyFu 0 (Nat.zero_le _) (hyFu_big (by omega))
  · dsimp only at k1
    have e1 : ∀ x, fo (fun l => fo (stx (lvD M v l)) 3) 0 x = x := fun _ => rfl
    rw [e1] at k1
    rw [Hp_mixedVerse, fit_class hW hC hv, Option.bind_some, show (0 : Int32) = n3 0 from rfl]
    rw [show Hp_mixed h (fitV A v).toInt64 M = hx h (fitV A v) from rfl, k1, Option.bind_some]
  · intro f k hk
    dsimp only
    rw [Hp_mixedVerse_L15, l_24, if_neg (by rw [n3_le (by omega) (by omega)]; omega), show (0 : Int32) = n3 0 from rfl, inner k hk, Option.bind_some]
    dsimp only
    rw [n3_s]
    rfl
  · intro f
    dsimp only
    rw [Hp_mixedVerse_L15, l_24, if_pos (by rw [n3_le (by omega) (by omega)]; omega)]
    rfl
theorem dig_ve (hW : WFA A) (hC : CA A M) (hR : RLa A N) (h : Int64) :
    Hp_digest_L78 M hyFu h (n3 0) = some (fo (veD M A) 4 h, n3 4) ∧ Rf_mixVerses_L2 hyFu (n3 0) (DN N h) = some (n3 4, DN N (fo (veD M A) 4 h)) := by
  constructor
  · refine lpE (fun f (s : Int64 × Int32) => Hp_digest_L78 M f s.1 s.2) (fun k => (fo (veD M A) k h, n3 k)) 4 _ ?_ ?_ hyFu 0 (Nat.zero_le _) (hyFu_big (by omega))
    · intro f k hk
      dsimp only
      rw [Hp_digest_L78, l_4, if_neg (by rw [n3_le (by omega) (by omega)]; omega), dig_ve_class hW hC hR.1.1 hk, Option.bind_some, n3_s, fo_s]
    · intro f
      dsimp only
      rw [Hp_digest_L78, l_4, if_pos (by rw [n3_le (by omega) (by omega)]; omega)]
  · have inner : ∀ v, v < 4 → ∀ x, Rf_mixVerses_L19 (n3 v) hyFu (n3 0) (DN N x) = some (n3 72, DN N (fo (fun l => fo (stx (lvD M v l)) 3) 24 x)) := by
      intro v hv x
      have en := fo_nest (fun l => stx (lvD M v l)) (show 0 < 3 by decide) 24 x
      rw [← en]
      refine lpE (fun f (s : Int32 × hyM) => Rf_mixVerses_L19 (n3 v) f s.1 s.2) (fun k => (n3 k, DN N (fo (fun q => stx (lvD M v (q / 3)) (q % 3)) k x))) (24 * 3) _ ?_ ?_ hyFu 0 (Nat.zero_le _) (hyFu_big (by omega))
      · intro f k hk
        have hh := (alk_get (line_alk hW hC (hR.dn (fo (fun q => stx (lvD M v (q / 3)) (q % 3)) k x)).1.1 hv (show k / 3 < 24 by omega) (show k % 3 ≤ 2 by omega))).2
        dsimp only
        rw [Rf_mixVerses_L19, l_72, if_neg (by rw [n3_le (by omega) (by omega)]; omega), l_3, mod_n3 (by omega) (by omega), n3_div (by omega) (by omega), l_24, n3_mul, n3_add, Nat.mul_comm 24 v, hh, Option.bind_some, Option.bind_some, DN_mix, n3_s]
        rfl
      · intro f
        dsimp only
        rw [Rf_mixVerses_L19, l_72, if_pos (by rw [n3_le (by omega) (by omega)]; omega)]
    refine lpE (fun f (s : Int32 × hyM) => Rf_mixVerses_L2 f s.1 s.2) (fun k => (n3 k, DN N (fo (veD M A) k h))) 4 _ ?_ ?_ hyFu 0 (Nat.zero_le _) (hyFu_big (by omega))
    · intro f k hk
      dsimp only
      rw [Rf_mixVerses_L2, l_4, if_neg (by rw [n3_le (by omega) (by omega)]; omega), fit_ref hW (hR.dn _).1 hk, Option.bind_some, Option.bind_some, DN_mix, show (0 : Int32) = n3 0 from rfl, inner k hk, Option.bind_some]
      dsimp only
      rw [n3_s, fo_s (veD M A) k]
      rfl
    · intro f
      dsimp only
      rw [Rf_mixVerses_L2, l_4, if_pos (by rw [n3_le (by omega) (by omega)]; omega)]
/-! below the first sung phrase -/
def bvD (M : hyM) (v j w : Nat) : Int32 := Hp_belowProperty (n3 v) (n3 0) (n3 j) (n3 w) M
/-- places of the first sung phrase -/
def many (A : aS) : Nat := match (LA A)[0]? with
  | some p => pla (eA A) (A 30 2) p + 1 - pfi (eA A) (A 30 2) p
  | none => 0
theorem many_le (hW : WFA A) : many A ≤ 40 := by
  unfold many
  cases h : (LA A)[0]? with
  | none => exact Nat.zero_le _
  | some p =>
    have := (pla_spec (e := eA A) (n := A 30 2) (p := p) (LA_mem hW (List.mem_of_getElem? h))).1
    have := hW.1.1
    dsimp only; omega
theorem dig_be_class (hW : WFA A) (hC : CA A M) (h : Int64) : Hp_digest_L98 M hyFu h (n3 0) = some (fo (fun v => fo (fun j => fo (stx (bvD M v j)) 4) (many A)) 4 h, n3 4) := by
  have hL := LA_len hW
  have hmy := many_le hW
  have h18 : M.1 18 2 = n3 (LA A).length := hC.2.2.1.1
  have hcnt : (if M.1 18 2 ≤ 0 then 0 else Ph_notesOf (Or_phraseAt 0 M) M) = n3 (many A) := by
    rw [h18, l_0, ite_le (by omega) (by omega)]
    unfold many
    by_cases c : (LA A).length ≤ 0
    · rw [if_pos c, List.getElem?_eq_none (by omega)]
    · have hk : 0 < (LA A).length := by omega
      have hkp := List.getElem?_eq_getElem hk
      have hp : (LA A)[0] < phc (eA A) (A 30 2) := LA_mem hW (List.getElem_mem hk)
      have hle := pfi_le_pla hp
      have hm := mA_lt hW
      have hp40 : (LA A)[0] < 40 := by unfold mA at hm; omega
      rw [if_neg c, hkp, CA_at hW hC hkp]
      unfold Ph_notesOf Ph_lastOf Ph_firstOf
      rw [atf_in _ hp40 (by decide), atf_in _ hp40 (by decide), (hC.2.1.2.2.2 _ hp).1, (hC.2.1.2.2.2 _ hp).2.1, n3_sub hle, n3_s]
      dsimp only
      congr 1; omega
  have in1 : ∀ v j x, Hp_mixedBelow_L47 (n3 v) M (n3 j) hyFu x (n3 0) = some (fo (stx (bvD M v j)) 4 x, n3 4) := by
    intro v j x
    refine lpE (fun f (s : Int64 × Int32) => Hp_mixedBelow_L47 (n3 v) M (n3 j) f s.1 s.2) (fun k => (fo (stx (bvD M v j)) k x, n3 k)) 4 _ ?_ ?_ hyFu 0 (Nat.zero_le _) (hyFu_big (by omega))
    · intro f k hk
      dsimp only
      rw [Hp_mixedBelow_L47, l_4, if_neg (by rw [n3_le (by omega) (by omega)]; omega), n3_s]
      rfl
    · intro f
      dsimp only
      rw [Hp_mixedBelow_L47, l_4, if_pos (by rw [n3_le (by omega) (by omega)]; omega)]
  have in2 : ∀ v x, Hp_mixedBelow x (n3 v) M = some (fo (fun j => fo (stx (bvD M v j)) 4) (many A) x) := by
    intro v x
    have k1 := lpE (fun f (s : Int64 × Int32) => Hp_mixedBelow_L37 (n3 v) M f s.1 s.2) (fun k => (fo (fun j => fo (stx (bvD M v j)) 4) k x, n3 k)) (many A) (fo (fun j => fo (stx (bvD M v j)) 4) (many A) x, n3 (many A)) ?_ ?_ hyFu 0 (Nat.zero_le _) (hyFu_big (by omega))
    · dsimp only at k1
      have e1 : fo (fun j => fo (stx (bvD M v j)) 4) 0 x = x := rfl
      rw [e1] at k1
      rw [Hp_mixedBelow, show (0 : Int32) = n3 0 from rfl, k1, Option.bind_some]
    · intro f k hk
      dsimp only
      rw [Hp_mixedBelow_L37, hcnt, if_neg (by rw [n3_le (by omega) (by omega)]; omega), show (0 : Int32) = n3 0 from rfl, in1, Option.bind_some]
      dsimp only
      rw [n3_s]
      rfl
    · intro f
      dsimp only
      rw [Hp_mixedBelow_L37, hcnt, if_pos (by rw [n3_le (by omega) (by omega)]; omega)]
  refine lpE (fun f (s : Int64 × Int32) => Hp_digest_L98 M f s.1 s.2) (fun k => (fo (fun v => fo (fun j => fo (stx (bvD M v j)) 4) (many A)) k h, n3 k)) 4 _ ?_ ?_ hyFu 0 (Nat.zero_le _) (hyFu_big (by omega))
  · intro f k hk
    dsimp only
    rw [Hp_digest_L98, l_4, if_neg (by rw [n3_le (by omega) (by omega)]; omega), in2, Option.bind_some, n3_s]
    rfl
  · intro f
    dsimp only
    rw [Hp_digest_L98, l_4, if_pos (by rw [n3_le (by omega) (by omega)]; omega)]
theorem dig_mv_loop (hW : WFA A) (hC : CA A M) (hR : RLa A N) {p : Nat} (hkp : (LA A)[0]? = some p) (hmp : many A = pla (eA A) (A 30 2) p + 1 - pfi (eA A) (A 30 2) p) (x : Int64) :
    Rf_mixVerses_L96 (n3 (pla (eA A) (A 30 2) p)) (n3 (pfi (eA A) (A 30 2) p)) hyFu (n3 0) (DN N x) = some (n3 (4 * many A * 4), DN N (fo (fun q => stx (bvD M (q / 4 / many A) (q / 4 % many A)) (q % 4)) (4 * many A * 4) x)) := by
  have hL := LA_len hW
  have hmy := many_le hW
  have hp : p < phc (eA A) (A 30 2) := LA_mem hW (List.mem_of_getElem? hkp)
  have hle := pfi_le_pla hp
  have hla := (pla_spec hp).1
  have hn := hW.1.1
  have hm := mA_lt hW
  have hp40 : p < 40 := by unfold mA at hm; omega
  have hmy1 : 0 < many A := by omega
  have e46 : ∀ y, (DN N y).1 46 0 = n3 p := fun y => hR.1.2.2.2.2.1.2 0 _ hkp
  have e43 : ∀ y, (DN N y).1 43 p = n3 (pfi (eA A) (A 30 2) p) := fun y => (hR.1.2.1.2.2.2.2.2.2 p hp).1
  have ediff : n3 (pla (eA A) (A 30 2) p) - n3 (pfi (eA A) (A 30 2) p) + 1 = n3 (many A) := by
    rw [n3_sub hle, n3_s, hmp]; congr 1; omega
  have k1 := lpE (fun f (s : Int32 × hyM) => Rf_mixVerses_L96 (n3 (pla (eA A) (A 30 2) p)) (n3 (pfi (eA A) (A 30 2) p)) f s.1 s.2) (fun k => (n3 k, DN N (fo (fun q => stx (bvD M (q / 4 / many A) (q / 4 % many A)) (q % 4)) k x))) (4 * many A * 4) (n3 (4 * many A * 4), DN N (fo (fun q => stx (bvD M (q / 4 / many A) (q / 4 % many A)) (q % 4)) (4 * many A * 4) x)) ?_ ?_ hyFu 0 (Nat.zero_le _) (hyFu_big (by omega))
  · exact k1
  · intro f k hk2
    have hd1 : k / 4 / many A < 4 := Nat.div_lt_of_lt_mul (by rw [Nat.mul_comm]; omega)
    have hd2 : k / 4 % many A < many A := Nat.mod_lt _ hmy1
    have hv : ∀ y, Rf_belowNow (n3 (k / 4 / many A)) (n3 0) (n3 (pfi (eA A) (A 30 2) p + k / 4 % many A)) (n3 (k % 4)) (DN N y) = some (bvD M (k / 4 / many A) (k / 4 % many A) (k % 4)) := by
      intro y
      obtain ⟨v, g1, g2⟩ := below_alk (w := k % 4) hW hC (hR.dn y).1 hd1 hkp (show pfi (eA A) (A 30 2) p + k / 4 % many A ≤ pla (eA A) (A 30 2) p by omega) (by omega)
      rw [g2]; exact g1.symm
    dsimp only
    rw [Rf_mixVerses_L96, ediff, l_4, n3_mul, n3_mul, if_neg (by rw [n3_le (by omega) (by omega)]; omega), mod_n3 (by omega) (by omega), n3_div (by omega) (by omega), jdv_n3 (by omega) (by omega) hmy1, jrm_n3 (by omega) (by omega) hmy1, show (0 : Int32) = n3 0 from rfl, ldE_in _ (by omega) (by decide), e46]
    simp only [Option.bind_some]
    rw [ldE_in _ hp40 (by decide), e43]
    simp only [Option.bind_some]
    rw [n3_add, hv, Option.bind_some, DN_mix, n3_s]
    rfl
  · intro f
    dsimp only
    rw [Rf_mixVerses_L96, ediff, l_4, n3_mul, n3_mul, if_pos (by rw [n3_le (by omega) (by omega)]; omega)]
theorem dig_mv_none (x : Int64) : Rf_mixVerses_L96b hyFu (n3 0) (DN N x) = some (n3 0, DN N x) := by
  rw [show hyFu = 99999 + 1 from rfl, Rf_mixVerses_L96b, if_pos (by decide)]
theorem dig_mv_ref (hW : WFA A) (hC : CA A M) (hR : RLa A N) (h : Int64) : Rf_mixVerses (DN N h) = some (DN N (fo (fun v => fo (fun j => fo (stx (bvD M v j)) 4) (many A)) 4 (fo (veD M A) 4 h))) := by
  have hL := LA_len hW
  have h25 : ∀ x, (DN N x).1 30 25 = n3 (LA A).length := fun x => hR.1.2.2.2.2.1.1
  rw [Rf_mixVerses, show (0 : Int32) = n3 0 from rfl, (dig_ve hW hC hR h).2, Option.bind_some]
  dsimp only
  generalize fo (veD M A) 4 h = x
  rw [h25, ite_eq (by omega) (by omega)]
  by_cases c : (LA A).length = 0
  · have hm : many A = 0 := by unfold many; rw [List.getElem?_eq_none (by omega)]
    have e0 : fo (fun v => fo (fun j => fo (stx (bvD M v j)) 4) 0) 4 x = x := fo_id (fun _ _ => rfl) _ _
    rw [if_pos c, hm, e0, dig_mv_none, Option.bind_some]
  · have hk : 0 < (LA A).length := by omega
    have hkp := List.getElem?_eq_getElem hk
    have hp : (LA A)[0] < phc (eA A) (A 30 2) := LA_mem hW (List.getElem_mem hk)
    generalize hpp : (LA A)[0] = p at *
    have hle := pfi_le_pla hp
    have hm := mA_lt hW
    have hp40 : p < 40 := by unfold mA at hm; omega
    have hmp : many A = pla (eA A) (A 30 2) p + 1 - pfi (eA A) (A 30 2) p := by unfold many; rw [hkp]
    have e46 : ∀ y, (DN N y).1 46 0 = n3 p := fun y => hR.1.2.2.2.2.1.2 0 _ hkp
    have e44 : ∀ y, (DN N y).1 44 p = n3 (pla (eA A) (A 30 2) p) := fun y => (hR.1.2.1.2.2.2.2.2.2 p hp).2
    have e43 : ∀ y, (DN N y).1 43 p = n3 (pfi (eA A) (A 30 2) p) := fun y => (hR.1.2.1.2.2.2.2.2.2 p hp).1
    have hmy1 : 0 < many A := by omega
    have en1 := fo_nest (fun v j => fo (stx (bvD M v j)) 4) hmy1 4 x
    have en2 := fo_nest (fun q => stx (bvD M (q / many A) (q % many A))) (show 0 < 4 by decide) (4 * many A) x
    rw [if_neg c, ldE_in _ (by omega) (by decide), e46]
    simp only [Option.bind_some]
    rw [ldE_in _ hp40 (by decide), ldE_in _ hp40 (by decide), e44, e43]
    simp only [Option.bind_some]
    rw [dig_mv_loop hW hC hR hkp hmp x, Option.bind_some]
    dsimp only
    rw [en2, en1]
/-! the book, the rest -/
def mvD (A : aS) (m j : Nat) : Int32 := n3 (A 41 (24 * m + j))
def boD (A : aS) (m : Nat) (h : Int64) : Int64 := fo (stx (mvD A m)) (A 40 m) (hx h (dsV A m))
theorem dig_bo_class (hW : WFA A) (hC : CA A M) (h : Int64) : Hp_mixedBook h M = some (fo (boD A) (A 30 16) h) := by
  have hm8 := hW.2.2.2.2.1.1
  have h25 : M.1 25 2 = n3 (A 30 16) := hC.1.2.2.2.2.2.1.1
  have k1 := lpE (fun f (s : Int64 × Int32) => Hp_mixedBook_L5 M f s.1 s.2) (fun k => (fo (boD A) k h, n3 k)) (A 30 16) (fo (boD A) (A 30 16) h, n3 (A 30 16)) ?_ ?_ hyFu 0 (Nat.zero_le _) (hyFu_big (by omega))
  · dsimp only at k1
    have e1 : fo (boD A) 0 h = h := rfl
    rw [e1] at k1
    rw [Hp_mixedBook, show (0 : Int32) = n3 0 from rfl, k1, Option.bind_some]
  · intro f m hm
    obtain ⟨w1, w2, w3⟩ := hW.2.2.2.2.1.2 m hm
    obtain ⟨b1, b2⟩ := hC.1.2.2.2.2.2.1.2 m hm
    have es : Bo_sizeOf (n3 m) M = n3 (A 40 m) := by unfold Bo_sizeOf; rw [atf_in _ (by omega) (by decide), b1]
    have inner : ∀ x, Hp_mixedBook_L32 M (n3 m) hyFu x (n3 0) = some (fo (stx (mvD A m)) (A 40 m) x, n3 (A 40 m)) := by
      intro x
      refine lpE (fun f (s : Int64 × Int32) => Hp_mixedBook_L32 M (n3 m) f s.1 s.2) (fun k => (fo (stx (mvD A m)) k x, n3 k)) (A 40 m) _ ?_ ?_ hyFu 0 (Nat.zero_le _) (hyFu_big (by omega))
      · intro f k hk
        have en : Bo_numberAt (n3 m) (n3 k) M = mvD A m k := by unfold Bo_numberAt mvD; rw [l_24, n3_mul, n3_add, atf_in _ (by omega) (by decide), b2 k hk]
        dsimp only
        rw [Hp_mixedBook_L32, es, if_neg (by rw [n3_le (by omega) (by omega)]; omega), en, n3_s]
        rfl
      · intro f
        dsimp only
        rw [Hp_mixedBook_L32, es, if_pos (by rw [n3_le (by omega) (by omega)]; omega)]
    dsimp only
    rw [Hp_mixedBook_L5, h25, if_neg (by rw [n3_le (by omega) (by omega)]; omega), dist_class hW hC hm, Option.bind_some, show (0 : Int32) = n3 0 from rfl, inner, Option.bind_some]
    dsimp only
    rw [n3_s]
    rfl
  · intro f
    dsimp only
    rw [Hp_mixedBook_L5, h25, if_pos (by rw [n3_le (by omega) (by omega)]; omega)]
theorem dig_bo_ref (hW : WFA A) (hR : RLa A N) (h : Int64) : Rf_digest_L130 hyFu (n3 0) (DN N h) = some (n3 (A 30 16), DN N (fo (boD A) (A 30 16) h)) := by
  have hm8 := hW.2.2.2.2.1.1
  have h16 : ∀ x, (DN N x).1 30 16 = n3 (A 30 16) := fun x => hR.1.1 30 16 rfl
  refine lpE (fun f (s : Int32 × hyM) => Rf_digest_L130 f s.1 s.2) (fun k => (n3 k, DN N (fo (boD A) k h))) (A 30 16) _ ?_ ?_ hyFu 0 (Nat.zero_le _) (hyFu_big (by omega))
  · intro f m hm
    obtain ⟨w1, w2, w3⟩ := hW.2.2.2.2.1.2 m hm
    have e40 : ∀ x, (DN N x).1 40 m = n3 (A 40 m) := fun x => hR.1.1 40 m rfl
    have e41 : ∀ x j, (DN N x).1 41 j = n3 (A 41 j) := fun x j => hR.1.1 41 j rfl
    have inner : ∀ x, Rf_digest_L150 (n3 m) hyFu (n3 0) (DN N x) = some (n3 (A 40 m), DN N (fo (stx (mvD A m)) (A 40 m) x)) := by
      intro x
      refine lpE (fun f (s : Int32 × hyM) => Rf_digest_L150 (n3 m) f s.1 s.2) (fun k => (n3 k, DN N (fo (stx (mvD A m)) k x))) (A 40 m) _ ?_ ?_ hyFu 0 (Nat.zero_le _) (hyFu_big (by omega))
      · intro f k hk
        dsimp only
        rw [Rf_digest_L150, ldE_in _ (by omega) (by decide), Option.bind_some, e40, if_neg (by rw [n3_le (by omega) (by omega)]; omega), l_24, n3_mul, n3_add, ldE_in _ (by omega) (by decide), Option.bind_some, e41, Option.bind_some, DN_mix, n3_s]
        rfl
      · intro f
        dsimp only
        rw [Rf_digest_L150, ldE_in _ (by omega) (by decide), Option.bind_some, e40, if_pos (by rw [n3_le (by omega) (by omega)]; omega)]
    dsimp only
    rw [Rf_digest_L130, h16, if_neg (by rw [n3_le (by omega) (by omega)]; omega), dist_ref hW (hR.dn _).1 hm, Option.bind_some, Option.bind_some, DN_mix, show (0 : Int32) = n3 0 from rfl, inner, Option.bind_some]
    dsimp only
    rw [n3_s]
    rfl
  · intro f
    dsimp only
    rw [Rf_digest_L130, h16, if_pos (by rw [n3_le (by omega) (by omega)]; omega)]
def inD (A : aS) (k : Nat) : Int32 := n3 (A 42 k)
def digD (M : hyM) (A : aS) : Int64 :=
  let h1 := fo (noD M) (A 30 2) (fo (stx (cvD M)) 14 2063)
  let h2 := fo (fun v => fo (fun j => fo (stx (bvD M v j)) 4) (many A)) 4 (fo (veD M A) 4 (phD M A h1))
  let h3 := hx (fo (boD A) (A 30 16) h2) (oI (nbN A (A 30 16)))
  fo (stx (inD A)) (A 30 19) (hx (31 * h3 + (mwV A).toInt64) (n3 (A 30 19)))
theorem digest_class (hW : WFA A) (hC : CA A M) (hR : RLa A N) : Hp_digest M = some (digD M A) := by
  have hi := hW.2.2.2.2.2.1
  have h28 : M.1 28 1 = n3 (A 30 19) := hC.1.2.2.2.2.2.2.1
  have h29 : ∀ i, M.1 29 i = n3 (A 42 i) := hC.1.2.2.2.2.2.2.2
  have kl : ∀ x, Hp_digest_L159 M hyFu x (n3 0) = some (fo (stx (inD A)) (A 30 19) x, n3 (A 30 19)) := by
    intro x
    refine lpE (fun f (s : Int64 × Int32) => Hp_digest_L159 M f s.1 s.2) (fun k => (fo (stx (inD A)) k x, n3 k)) (A 30 19) _ ?_ ?_ hyFu 0 (Nat.zero_le _) (hyFu_big (by omega))
    · intro f k hk
      have e : In_codeAt (n3 k) M = inD A k := by unfold In_codeAt inD; rw [atf_in _ (by omega) (by decide), h29]
      dsimp only
      rw [Hp_digest_L159, h28, if_neg (by rw [n3_le (by omega) (by omega)]; omega), e, n3_s]
      rfl
    · intro f
      dsimp only
      rw [Hp_digest_L159, h28, if_pos (by rw [n3_le (by omega) (by omega)]; omega)]
  have q1 := (dig_counts hW hC hR 2063).1
  rw [Hp_digest, show (0 : Int32) = n3 0 from rfl, q1, Option.bind_some]
  dsimp only
  rw [(dig_notes hW hC hR _).1, Option.bind_some]
  dsimp only
  rw [dig_ph_class hW hC, Option.bind_some, (dig_ve hW hC hR _).1, Option.bind_some]
  dsimp only
  rw [dig_be_class hW hC, Option.bind_some]
  dsimp only
  rw [dig_bo_class hW hC, Option.bind_some, near_class hW hC, Option.bind_some, mean_class hW hC, Option.bind_some, (mw_bits hW M).1, Option.bind_some, h28, kl, Option.bind_some]
  rfl
theorem digest_ref (hW : WFA A) (hC : CA A M) {N0 : hyM} (hR0 : RI A N0) : ∃ N', Rf_digest N0 = some (digD M A, N') ∧ RI A N' ∧ N'.1 30 0 = 0 := by
  have hi := hW.2.2.2.2.2.1
  have hs : RI A (wL (wI N0 30 0 0) 30 35 2063) := RI.w hR0 rfl
  obtain ⟨N, e1, f1, r1, l1⟩ := Rf_lay_ok hW hs
  have hR : RLa A N := ⟨r1, l1⟩
  have hN : N.2 30 35 = 2063 := by rw [f1.1]; exact DN_rd _ _
  have hid := DN_id hN
  have kl : ∀ x, Rf_digest_L219 hyFu (n3 0) (DN N x) = some (n3 (A 30 19), DN N (fo (stx (inD A)) (A 30 19) x)) := by
    intro x
    have h19 : ∀ y, (DN N y).1 30 19 = n3 (A 30 19) := fun y => hR.1.1 30 19 rfl
    have h42 : ∀ y i, (DN N y).1 42 i = n3 (A 42 i) := fun y i => hR.1.1 42 i rfl
    refine lpE (fun f (s : Int32 × hyM) => Rf_digest_L219 f s.1 s.2) (fun k => (n3 k, DN N (fo (stx (inD A)) k x))) (A 30 19) _ ?_ ?_ hyFu 0 (Nat.zero_le _) (hyFu_big (by omega))
    · intro f k hk
      dsimp only
      rw [Rf_digest_L219, h19, if_neg (by rw [n3_le (by omega) (by omega)]; omega), ldE_in _ (by omega) (by decide), Option.bind_some, h42, Option.bind_some, DN_mix, n3_s]
      rfl
    · intro f
      dsimp only
      rw [Rf_digest_L219, h19, if_pos (by rw [n3_le (by omega) (by omega)]; omega)]
  have q1 := (dig_counts hW hC hR 2063).2
  rw [hid] at q1
  have h19 : ∀ y, (DN N y).1 30 19 = n3 (A 30 19) := fun y => hR.1.1 30 19 rfl
  refine ⟨DN N (digD M A), ?_, hR.1.1, ?_⟩
  · rw [Rf_digest, Option.bind_some, Option.bind_some, e1, Option.bind_some, show (0 : Int32) = n3 0 from rfl, q1, Option.bind_some]
    dsimp only
    rw [(dig_notes hW hC hR _).2, Option.bind_some]
    dsimp only
    rw [(dig_ph_ref hW hC hR _).1, Option.bind_some]
    dsimp only
    rw [(dig_ph_ref hW hC hR 0).2, Option.bind_some]
    dsimp only
    rw [dig_mv_ref hW hC hR, Option.bind_some, dig_bo_ref hW hR, Option.bind_some]
    dsimp only
    rw [near_ref hW (hR.dn _).1, Option.bind_some, Option.bind_some, DN_mix, mean_ref hW (hR.dn _), Option.bind_some, (mw_bits hW _).2, Option.bind_some, DN_mixL, h19, Option.bind_some, DN_mix, kl, Option.bind_some]
    dsimp only
    rw [DN_rd]
    rfl
  · show N.1 30 0 = 0
    rw [f1.2 _ _ rfl]
    show (wI N0 30 0 0).1 30 0 = 0
    exact rd_eq _ _ _ _
end DIG2
