/-! The digest: both sides alike. -/
theorem smN_ge {f : Nat → Nat} {b : Nat} {k : Nat} (h : ∀ i, i < k → b ≤ f i) : k * b ≤ smN f k := by
  induction k with
  | zero => rw [Nat.zero_mul]; exact Nat.zero_le _
  | succ k ih =>
    have h1 := ih (fun i hi => h i (by omega))
    have h2 := h k (by omega)
    rw [smN, Nat.add_mul]
    omega
theorem ssf_k (w : Nat → Nat) (pg k : Nat) : (ssf w pg (k + 1)).1 ≤ k := by
  induction k with
  | zero => exact Nat.le_refl 0
  | succ k ih =>
    rw [ssf, if_neg (by omega)]
    split
    · dsimp only; omega
    · dsimp only; omega
/-- systems -/
def nsA (A : aS) : Nat := nsy (phw (wA A) (eA A) (A 30 2)) (A 30 13) (phc (eA A) (A 30 2))
def mwV (A : aS) : UInt64 := if nsA A = 0 then FP.dconst0 else mnD (smN (wA A) (A 30 2)) (nsA A)
theorem nsA_bd {A : aS} (hW : WFA A) : nsA A ≤ A 30 2 ∧ 3 * nsA A ≤ smN (wA A) (A 30 2) ∧ smN (wA A) (A 30 2) ≤ 520 := by
  have hn := hW.1.1
  have hm := mA_le A
  have h1 : A 30 2 * 3 ≤ smN (wA A) (A 30 2) := smN_ge (fun i _ => (wA_le hW i).1)
  have h2 : smN (wA A) (A 30 2) ≤ A 30 2 * 13 := smN_le (fun i _ => (wA_le hW i).2)
  have h3 : nsA A ≤ mA A := by
    unfold nsA nsy mA
    split
    · omega
    · rename_i c
      obtain ⟨k, hk⟩ : ∃ k, phc (eA A) (A 30 2) = k + 1 := ⟨phc (eA A) (A 30 2) - 1, by omega⟩
      rw [hk]
      have := ssf_k (phw (wA A) (eA A) (A 30 2)) (A 30 13) k
      omega
  omega
theorem mean_class {A : aS} {M : hyM} (hW : WFA A) (hC : CA A M) : Hp_meanWidth M = some (mwV A) := by
  obtain ⟨b1, b2, b3⟩ := nsA_bd hW
  have hn := hW.1.1
  have h3 : M.1 21 3 = n3 (nsA A) := hC.2.2.2.2.2.1
  have h4 : M.1 21 4 = n3 (smN (wA A) (A 30 2)) := hC.2.2.2.2.2.2
  rw [Hp_meanWidth, h3, h4, l_0, ite_lt (by omega) (by omega)]
  unfold mwV
  by_cases c : nsA A = 0
  · rw [if_pos c, if_neg (by omega)]
  · rw [if_neg c, if_pos (by omega)]
    have := (mean_ok (a := smN (wA A) (A 30 2)) (b := nsA A) (by omega) (by omega) M).1
    unfold mnD at this
    rw [this, Option.bind_some]
    rfl
theorem mean_ref {A : aS} {N : hyM} (hW : WFA A) (hR : RLa A N) : Rf_meanNow N = some (mwV A) := by
  obtain ⟨b1, b2, b3⟩ := nsA_bd hW
  have hn := hW.1.1
  have h3 : N.1 30 30 = n3 (nsA A) := hR.2.2.2
  have h2 : N.1 30 2 = n3 (A 30 2) := hR.1.1 30 2 rfl
  have key := lpE (fun f (s : Int32 × Int32) => Rf_meanNow_L4 N f s.1 s.2) (fun j => (n3 (smN (wA A) j), n3 j)) (A 30 2) (n3 (smN (wA A) (A 30 2)), n3 (A 30 2)) ?_ ?_ hyFu 0 (Nat.zero_le _) (hyFu_big (by omega))
  · dsimp only at key
    rw [show smN (wA A) 0 = 0 from rfl] at key
    rw [Rf_meanNow, show (0 : Int32) = n3 0 from rfl, key, Option.bind_some]
    dsimp only
    rw [h3, ite_eq (by omega) (by omega)]
    unfold mwV
    by_cases c : nsA A = 0
    · rw [if_pos c, if_pos c]
    · rw [if_neg c, if_neg c]
      have := (mean_ok (a := smN (wA A) (A 30 2)) (b := nsA A) (by omega) (by omega) N).1
      unfold mnD at this
      rw [this, Option.bind_some]
      rfl
  · intro f j hj
    dsimp only
    rw [Rf_meanNow_L4, h2, if_neg (by rw [n3_le (by omega) (by omega)]; omega), ldE_in _ (by omega) (by decide), Option.bind_some, hR.2.1 j hj, n3_add, n3_s]
    rfl
  · intro f
    dsimp only
    rw [Rf_meanNow_L4, h2, if_pos (by rw [n3_le (by omega) (by omega)]; omega)]
theorem mw_bits {A : aS} (hW : WFA A) (M : hyM) : Hp_bitsOf (mwV A) M = some (mwV A).toInt64 ∧ Jd_doubleToLongBits (mwV A) M = (mwV A).toInt64 := by
  obtain ⟨b1, b2, b3⟩ := nsA_bd hW
  have hn := hW.1.1
  unfold mwV
  by_cases c : nsA A = 0
  · rw [if_pos c]; exact mean_0 M
  · rw [if_neg c]
    exact (mean_ok (a := smN (wA A) (A 30 2)) (b := nsA A) (by omega) (by omega) M).2
/-! folds of the hash -/
def hx (h : Int64) (v : Int32) : Int64 := 31 * h + v.toInt64
def fo (F : Nat → Int64 → Int64) : Nat → Int64 → Int64
  | 0, h => h
  | k + 1, h => F k (fo F k h)
def stx (f : Nat → Int32) (k : Nat) (h : Int64) : Int64 := hx h (f k)
theorem fo_s (F : Nat → Int64 → Int64) (k : Nat) (h : Int64) : fo F (k + 1) h = F k (fo F k h) := rfl
theorem fo_id {F : Nat → Int64 → Int64} (hF : ∀ k h, F k h = h) (n : Nat) (x : Int64) : fo F n x = x := by
  induction n with
  | zero => rfl
  | succ n ih => rw [fo, ih, hF]
theorem fo_congr {F G : Nat → Int64 → Int64} {n : Nat} (h : ∀ k, k < n → F k = G k) (x : Int64) : fo F n x = fo G n x := by
  induction n with
  | zero => rfl
  | succ n ih => rw [fo, fo, ih (fun k hk => h k (by omega)), h n (by omega)]
theorem fo_add (F : Nat → Int64 → Int64) (a b : Nat) (x : Int64) : fo F (a + b) x = fo (fun j => F (a + j)) b (fo F a x) := by
  induction b with
  | zero => rfl
  | succ b ih => rw [← Nat.add_assoc, fo, fo, ih]
theorem fo_nest (F : Nat → Nat → Int64 → Int64) {m : Nat} (hm : 0 < m) (p : Nat) (x : Int64) : fo (fun q => F (q / m) (q % m)) (p * m) x = fo (fun a => fo (F a) m) p x := by
  induction p with
  | zero => rw [Nat.zero_mul]; rfl
  | succ p ih =>
    rw [Nat.add_mul, Nat.one_mul, fo_add, ih, fo]
    refine fo_congr (fun j hj => ?_) _
    have e1 : (p * m + j) / m = p := by
      rw [Nat.mul_comm, Nat.mul_add_div hm, Nat.div_eq_of_lt hj, Nat.add_zero]
    have e2 : (p * m + j) % m = j := by
      rw [Nat.mul_comm, Nat.mul_add_mod, Nat.mod_eq_of_lt hj]
    rw [e1, e2]
theorem alk_get {x y : Option Int32} (h : alk x y) : x = some (x.getD 0) ∧ y = some (x.getD 0) := by
  obtain ⟨v, h1, h2⟩ := h
  rw [h1, h2]
  exact ⟨rfl, rfl⟩
/-- the reference with the hash h -/
def DN (N : hyM) (h : Int64) : hyM := wL N 30 35 h
theorem DN_rd (N : hyM) (h : Int64) : (DN N h).2 30 35 = h := by unfold DN; rw [rd_wL, if_pos ⟨rfl, rfl⟩]
theorem DN_mix (N : hyM) (h : Int64) (v : Int32) : Rf_mix v.toInt64 (DN N h) = DN N (hx h v) := by
  unfold Rf_mix
  rw [DN_rd]
  unfold DN hx wL
  congr 1
  funext c
  by_cases e : c = 30
  · subst e
    simp only [if_true]
    funext k
    unfold vp_updL
    by_cases q : k = 35
    · simp [q]
    · simp [q]
  · simp only [e, if_false]
theorem DN_mixL (N : hyM) (h v : Int64) : Rf_mix v (DN N h) = DN N (31 * h + v) := by
  unfold Rf_mix
  rw [DN_rd]
  unfold DN wL
  congr 1
  funext c
  by_cases e : c = 30
  · subst e
    simp only [if_true]
    funext k
    unfold vp_updL
    by_cases q : k = 35
    · simp [q]
    · simp [q]
  · simp only [e, if_false]
theorem DN_id {N : hyM} {h : Int64} (hh : N.2 30 35 = h) : DN N h = N := by
  unfold DN wL
  refine Prod.ext rfl ?_
  funext c
  dsimp only
  by_cases e : c = 30
  · subst e
    rw [if_pos rfl]
    funext k
    unfold vp_updL
    by_cases q : k = 35
    · rw [if_pos q, q, hh]
    · rw [if_neg q]
  · rw [if_neg e]
theorem RLa.dn {A : aS} {N : hyM} (h : RLa A N) (x : Int64) : RLa A (DN N x) := h
section DIG
variable {A : aS} {M N : hyM}
def cvD (M : hyM) (w : Nat) : Int32 := (cntC w M).getD 0
theorem dig_counts (hW : WFA A) (hC : CA A M) (hR : RLa A N) (h : Int64) :
    Hp_digest_L6 M hyFu h (n3 0) = some (fo (stx (cvD M)) 14 h, n3 14) ∧ Rf_digest_L18 hyFu (n3 0) (DN N h) = some (n3 14, DN N (fo (stx (cvD M)) 14 h)) := by
  constructor
  · refine lpE (fun f (s : Int64 × Int32) => Hp_digest_L6 M f s.1 s.2) (fun k => (fo (stx (cvD M)) k h, n3 k)) 14 _ ?_ ?_ hyFu 0 (Nat.zero_le _) (hyFu_big (by omega))
    · intro f k hk
      have hv := (alk_get (count_alk hW hC hR (show k ≤ 13 by omega))).1
      dsimp only
      rw [Hp_digest_L6, l_14, if_neg (by rw [n3_le (by omega) (by omega)]; omega), l_7, ite_le (by omega) (by omega), n3_s]
      unfold cntC at hv
      by_cases c : k < 7
      · rw [if_neg (by omega)]
        rw [if_pos c] at hv
        have e : Hp_countOfTune (n3 k) M = cvD M k := by
          unfold cvD cntC
          rw [if_pos c]
          exact Option.some.inj hv
        rw [e]
        rfl
      · rw [if_pos (by omega)]
        rw [if_neg c] at hv
        rw [hv, Option.bind_some]
        have e : (Hp_countOfPage (n3 k) M).getD 0 = cvD M k := by unfold cvD cntC; rw [if_neg c]
        rw [e]
        rfl
    · intro f
      dsimp only
      rw [Hp_digest_L6, l_14, if_pos (by rw [n3_le (by omega) (by omega)]; omega)]
  · refine lpE (fun f (s : Int32 × hyM) => Rf_digest_L18 f s.1 s.2) (fun k => (n3 k, DN N (fo (stx (cvD M)) k h))) 14 _ ?_ ?_ hyFu 0 (Nat.zero_le _) (hyFu_big (by omega))
    · intro f k hk
      have hv := (alk_get (count_alk hW hC (hR.dn (fo (stx (cvD M)) k h)) (show k ≤ 13 by omega))).2
      dsimp only
      rw [Rf_digest_L18, l_14, if_neg (by rw [n3_le (by omega) (by omega)]; omega), hv, Option.bind_some, Option.bind_some, DN_mix, n3_s]
      rfl
    · intro f
      dsimp only
      rw [Rf_digest_L18, l_14, if_pos (by rw [n3_le (by omega) (by omega)]; omega)]
/-! a note -/
def nvD (M : hyM) (i w : Nat) : Int32 := (Hp_noteProperty (n3 i) (n3 w) M).getD 0
def pvD (M : hyM) (i p w : Nat) : Int32 := (Hp_partProperty (n3 i) (n3 p) (n3 w) M).getD 0
def hvD (M : hyM) (i s : Nat) : Int32 := (Hp_headsOf (n3 i) (n3 s) M).getD 0
def noD (M : hyM) (i : Nat) (h : Int64) : Int64 := hx (hx (fo (fun p => fo (stx (pvD M i p)) 6) 4 (fo (stx (nvD M i)) 9 h)) (hvD M i 0)) (hvD M i 1)
theorem dig_note_class (hW : WFA A) (hC : CA A M) (hR : RLa A N) {i : Nat} (hi : i < A 30 2) (h : Int64) : Hp_mixedNote h (n3 i) M = some (noD M i h) := by
  have k1 := lpE (fun f (s : Int64 × Int32) => Hp_mixedNote_L6 (n3 i) M f s.1 s.2) (fun k => (fo (stx (nvD M i)) k h, n3 k)) 9 (fo (stx (nvD M i)) 9 h, n3 9) ?_ ?_ hyFu 0 (Nat.zero_le _) (hyFu_big (by omega))
  · have inner : ∀ p, p < 4 → ∀ x, Hp_mixedNote_L46 (n3 i) M (n3 p) hyFu x (n3 0) = some (fo (stx (pvD M i p)) 6 x, n3 6) := by
      intro p hp x
      refine lpE (fun f (s : Int64 × Int32) => Hp_mixedNote_L46 (n3 i) M (n3 p) f s.1 s.2) (fun k => (fo (stx (pvD M i p)) k x, n3 k)) 6 _ ?_ ?_ hyFu 0 (Nat.zero_le _) (hyFu_big (by omega))
      · intro f k hk
        have hv := (alk_get (part_alk hW hC hR.1.1 hi hp (show k ≤ 5 by omega))).1
        dsimp only
        rw [Hp_mixedNote_L46, l_6, if_neg (by rw [n3_le (by omega) (by omega)]; omega), hv, Option.bind_some, n3_s]
        rfl
      · intro f
        dsimp only
        rw [Hp_mixedNote_L46, l_6, if_pos (by rw [n3_le (by omega) (by omega)]; omega)]
    have k2 := lpE (fun f (s : Int64 × Int32) => Hp_mixedNote_L37 (n3 i) M f s.1 s.2) (fun k => (fo (fun p => fo (stx (pvD M i p)) 6) k (fo (stx (nvD M i)) 9 h), n3 k)) 4 (fo (fun p => fo (stx (pvD M i p)) 6) 4 (fo (stx (nvD M i)) 9 h), n3 4) ?_ ?_ hyFu 0 (Nat.zero_le _) (hyFu_big (by omega))
    · dsimp only at k1 k2
      have v0 := (alk_get (heads_alk hW hC hR.1.1 hi (show 0 < 2 by decide))).1
      have v1 := (alk_get (heads_alk hW hC hR.1.1 hi (show 1 < 2 by decide))).1
      rw [show n3 0 = 0 from rfl] at v0
      rw [show n3 1 = 1 from rfl] at v1
      have e0 : fo (stx (nvD M i)) 0 h = h := rfl
      have e1 : ∀ x, fo (fun p => fo (stx (pvD M i p)) 6) 0 x = x := fun _ => rfl
      rw [e0] at k1
      rw [e1] at k2
      rw [Hp_mixedNote, show (0 : Int32) = n3 0 from rfl, k1, Option.bind_some]
      dsimp only
      rw [k2, Option.bind_some]
      dsimp only
      rw [← l_0, v0, Option.bind_some, v1, Option.bind_some]
      rfl
    · intro f k hk
      dsimp only
      rw [Hp_mixedNote_L37, l_4, if_neg (by rw [n3_le (by omega) (by omega)]; omega), show (0 : Int32) = n3 0 from rfl, inner k hk, Option.bind_some]
      dsimp only
      rw [n3_s]
      rfl
    · intro f
      dsimp only
      rw [Hp_mixedNote_L37, l_4, if_pos (by rw [n3_le (by omega) (by omega)]; omega)]
  · intro f k hk
    have hv := (alk_get (note_alk hW hC hR hi (show k ≤ 8 by omega))).1
    dsimp only
    rw [Hp_mixedNote_L6, l_9, if_neg (by rw [n3_le (by omega) (by omega)]; omega), hv, Option.bind_some, n3_s]
    rfl
  · intro f
    dsimp only
    rw [Hp_mixedNote_L6, l_9, if_pos (by rw [n3_le (by omega) (by omega)]; omega)]
theorem dig_note_ref (hW : WFA A) (hC : CA A M) (hR : RLa A N) {i : Nat} (hi : i < A 30 2) (h : Int64) : Rf_mixNote (n3 i) (DN N h) = some (DN N (noD M i h)) := by
  have k1 := lpE (fun f (s : Int32 × hyM) => Rf_mixNote_L2 (n3 i) f s.1 s.2) (fun k => (n3 k, DN N (fo (stx (nvD M i)) k h))) 9 (n3 9, DN N (fo (stx (nvD M i)) 9 h)) ?_ ?_ hyFu 0 (Nat.zero_le _) (hyFu_big (by omega))
  · have k2 := lpE (fun f (s : Int32 × hyM) => Rf_mixNote_L27 (n3 i) f s.1 s.2) (fun k => (n3 k, DN N (fo (fun q => stx (pvD M i (q / 6)) (q % 6)) k (fo (stx (nvD M i)) 9 h)))) 24 (n3 24, DN N (fo (fun q => stx (pvD M i (q / 6)) (q % 6)) 24 (fo (stx (nvD M i)) 9 h))) ?_ ?_ hyFu 0 (Nat.zero_le _) (hyFu_big (by omega))
    · dsimp only at k1 k2
      have e0 : fo (stx (nvD M i)) 0 h = h := rfl
      have e1 : ∀ x, fo (fun q => stx (pvD M i (q / 6)) (q % 6)) 0 x = x := fun _ => rfl
      rw [e0] at k1
      rw [e1] at k2
      have en := fo_nest (fun p => stx (pvD M i p)) (show 0 < 6 by decide) 4 (fo (stx (nvD M i)) 9 h)
      rw [show 4 * 6 = 24 from rfl] at en
      rw [en] at k2
      have v0 := fun x => (alk_get (heads_alk hW hC (hR.dn x).1.1 hi (show 0 < 2 by decide))).2
      have v1 := fun x => (alk_get (heads_alk hW hC (hR.dn x).1.1 hi (show 1 < 2 by decide))).2
      rw [Rf_mixNote, show (0 : Int32) = n3 0 from rfl, k1, Option.bind_some]
      dsimp only
      rw [k2, Option.bind_some]
      dsimp only
      rw [v0, Option.bind_some, Option.bind_some, DN_mix, show (1 : Int32) = n3 1 from rfl, v1, Option.bind_some, Option.bind_some, DN_mix]
      rfl
    · intro f k hk
      have hv := (alk_get (part_alk hW hC (hR.dn (fo (fun q => stx (pvD M i (q / 6)) (q % 6)) k (fo (stx (nvD M i)) 9 h))).1.1 hi (show k / 6 < 4 by omega) (show k % 6 ≤ 5 by omega))).2
      dsimp only
      rw [Rf_mixNote_L27, l_24, if_neg (by rw [n3_le (by omega) (by omega)]; omega), l_6, mod_n3 (by omega) (by omega), n3_div (by omega) (by omega), hv, Option.bind_some, Option.bind_some, DN_mix, n3_s]
      rfl
    · intro f
      dsimp only
      rw [Rf_mixNote_L27, l_24, if_pos (by rw [n3_le (by omega) (by omega)]; omega)]
  · intro f k hk
    have hv := (alk_get (note_alk hW hC (hR.dn (fo (stx (nvD M i)) k h)) hi (show k ≤ 8 by omega))).2
    dsimp only
    rw [Rf_mixNote_L2, l_9, if_neg (by rw [n3_le (by omega) (by omega)]; omega), hv, Option.bind_some, Option.bind_some, DN_mix, n3_s]
    rfl
  · intro f
    dsimp only
    rw [Rf_mixNote_L2, l_9, if_pos (by rw [n3_le (by omega) (by omega)]; omega)]
theorem dig_notes (hW : WFA A) (hC : CA A M) (hR : RLa A N) (h : Int64) :
    Hp_digest_L46 M hyFu h (n3 0) = some (fo (noD M) (A 30 2) h, n3 (A 30 2)) ∧ Rf_digest_L42 hyFu (n3 0) (DN N h) = some (n3 (A 30 2), DN N (fo (noD M) (A 30 2) h)) := by
  have hn := hW.1.1
  constructor
  · refine lpE (fun f (s : Int64 × Int32) => Hp_digest_L46 M f s.1 s.2) (fun k => (fo (noD M) k h, n3 k)) (A 30 2) _ ?_ ?_ hyFu 0 (Nat.zero_le _) (hyFu_big (by omega))
    · intro f k hk
      dsimp only
      rw [Hp_digest_L46, CA_n hC, if_neg (by rw [n3_le (by omega) (by omega)]; omega), dig_note_class hW hC hR hk, Option.bind_some, n3_s]
      rfl
    · intro f
      dsimp only
      rw [Hp_digest_L46, CA_n hC, if_pos (by rw [n3_le (by omega) (by omega)]; omega)]
  · refine lpE (fun f (s : Int32 × hyM) => Rf_digest_L42 f s.1 s.2) (fun k => (n3 k, DN N (fo (noD M) k h))) (A 30 2) _ ?_ ?_ hyFu 0 (Nat.zero_le _) (hyFu_big (by omega))
    · intro f k hk
      have h2 : ∀ x, (DN N x).1 30 2 = n3 (A 30 2) := fun x => hR.1.1 30 2 rfl
      dsimp only
      rw [Rf_digest_L42, h2, if_neg (by rw [n3_le (by omega) (by omega)]; omega), dig_note_ref hW hC hR hk, Option.bind_some, n3_s]
      rfl
    · intro f
      have h2 : ∀ x, (DN N x).1 30 2 = n3 (A 30 2) := fun x => hR.1.1 30 2 rfl
      dsimp only
      rw [Rf_digest_L42, h2, if_pos (by rw [n3_le (by omega) (by omega)]; omega)]
end DIG
