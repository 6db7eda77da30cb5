/-! Metres, counts: both sides alike. -/
set_option maxRecDepth 100000 in
theorem k_ab : ∀ a : Fin 64, ∀ b : Fin 64, jabs (n3 a.val - n3 b.val) = n3 (a.val - b.val + (b.val - a.val)) ∧ (if 0 ≤ n3 a.val - n3 b.val then n3 a.val - n3 b.val else -(n3 a.val - n3 b.val)) = n3 (a.val - b.val + (b.val - a.val)) := by decide +kernel
def adf (a b : Nat) : Nat := a - b + (b - a)
theorem ab_ok {a b : Nat} (ha : a < 64) (hb : b < 64) : jabs (n3 a - n3 b) = n3 (adf a b) ∧ (if 0 ≤ n3 a - n3 b then n3 a - n3 b else -(n3 a - n3 b)) = n3 (adf a b) := k_ab ⟨a, ha⟩ ⟨b, hb⟩
def dsN (A : aS) (m : Nat) : Nat := smN (fun k => adf (A 41 (24 * m + k)) (due A k)) (LA A).length
def dsV (A : aS) (m : Nat) : Int32 := if A 40 m = (LA A).length then n3 (dsN A m) else -1
theorem dsN_le {A : aS} (hW : WFA A) {m : Nat} (hm : m < A 30 16) (hl : A 40 m = (LA A).length) : ∀ k, k ≤ (LA A).length → smN (fun k => adf (A 41 (24 * m + k)) (due A k)) k ≤ k * 60 := by
  intro k hk
  refine smN_le (fun j hj => ?_)
  have h1 := ((hW.2.2.2.2.1.2 m hm).2.2 j (by omega)).2
  have h2 := due_le hW j
  unfold adf; omega
theorem dist_class {A : aS} {M : hyM} (hW : WFA A) (hC : CA A M) {m : Nat} (hm : m < A 30 16) : Hp_distanceOf (n3 m) M = some (dsV A m) := by
  have hL := LA_len hW
  have hm8 := hW.2.2.2.2.1.1
  obtain ⟨w1, w2, w3⟩ := hW.2.2.2.2.1.2 m hm
  obtain ⟨b1, b2⟩ := hC.1.2.2.2.2.2.1.2 m hm
  have hO : M.1 18 2 = n3 (LA A).length := hC.2.2.1.1
  have es : Bo_sizeOf (n3 m) M = n3 (A 40 m) := by unfold Bo_sizeOf; rw [atf_in _ (by omega) (by decide), b1]
  rw [Hp_distanceOf, es, hO, ite_eq (by omega) (by omega)]
  unfold dsV
  by_cases c : A 40 m = (LA A).length
  · rw [if_pos c, if_pos c]
    have hb := dsN_le hW hm c
    have key := lpE (fun f (s : Int32 × Int32) => Hp_distanceOf_L24 (n3 m) M f s.1 s.2) (fun j => (n3 (smN (fun k => adf (A 41 (24 * m + k)) (due A k)) j), n3 j)) (LA A).length (n3 (dsN A m), n3 (LA A).length) ?_ ?_ hyFu 0 (Nat.zero_le _) (hyFu_big (by omega))
    · dsimp only at key
      rw [show smN (fun k => adf (A 41 (24 * m + k)) (due A k)) 0 = 0 from rfl] at key
      rw [show (0 : Int32) = n3 0 from rfl, key]
      rfl
    · intro f k hk
      have hd := due_le hW k
      have hnum := (w3 k (by omega)).2
      have en : Bo_numberAt (n3 m) (n3 k) M = n3 (A 41 (24 * m + k)) := by unfold Bo_numberAt; rw [l_24, n3_mul, n3_add, atf_in _ (by omega) (by decide), b2 k (by omega)]
      dsimp only
      rw [Hp_distanceOf_L24, hO, if_neg (by rw [n3_le (by omega) (by omega)]; omega), en, CA_due hW hC hk, (ab_ok (by omega) (by omega)).1, n3_add, n3_s]
      rfl
    · intro f
      dsimp only
      rw [Hp_distanceOf_L24, hO, if_pos (by rw [n3_le (by omega) (by omega)]; omega)]
      rfl
  · rw [if_neg c, if_neg c]
/-- the nearest among those below k -/
def nbN (A : aS) : Nat → Option Nat
  | 0 => none
  | k + 1 => if dsV A k = -1 then nbN A k else match nbN A k with
    | none => some k
    | some b => if dsV A b ≤ dsV A k then some b else some k
def oI (x : Option Nat) : Int32 := match x with
  | some k => n3 k
  | none => -1
theorem nbN_lt {A : aS} : ∀ k b, nbN A k = some b → b < k ∧ ¬ dsV A b = -1 := by
  intro k
  induction k with
  | zero => intro b h; cases h
  | succ k ih =>
    intro b h
    rw [nbN] at h
    by_cases c : dsV A k = -1
    · rw [if_pos c] at h; have := ih b h; exact ⟨by omega, this.2⟩
    · rw [if_neg c] at h
      cases q : nbN A k with
      | none => rw [q] at h; cases h; exact ⟨by omega, c⟩
      | some b2 =>
        rw [q] at h
        dsimp only at h
        split at h
        · cases h; have := ih b q; exact ⟨by omega, this.2⟩
        · cases h; exact ⟨by omega, c⟩
theorem near_class {A : aS} {M : hyM} (hW : WFA A) (hC : CA A M) : Hp_nearest M = some (oI (nbN A (A 30 16))) := by
  have hm8 := hW.2.2.2.2.1.1
  have h25 : M.1 25 2 = n3 (A 30 16) := hC.1.2.2.2.2.2.1.1
  have key := lpI (σ := Int32 × Int32 × Int32) (fun f s => Hp_nearest_L6 M f s.1 s.2.1 s.2.2) (fun k s => s.1 = oI (nbN A k) ∧ s.2.2 = n3 k ∧ ∀ b, nbN A k = some b → s.2.1 = dsV A b) (A 30 16) (fun r => r.1 = oI (nbN A (A 30 16))) ?_ ?_ hyFu 0 (-1, -1, n3 0) (Nat.zero_le _) (hyFu_big (by omega)) ⟨rfl, rfl, fun b h => by cases h⟩
  · obtain ⟨⟨a, b, c⟩, e1, e2⟩ := key
    dsimp only at e1 e2
    rw [Hp_nearest, show (0 : Int32) = n3 0 from rfl, e1, Option.bind_some]
    show some a = _
    rw [e2]
  · rintro f k ⟨x1, x2, x3⟩ hk ⟨rfl, rfl, hx⟩
    refine Or.inl ?_
    dsimp only at hx ⊢
    rw [Hp_nearest_L6, h25, if_neg (by rw [n3_le (by omega) (by omega)]; omega), dist_class hW hC hk, Option.bind_some, n3_s]
    by_cases c : dsV A k = -1
    · rw [if_pos c, if_pos c]
      refine ⟨(oI (nbN A k), x2, n3 (k + 1)), rfl, ?_, rfl, fun b hb => ?_⟩
      · rw [nbN, if_pos c]
      · rw [nbN, if_pos c] at hb; exact hx b hb
    · rw [if_neg c, if_neg c]
      cases q : nbN A k with
      | none =>
        rw [show oI none = -1 from rfl, if_pos (by decide), if_pos (by decide)]
        refine ⟨(n3 k, dsV A k, n3 (k + 1)), rfl, ?_, rfl, fun b hb => ?_⟩
        · rw [nbN, if_neg c, q]; rfl
        · rw [nbN, if_neg c, q] at hb; cases hb; rfl
      | some b0 =>
        have hb0 := nbN_lt k b0 q
        have hne : ¬ n3 b0 = -1 := by rw [n3_m1 (by omega)]; exact id
        rw [show oI (some b0) = n3 b0 from rfl, if_neg hne, if_neg hne, hx b0 q]
        by_cases d : dsV A b0 ≤ dsV A k
        · rw [if_pos d, if_pos d]
          refine ⟨(n3 b0, dsV A b0, n3 (k + 1)), rfl, ?_, rfl, fun b hb => ?_⟩
          · rw [nbN, if_neg c, q]; dsimp only; rw [if_pos d]; rfl
          · rw [nbN, if_neg c, q] at hb; dsimp only at hb; rw [if_pos d] at hb; cases hb; rfl
        · rw [if_neg d, if_neg d]
          refine ⟨(n3 k, dsV A k, n3 (k + 1)), rfl, ?_, rfl, fun b hb => ?_⟩
          · rw [nbN, if_neg c, q]; dsimp only; rw [if_neg d]; rfl
          · rw [nbN, if_neg c, q] at hb; dsimp only at hb; rw [if_neg d] at hb; cases hb; rfl
  · rintro f ⟨x1, x2, x3⟩ ⟨rfl, rfl, hx⟩
    dsimp only
    rw [Hp_nearest_L6, h25, if_pos (by rw [n3_le (by omega) (by omega)]; omega)]
    exact ⟨_, rfl, rfl⟩
/-! counts -/
def ftV (A : aS) : Nat → Int32
  | 0 => 0
  | v + 1 => if fitV A v = -1 then ftV A v ||| (1 <<< (n3 v &&& 31)) else ftV A v
theorem fitting_class {A : aS} {M : hyM} (hW : WFA A) (hC : CA A M) : Hp_fittingVerses M = some (ftV A 4) := by
  have key := lpE (fun f (s : Int32 × Int32) => Hp_fittingVerses_L4 M f s.1 s.2) (fun j => (ftV A j, n3 j)) 4 (ftV A 4, n3 4) ?_ ?_ hyFu 0 (Nat.zero_le _) (hyFu_big (by omega))
  · dsimp only at key
    rw [Hp_fittingVerses]
    rw [show ftV A 0 = 0 from rfl, show n3 0 = 0 from rfl] at key
    rw [key]
    rfl
  · intro f j hj
    dsimp only
    rw [Hp_fittingVerses_L4, l_4, if_neg (by rw [n3_le (by omega) (by omega)]; omega), fit_class hW hC hj, Option.bind_some, n3_s]
    rfl
  · intro f
    dsimp only
    rw [Hp_fittingVerses_L4, l_4, if_pos (by rw [n3_le (by omega) (by omega)]; omega)]
