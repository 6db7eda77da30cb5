/-! Numbers and loops: 32-bit ints that are naturals; reads and writes of the world; folds. -/
def n3 (k : Nat) : Int32 := Int32.ofNat k
theorem n3_add (a b : Nat) : n3 a + n3 b = n3 (a + b) := (Int32.ofNat_add a b).symm
theorem n3_s (a : Nat) : n3 a + 1 = n3 (a + 1) := (Int32.ofNat_add a 1).symm
theorem n3_mul (a b : Nat) : n3 a * n3 b = n3 (a * b) := (Int32.ofNat_mul a b).symm
theorem n3_sub {a b : Nat} (h : b ≤ a) : n3 a - n3 b = n3 (a - b) := (Int32.ofNat_sub a b h).symm
theorem n3_div {a b : Nat} (ha : a < 2147483648) (hb : b < 2147483648) : n3 a / n3 b = n3 (a / b) := (Int32.ofNat_div ha hb).symm
theorem n3_lt {a b : Nat} (ha : a < 2147483648) (hb : b < 2147483648) : (n3 a < n3 b) = (a < b) := propext (Int32.ofNat_lt_iff_lt ha hb)
theorem n3_le {a b : Nat} (ha : a < 2147483648) (hb : b < 2147483648) : (n3 a ≤ n3 b) = (a ≤ b) := propext (Int32.ofNat_le_iff_le ha hb)
theorem n3_cl {a : Nat} (ha : a < 2147483648) : (n3 a).toNatClampNeg = a := Int32.toNatClampNeg_ofNat_of_lt ha
theorem n3_toInt {a : Nat} (ha : a < 2147483648) : (n3 a).toInt = a := Int32.toInt_ofNat_of_lt ha
theorem n3_eq {a b : Nat} (ha : a < 2147483648) (hb : b < 2147483648) : (n3 a = n3 b) = (a = b) :=
  propext ⟨fun h => by rw [← n3_cl ha, h, n3_cl hb], fun h => by rw [h]⟩
theorem ite_le {α : Type} {a b : Nat} (ha : a < 2147483648) (hb : b < 2147483648) (x y : α) : (if n3 a ≤ n3 b then x else y) = if a ≤ b then x else y := by simp only [n3_le ha hb]
theorem ite_lt {α : Type} {a b : Nat} (ha : a < 2147483648) (hb : b < 2147483648) (x y : α) : (if n3 a < n3 b then x else y) = if a < b then x else y := by simp only [n3_lt ha hb]
theorem ite_eq {α : Type} {a b : Nat} (ha : a < 2147483648) (hb : b < 2147483648) (x y : α) : (if n3 a = n3 b then x else y) = if a = b then x else y := by simp only [n3_eq ha hb]
theorem dec_le {a b : Nat} (ha : a < 2147483648) (hb : b < 2147483648) : decide (n3 a ≤ n3 b) = decide (a ≤ b) := by simp only [n3_le ha hb]
theorem dec_lt {a b : Nat} (ha : a < 2147483648) (hb : b < 2147483648) : decide (n3 a < n3 b) = decide (a < b) := by simp only [n3_lt ha hb]
theorem dec_eq {a b : Nat} (ha : a < 2147483648) (hb : b < 2147483648) : decide (n3 a = n3 b) = decide (a = b) := by simp only [n3_eq ha hb]
theorem m1_toInt : (-1 : Int32).toInt = -1 := by decide
theorem n3_m1 {a : Nat} (ha : a < 2147483648) : (n3 a = -1) = False := eq_false fun h => by
  have h2 := congrArg Int32.toInt h
  rw [n3_toInt ha, m1_toInt] at h2
  omega
theorem n3_m1s {a : Nat} (ha : a < 2147483648) : ((-1 : Int32) = n3 a) = False := eq_false fun h => by
  have h2 := congrArg Int32.toInt h
  rw [n3_toInt ha, m1_toInt] at h2
  omega
theorem l_0 : (0 : Int32) = n3 0 := rfl
theorem l_1 : (1 : Int32) = n3 1 := rfl
theorem l_2 : (2 : Int32) = n3 2 := rfl
theorem l_3 : (3 : Int32) = n3 3 := rfl
theorem l_4 : (4 : Int32) = n3 4 := rfl
theorem l_5 : (5 : Int32) = n3 5 := rfl
theorem l_6 : (6 : Int32) = n3 6 := rfl
theorem l_7 : (7 : Int32) = n3 7 := rfl
theorem l_8 : (8 : Int32) = n3 8 := rfl
theorem l_9 : (9 : Int32) = n3 9 := rfl
theorem l_10 : (10 : Int32) = n3 10 := rfl
theorem l_11 : (11 : Int32) = n3 11 := rfl
theorem l_12 : (12 : Int32) = n3 12 := rfl
theorem l_13 : (13 : Int32) = n3 13 := rfl
theorem l_14 : (14 : Int32) = n3 14 := rfl
theorem l_16 : (16 : Int32) = n3 16 := rfl
theorem l_19 : (19 : Int32) = n3 19 := rfl
theorem l_20 : (20 : Int32) = n3 20 := rfl
theorem l_23 : (23 : Int32) = n3 23 := rfl
theorem l_24 : (24 : Int32) = n3 24 := rfl
theorem l_25 : (25 : Int32) = n3 25 := rfl
theorem l_30 : (30 : Int32) = n3 30 := rfl
theorem l_31 : (31 : Int32) = n3 31 := rfl
theorem l_32 : (32 : Int32) = n3 32 := rfl
theorem l_36 : (36 : Int32) = n3 36 := rfl
theorem l_37 : (37 : Int32) = n3 37 := rfl
theorem l_39 : (39 : Int32) = n3 39 := rfl
theorem l_40 : (40 : Int32) = n3 40 := rfl
theorem l_45 : (45 : Int32) = n3 45 := rfl
theorem l_46 : (46 : Int32) = n3 46 := rfl
theorem l_48 : (48 : Int32) = n3 48 := rfl
theorem l_57 : (57 : Int32) = n3 57 := rfl
theorem l_60 : (60 : Int32) = n3 60 := rfl
theorem l_65 : (65 : Int32) = n3 65 := rfl
theorem l_68 : (68 : Int32) = n3 68 := rfl
theorem l_72 : (72 : Int32) = n3 72 := rfl
theorem l_80 : (80 : Int32) = n3 80 := rfl
theorem l_84 : (84 : Int32) = n3 84 := rfl
theorem l_90 : (90 : Int32) = n3 90 := rfl
theorem l_96 : (96 : Int32) = n3 96 := rfl
theorem l_97 : (97 : Int32) = n3 97 := rfl
theorem l_100 : (100 : Int32) = n3 100 := rfl
theorem l_122 : (122 : Int32) = n3 122 := rfl
theorem l_126 : (126 : Int32) = n3 126 := rfl
theorem l_127 : (127 : Int32) = n3 127 := rfl
theorem l_192 : (192 : Int32) = n3 192 := rfl
theorem l_200 : (200 : Int32) = n3 200 := rfl
theorem l_5760 : (5760 : Int32) = n3 5760 := rfl
theorem l_2880 : (2880 : Int32) = n3 2880 := rfl
theorem inb_n3 {i n : Nat} (hi : i < 2147483648) : inb (n3 i) n = decide (i < n) := by
  unfold inb
  rw [n3_cl hi, l_0, dec_lt hi (by decide)]
  by_cases h : i < n
  · simp [h]
  · simp [h]; omega
theorem inb_neg {x : Int32} {n : Nat} (h : x.toInt < 0) : inb x n = false := by
  unfold inb
  have : x < 0 := Int32.lt_iff_toInt_lt.mpr (by simpa using h)
  simp [this]
theorem atf_in {n i : Nat} (f : Nat → Int32) (h : i < n) (hn : n < 2147483648) : atf n f (n3 i) = f i := by
  unfold atf
  rw [inb_n3 (by omega), if_pos (by simpa using h), n3_cl (by omega)]
theorem ldE_in {n i : Nat} (f : Nat → Int32) (h : i < n) (hn : n < 2147483648) : ldE n f (n3 i) = some (f i) := by
  unfold ldE
  rw [inb_n3 (by omega), if_pos (by simpa using h), n3_cl (by omega)]
theorem stE_in {n i : Nat} (M : hyM) (c : Nat) (x : Int32) (h : i < n) (hn : n < 2147483648) : stE M c n (n3 i) x = some (wI M c i x) := by
  unfold stE
  rw [inb_n3 (by omega), if_pos (by simpa using h), n3_cl (by omega)]
theorem putf_in {n i : Nat} (M : hyM) (c : Nat) (x : Int32) (h : i < n) (hn : n < 2147483648) : putf M c n (n3 i) x = wI M c i x := by
  unfold putf
  rw [inb_n3 (by omega), if_pos (by simpa using h), n3_cl (by omega)]
theorem jdv_n3 {a b : Nat} (ha : a < 2147483648) (hb : b < 2147483648) (h0 : 0 < b) : jdv (n3 a) (n3 b) = some (n3 (a / b)) := by
  unfold jdv
  rw [if_neg (by rw [l_0, n3_eq hb (by decide)]; omega), n3_div ha hb]
theorem jrm_n3 {a b : Nat} (ha : a < 2147483648) (hb : b < 2147483648) (h0 : 0 < b) : jrm (n3 a) (n3 b) = some (n3 (a % b)) := by
  unfold jrm
  have h1 : a / b * b ≤ a := Nat.div_mul_le_self a b
  have h2 : a - a / b * b = a % b := by rw [Nat.mul_comm]; exact (Nat.sub_eq_of_eq_add (by rw [Nat.add_comm]; exact (Nat.div_add_mod a b).symm))
  rw [if_neg (by rw [l_0, n3_eq hb (by decide)]; omega), n3_div ha hb, n3_mul, n3_sub h1, h2]
theorem mod_n3 {a b : Nat} (ha : a < 2147483648) (hb : b < 2147483648) : n3 a - n3 a / n3 b * n3 b = n3 (a % b) := by
  have h1 : a / b * b ≤ a := Nat.div_mul_le_self a b
  have h2 : a - a / b * b = a % b := by rw [Nat.mul_comm]; exact (Nat.sub_eq_of_eq_add (by rw [Nat.add_comm]; exact (Nat.div_add_mod a b).symm))
  rw [n3_div ha hb, n3_mul, n3_sub h1, h2]
theorem jmax_n3 {a b : Nat} (ha : a < 2147483648) (hb : b < 2147483648) : jmax (n3 a) (n3 b) = n3 (max a b) := by
  unfold jmax
  rw [ite_lt ha hb]
  by_cases h : a < b
  · rw [if_pos h, Nat.max_eq_right (Nat.le_of_lt h)]
  · rw [if_neg h, Nat.max_eq_left (Nat.not_lt.mp h)]
theorem bI_n3 (b : Bool) : bI b = n3 b.toNat := by cases b <;> rfl
/-! memory -/
theorem rd_wI (M : hyM) (c k : Nat) (x : Int32) (c' k' : Nat) : (wI M c k x).1 c' k' = if c' = c ∧ k' = k then x else M.1 c' k' := by
  unfold wI upd
  by_cases h : c' = c
  · subst h; by_cases h2 : k' = k <;> simp [h2]
  · simp [h]
theorem rd_ne {M : hyM} {c k : Nat} {x : Int32} {c' k' : Nat} (h : c' ≠ c) : (wI M c k x).1 c' k' = M.1 c' k' := by rw [rd_wI, if_neg (fun q => h q.1)]
theorem rd_nk {M : hyM} {c k : Nat} {x : Int32} {c' k' : Nat} (h : k' ≠ k) : (wI M c k x).1 c' k' = M.1 c' k' := by rw [rd_wI, if_neg (fun q => h q.2)]
theorem rd_eq (M : hyM) (c k : Nat) (x : Int32) : (wI M c k x).1 c k = x := by rw [rd_wI, if_pos ⟨rfl, rfl⟩]
theorem rd2_wI (M : hyM) (c k : Nat) (x : Int32) : (wI M c k x).2 = M.2 := rfl
theorem rd1_wL (M : hyM) (c k : Nat) (x : Int64) : (wL M c k x).1 = M.1 := rfl
theorem rd_wL (M : hyM) (c k : Nat) (x : Int64) (c' k' : Nat) : (wL M c k x).2 c' k' = if c' = c ∧ k' = k then x else M.2 c' k' := by
  unfold wL vp_updL
  by_cases h : c' = c
  · subst h; by_cases h2 : k' = k <;> simp [h2]
  · simp [h]
/-- two memories that differ at the places 'p' alone -/
def frm (p : Nat → Nat → Bool) (M N : hyM) : Prop := N.2 = M.2 ∧ ∀ c k, p c k = false → N.1 c k = M.1 c k
theorem frm.rf (p : Nat → Nat → Bool) (M : hyM) : frm p M M := ⟨rfl, fun _ _ _ => rfl⟩
theorem frm.trans {p : Nat → Nat → Bool} {M N O : hyM} (h : frm p M N) (g : frm p N O) : frm p M O := ⟨g.1.trans h.1, fun c k hc => (g.2 c k hc).trans (h.2 c k hc)⟩
theorem frm.w {p : Nat → Nat → Bool} {M N : hyM} (h : frm p M N) {c k : Nat} {x : Int32} (hc : p c k = true) : frm p M (wI N c k x) :=
  ⟨h.1, fun c' k' h' => by
    rw [rd_wI, if_neg (fun e => by rw [e.1, e.2, hc] at h'; cases h')]
    exact h.2 c' k' h'⟩
theorem frm.mono {p q : Nat → Nat → Bool} {M N : hyM} (h : frm p M N) (hpq : ∀ c k, q c k = false → p c k = false) : frm q M N := ⟨h.1, fun c k hc => h.2 c k (hpq c k hc)⟩
/-! loops -/
theorem lpI {σ ρ : Type} (g : Nat → σ → Option ρ) (I : Nat → σ → Prop) (n : Nat) (R : ρ → Prop)
    (hs : ∀ f k s, k < n → I k s → (∃ s', g (f + 1) s = g f s' ∧ I (k + 1) s') ∨ ∃ r, g (f + 1) s = some r ∧ R r)
    (he : ∀ f s, I n s → ∃ r, g (f + 1) s = some r ∧ R r) : ∀ f k s, k ≤ n → n < f + k → I k s → ∃ r, g f s = some r ∧ R r := by
  intro f
  induction f with
  | zero => intro k s h1 h2; omega
  | succ f ih =>
    intro k s h1 h2 h3
    by_cases hk : k < n
    · rcases hs f k s hk h3 with ⟨s', e, h4⟩ | h4
      · rw [e]; exact ih (k + 1) s' (by omega) (by omega) h4
      · exact h4
    · have e : k = n := by omega
      subst e
      exact he f s h3
theorem lpE {σ ρ : Type} (g : Nat → σ → Option ρ) (st : Nat → σ) (n : Nat) (r : ρ)
    (hs : ∀ f k, k < n → g (f + 1) (st k) = g f (st (k + 1)))
    (he : ∀ f, g (f + 1) (st n) = some r) : ∀ f k, k ≤ n → n < f + k → g f (st k) = some r := by
  intro f
  induction f with
  | zero => intro k h1 h2; omega
  | succ f ih =>
    intro k h1 h2
    by_cases hk : k < n
    · rw [hs f k hk]; exact ih (k + 1) (by omega) (by omega)
    · have e : k = n := by omega
      subst e
      exact he f
theorem hyFu_big {n k : Nat} (h : n < 100000) : n < hyFu + k := by unfold hyFu; omega
/-! folds -/
def cnt (p : Nat → Bool) : Nat → Nat
  | 0 => 0
  | k + 1 => cnt p k + (p k).toNat
def smN (f : Nat → Nat) : Nat → Nat
  | 0 => 0
  | k + 1 => smN f k + f k
def mxN (f : Nat → Nat) : Nat → Nat
  | 0 => 0
  | k + 1 => max (mxN f k) (f k)
/-- the last one below k that p holds of; 0 if none -/
def laN (p : Nat → Bool) : Nat → Nat
  | 0 => 0
  | k + 1 => if p k then k else laN p k
theorem cnt_le (p : Nat → Bool) (k : Nat) : cnt p k ≤ k := by
  induction k with
  | zero => exact Nat.le_refl 0
  | succ k ih => rw [cnt]; have := Bool.toNat_le (p k); omega
theorem cnt_mono (p : Nat → Bool) {j k : Nat} (h : j ≤ k) : cnt p j ≤ cnt p k := by
  induction k with
  | zero => have : j = 0 := by omega
            rw [this]; exact Nat.le_refl _
  | succ k ih =>
    by_cases e : j = k + 1
    · rw [e]; exact Nat.le_refl _
    · have := ih (by omega)
      rw [cnt]
      omega
theorem cnt_lt (p : Nat → Bool) {j k : Nat} (h : j < k) (hp : p j = true) : cnt p j < cnt p k := by
  have := cnt_mono p (show j + 1 ≤ k from h)
  rw [cnt, hp] at this
  simp at this
  omega
theorem cnt_congr {p q : Nat → Bool} {k : Nat} (h : ∀ i, i < k → p i = q i) : cnt p k = cnt q k := by
  induction k with
  | zero => rfl
  | succ k ih => rw [cnt, cnt, ih (fun i hi => h i (by omega)), h k (by omega)]
theorem smN_congr {p q : Nat → Nat} {k : Nat} (h : ∀ i, i < k → p i = q i) : smN p k = smN q k := by
  induction k with
  | zero => rfl
  | succ k ih => rw [smN, smN, ih (fun i hi => h i (by omega)), h k (by omega)]
theorem smN_le {f : Nat → Nat} {b : Nat} {k : Nat} (h : ∀ i, i < k → f i ≤ b) : smN f k ≤ k * b := by
  induction k with
  | zero => exact Nat.zero_le _
  | succ k ih =>
    have h1 := ih (fun i hi => h i (by omega))
    have h2 := h k (by omega)
    rw [smN, Nat.add_mul]
    omega
theorem mxN_congr {p q : Nat → Nat} {k : Nat} (h : ∀ i, i < k → p i = q i) : mxN p k = mxN q k := by
  induction k with
  | zero => rfl
  | succ k ih => rw [mxN, mxN, ih (fun i hi => h i (by omega)), h k (by omega)]
theorem mxN_le {f : Nat → Nat} {b : Nat} {k : Nat} (h : ∀ i, i < k → f i ≤ b) : mxN f k ≤ b := by
  induction k with
  | zero => exact Nat.zero_le _
  | succ k ih =>
    have h1 := ih (fun i hi => h i (by omega))
    have h2 := h k (by omega)
    rw [mxN]
    exact Nat.max_le.mpr ⟨h1, h2⟩
theorem laN_spec {p : Nat → Bool} {k : Nat} (h : ∃ i, i < k ∧ p i = true) : laN p k < k ∧ p (laN p k) = true ∧ ∀ j, laN p k < j → j < k → p j = false := by
  induction k with
  | zero => obtain ⟨i, hi, -⟩ := h; omega
  | succ k ih =>
    rw [laN]
    by_cases c : p k = true
    · rw [if_pos c]
      exact ⟨by omega, c, fun j h1 h2 => by omega⟩
    · rw [if_neg c]
      have h2 : ∃ i, i < k ∧ p i = true := by
        obtain ⟨i, hi, hp⟩ := h
        refine ⟨i, ?_, hp⟩
        by_cases e : i = k
        · rw [e] at hp; exact absurd hp c
        · omega
      obtain ⟨a, b, d⟩ := ih h2
      refine ⟨by omega, b, fun j h3 h4 => ?_⟩
      by_cases e : j = k
      · rw [e]; simpa using c
      · exact d j h3 (by omega)
theorem laN_eq {p : Nat → Bool} {k i : Nat} (h1 : i < k) (h2 : p i = true) (h3 : ∀ j, i < j → j < k → p j = false) : laN p k = i := by
  obtain ⟨a, b, d⟩ := laN_spec (p := p) (k := k) ⟨i, h1, h2⟩
  by_cases c : laN p k < i
  · have := d i c h1; rw [h2] at this; cases this
  · by_cases e : i < laN p k
    · have := h3 _ e a; rw [b] at this; cases this
    · omega
def hM0 : hyM := (fun _ _ => 0, fun _ _ => 0)
