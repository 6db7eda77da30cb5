/-! The world of one run: cells 0..29 are the class's, 30..33 the law's d, no, re, li, made once, at addresses that are variables; 34 and 35 are the law's su and me, where they stand; their ints and longs are two functions of cell and slot. -/
abbrev hyM : Type := (Nat → Nat → Int32) × (Nat → Nat → Int64)
abbrev hyT : Type := hyM × hyM × hyM
/-- tables; classes of int, boolean and long arrays; cells' addresses; static arrays' addresses; strings' addresses; what may be written -/
abbrev hyG : Type := va_G × ClassId × (Nat → Nat) × (Nat → Nat) × (Nat → Nat) × (Nat → Prop) × (Nat × Nat × Nat × (Nat → Int32))
abbrev adr (G : hyG) (k : Nat) : Nat := G.2.2.1 k
abbrev exa (G : hyG) (k : Nat) : Nat := G.2.2.2.1 k
abbrev sta (G : hyG) (k : Nat) : Nat := G.2.2.2.2.1 k
abbrev hyA (G : hyG) : Nat → Prop := G.2.2.2.2.2.1
/-- how many of su and me stand; the script: its cell, its length, its ints -/
def exn (G : hyG) : Nat := G.2.2.2.2.2.2.1
def scb (G : hyG) : Nat := G.2.2.2.2.2.2.2.1
def scn (G : hyG) : Nat := G.2.2.2.2.2.2.2.2.1
def scf (G : hyG) : Nat → Int32 := G.2.2.2.2.2.2.2.2.2
theorem hy34 (G : hyG) {c : Nat} (h : c < 34) : c < 34 + exn G := Nat.lt_of_lt_of_le h (Nat.le_add_right _ _)
abbrev hyTy (G : hyG) : List (ClassId × FieldType) := [(G.2.1, .int)]
def pkM (T : hyT) (c : Nat) : hyM := if c < 30 then T.1 else if c < 51 then T.2.1 else T.2.2
def arI (G : hyG) (n : Nat) (f : Nat → Int32) : va_E := .inl (G.2.1, n, .inl f)
def ent (G : hyG) (c : Nat) (f : Nat → Int32) (g : Nat → Int64) : va_E := match c with
  | 0 => .inr (9, [.ref (adr G 1), .ref (adr G 4), .ref (adr G 5), .ref (adr G 9), .ref (adr G 12), .ref (adr G 18), .ref (adr G 21), .ref (adr G 25), .ref (adr G 28), .int (f 9)])
  | 1 => .inr (7, [.ref (adr G 2), .ref (adr G 3), .long (g 2), .long (g 3), .int (f 4), .int (f 5)])
  | 2 => arI G 40 f
  | 3 => arI G 160 f
  | 4 => .inr (0, [.int (f 0), .int (f 1)])
  | 5 => .inr (6, [.ref (adr G 6), .ref (adr G 7), .ref (adr G 8), .int (f 3)])
  | 6 => arI G 3 f
  | 7 => arI G 3 f
  | 8 => arI G 3 f
  | 9 => .inr (8, [.ref (adr G 10), .ref (adr G 11)])
  | 10 => arI G 96 f
  | 11 => arI G 2880 f
  | 12 => .inr (5, [.ref (adr G 13), .ref (adr G 14), .ref (adr G 15), .ref (adr G 16), .ref (adr G 17), .int (f 5)])
  | 13 => arI G 40 f
  | 14 => arI G 40 f
  | 15 => arI G 40 f
  | 16 => arI G 40 f
  | 17 => arI G 40 f
  | 18 => .inr (4, [.ref (adr G 19), .ref (adr G 20), .int (f 2)])
  | 19 => arI G 80 f
  | 20 => arI G 40 f
  | 21 => .inr (2, [.ref (adr G 22), .ref (adr G 23), .ref (adr G 24), .int (f 3), .int (f 4)])
  | 22 => arI G 40 f
  | 23 => arI G 40 f
  | 24 => arI G 40 f
  | 25 => .inr (1, [.ref (adr G 26), .ref (adr G 27), .int (f 2)])
  | 26 => arI G 192 f
  | 27 => arI G 8 f
  | 28 => .inr (3, [.ref (adr G 29), .int (f 1)])
  | 29 => arI G 60 f
  | 30 => arI G 6 f
  | 31 => arI G 60 f
  | 32 => arI G 9 f
  | 33 => arI G 16 f
  | 34 => arI G 30 f
  | _ => arI G 9 f

def wld (G : hyG) (T : hyT) : va_W := (List.range (34 + exn G)).map (fun c => (adr G c, ent G c ((pkM T c).1 c) ((pkM T c).2 c)))
theorem wld_get (G : hyG) (T : hyT) (c : Nat) (h : c < 34 + exn G) : (wld G T)[c]? = some (adr G c, ent G c ((pkM T c).1 c) ((pkM T c).2 c)) := by
  simp [wld, h]
theorem wld_len (G : hyG) (T : hyT) : (wld G T).length = 34 + exn G := by simp [wld]
/-- one slot written -/
def wI (M : hyM) (c k : Nat) (x : Int32) : hyM := (fun c' => if c' = c then upd (M.1 c') k x else M.1 c', M.2)
def wL (M : hyM) (c k : Nat) (x : Int64) : hyM := (M.1, fun c' => if c' = c then vp_updL (M.2 c') k x else M.2 c')
theorem wI_self (M : hyM) (c k : Nat) (x : Int32) : (wI M c k x).1 c = upd (M.1 c) k x := by simp [wI]
theorem wI_ne (M : hyM) {c c' : Nat} (h : c' ≠ c) (k : Nat) (x : Int32) : (wI M c k x).1 c' = M.1 c' := by simp [wI, h]
theorem wI_2 (M : hyM) (c k : Nat) (x : Int32) : (wI M c k x).2 = M.2 := rfl
theorem wL_self (M : hyM) (c k : Nat) (x : Int64) : (wL M c k x).2 c = vp_updL (M.2 c) k x := by simp [wL]
theorem wL_ne (M : hyM) {c c' : Nat} (h : c' ≠ c) (k : Nat) (x : Int64) : (wL M c k x).2 c' = M.2 c' := by simp [wL, h]
theorem wL_1 (M : hyM) (c k : Nat) (x : Int64) : (wL M c k x).1 = M.1 := rfl
def wTI (T : hyT) (c k : Nat) (x : Int32) : hyT := if c < 30 then (wI T.1 c k x, T.2) else if c < 51 then (T.1, wI T.2.1 c k x, T.2.2) else (T.1, T.2.1, wI T.2.2 c k x)
def wTL (T : hyT) (c k : Nat) (x : Int64) : hyT := if c < 30 then (wL T.1 c k x, T.2) else if c < 51 then (T.1, wL T.2.1 c k x, T.2.2) else (T.1, T.2.1, wL T.2.2 c k x)
theorem pkM_wTI (T : hyT) (c k : Nat) (x : Int32) (c' : Nat) : (pkM (wTI T c k x) c').2 c' = (pkM T c').2 c' ∧ (pkM (wTI T c k x) c').1 c' = if c' = c then upd ((pkM T c').1 c') k x else (pkM T c').1 c' := by
  unfold pkM wTI
  by_cases e : c' = c
  · subst e
    by_cases h1 : c' < 30
    · simp [h1, wI]
    · by_cases h2 : c' < 51
      · simp [h1, h2, wI]
      · simp [h1, h2, wI]
  · by_cases h1 : c < 30 <;> by_cases h2 : c < 51 <;> by_cases h3 : c' < 30 <;> by_cases h4 : c' < 51 <;> simp [h1, h2, h3, h4, wI, e]
theorem pkM_wTL (T : hyT) (c k : Nat) (x : Int64) (c' : Nat) : (pkM (wTL T c k x) c').1 c' = (pkM T c').1 c' ∧ (pkM (wTL T c k x) c').2 c' = if c' = c then vp_updL ((pkM T c').2 c') k x else (pkM T c').2 c' := by
  unfold pkM wTL
  by_cases e : c' = c
  · subst e
    by_cases h1 : c' < 30
    · simp [h1, wL]
    · by_cases h2 : c' < 51
      · simp [h1, h2, wL]
      · simp [h1, h2, wL]
  · by_cases h1 : c < 30 <;> by_cases h2 : c < 51 <;> by_cases h3 : c' < 30 <;> by_cases h4 : c' < 51 <;> simp [h1, h2, h3, h4, wL, e]
theorem wld_setI (G : hyG) (T : hyT) (c k : Nat) (x : Int32) (h : c < 34 + exn G) : (wld G T).set c (adr G c, ent G c (upd ((pkM T c).1 c) k x) ((pkM T c).2 c)) = wld G (wTI T c k x) := by
  apply List.ext_getElem?
  intro i
  by_cases hi : i < 34 + exn G
  · rw [wld_get _ _ _ hi, (pkM_wTI T c k x i).1, (pkM_wTI T c k x i).2]
    by_cases e : i = c
    · subst e
      rw [List.getElem?_set_self (by rw [wld_len]; exact h)]
      simp
    · rw [List.getElem?_set_ne (Ne.symm e), wld_get _ _ _ hi]
      simp [e]
  · rw [List.getElem?_eq_none (by rw [List.length_set, wld_len]; omega), List.getElem?_eq_none (by rw [wld_len]; omega)]
theorem wld_setL (G : hyG) (T : hyT) (c k : Nat) (x : Int64) (h : c < 34 + exn G) : (wld G T).set c (adr G c, ent G c ((pkM T c).1 c) (vp_updL ((pkM T c).2 c) k x)) = wld G (wTL T c k x) := by
  apply List.ext_getElem?
  intro i
  by_cases hi : i < 34 + exn G
  · rw [wld_get _ _ _ hi, (pkM_wTL T c k x i).1, (pkM_wTL T c k x i).2]
    by_cases e : i = c
    · subst e
      rw [List.getElem?_set_self (by rw [wld_len]; exact h)]
      simp
    · rw [List.getElem?_set_ne (Ne.symm e), wld_get _ _ _ hi]
      simp [e]
  · rw [List.getElem?_eq_none (by rw [List.length_set, wld_len]; omega), List.getElem?_eq_none (by rw [wld_len]; omega)]
def hyAD (G : hyG) : Prop := (∀ i j, i < 34 + exn G → j < 34 + exn G → adr G i = adr G j → i = j) ∧ ∀ i, i < 34 + exn G → hyA G (adr G i)
theorem hyAD.D {G : hyG} (h : hyAD G) (T : hyT) : va_D (hyA G) (wld G T) := by
  have key : ∀ (k : Nat) (q : Nat × va_E), (wld G T)[k]? = some q → k < 34 + exn G ∧ q.1 = adr G k := by
    intro k q hk
    have hl := (List.getElem?_eq_some_iff.mp hk).1
    rw [wld_len] at hl
    rw [wld_get _ _ _ hl] at hk
    cases hk
    exact ⟨hl, rfl⟩
  refine ⟨fun i j p q hi hj hpq => ?_, fun k q hk => ?_⟩
  · obtain ⟨a1, a2⟩ := key i p hi
    obtain ⟨b1, b2⟩ := key j q hj
    exact h.1 i j a1 b1 (by rw [← a2, ← b2]; exact hpq)
  · obtain ⟨a1, a2⟩ := key k q hk
    rw [a2]
    exact h.2 k a1
