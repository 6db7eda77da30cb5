/-! What the walks' functions are written in: checked loads, stores, divisions; bits as truth values. -/
def bI (b : Bool) : Int32 := if b then 1 else 0
theorem bI_t : bI true = 1 := rfl
theorem bI_f : bI false = 0 := rfl
theorem bI_0 {b : Bool} (h : bI b = 0) : ¬ b = true := by cases b <;> simp_all [bI]
theorem bI_1 {b : Bool} (h : ¬ bI b = 0) : b = true := by cases b <;> simp_all [bI]
theorem bI_z {b : Bool} (h : bI b = 0) : b = false := by cases b <;> simp_all [bI]
theorem bI_nar (b : Bool) : narrow .boolean (.int (bI b)) = .int (bI b) := by cases b <;> rfl
theorem bI_vp (b : Bool) : vp_nar .boolean (bI b) = bI b := by cases b <;> rfl
theorem hy_bind {α β : Type} {x : Option α} {f : α → Option β} {r : β} (h : x.bind f = some r) : ∃ v, x = some v ∧ f v = some r := by
  cases x with
  | none => cases h
  | some v => exact ⟨v, rfl, h⟩
def ldE (n : Nat) (f : Nat → Int32) (i : Int32) : Option Int32 := if inb i n = true then some (f i.toNatClampNeg) else none
theorem ldE_some {n : Nat} {f : Nat → Int32} {i v : Int32} (h : ldE n f i = some v) : inb i n = true ∧ f i.toNatClampNeg = v := by
  unfold ldE at h
  by_cases c : inb i n = true
  · rw [if_pos c] at h; exact ⟨c, Option.some.inj h⟩
  · rw [if_neg c] at h; cases h
def stE (M : hyM) (c n : Nat) (i x : Int32) : Option hyM := if inb i n = true then some (wI M c i.toNatClampNeg x) else none
theorem stE_some {M M2 : hyM} {c n : Nat} {i x : Int32} (h : stE M c n i x = some M2) : inb i n = true ∧ wI M c i.toNatClampNeg x = M2 := by
  unfold stE at h
  by_cases c : inb i n = true
  · rw [if_pos c] at h; exact ⟨c, Option.some.inj h⟩
  · rw [if_neg c] at h; cases h
def jdv (a b : Int32) : Option Int32 := if b = 0 then none else some (a / b)
def jrm (a b : Int32) : Option Int32 := if b = 0 then none else some (a - a / b * b)
theorem jdv_some {a b v : Int32} (h : jdv a b = some v) : ¬ b = 0 ∧ a / b = v := by
  unfold jdv at h
  by_cases c : b = 0
  · rw [if_pos c] at h; cases h
  · rw [if_neg c] at h; exact ⟨c, Option.some.inj h⟩
theorem jrm_some {a b v : Int32} (h : jrm a b = some v) : ¬ b = 0 ∧ a - a / b * b = v := by
  unfold jrm at h
  by_cases c : b = 0
  · rw [if_pos c] at h; cases h
  · rw [if_neg c] at h; exact ⟨c, Option.some.inj h⟩
def ckD (r : UInt64) : Option UInt64 := if r &&& 0x7fffffffffffffff ≤ 0x7ff0000000000000 then some r else none
theorem ckD_some {r v : UInt64} (h : ckD r = some v) : vf_n64 r ∧ r = v := by
  unfold ckD at h
  by_cases c : r &&& 0x7fffffffffffffff ≤ 0x7ff0000000000000
  · rw [if_pos c] at h; exact ⟨c, Option.some.inj h⟩
  · rw [if_neg c] at h; cases h
def jmax (x y : Int32) : Int32 := if x < y then y else x
def jabs (x : Int32) : Int32 := if 0 ≤ x then x else 0 - x
def jlshl (x : Int64) (y : Int32) : Int64 := x <<< (y.toInt64 &&& 63)
def jlushr (x : Int64) (y : Int32) : Int64 := (x.toUInt64 >>> (y.toInt64.toUInt64 &&& Int64.toUInt64 63)).toInt64
def atf (n : Nat) (f : Nat → Int32) (i : Int32) : Int32 := if inb i n = true then f i.toNatClampNeg else 0
def putf (M : hyM) (c n : Nat) (i x : Int32) : hyM := if inb i n = true then wI M c i.toNatClampNeg x else M
def hyNo {α : Type} (o : Nat ⊕ α) : Nat := match o with | .inl _ => 1 | .inr _ => 0
def hyoI (o : Nat ⊕ Int32) : Nat ⊕ Option Value := match o with | .inl k => .inl k | .inr r => .inr (some (.int r))
def hyoU (o : Nat ⊕ Unit) : Nat ⊕ Option Value := match o with | .inl k => .inl k | .inr _ => .inr none
def hyFu : Nat := 100000
theorem hy_tabOut (lo : Int) (x : Int32) (n : Nat) (h : ∀ k : Nat, k < n → ¬ x = Int32.ofInt (lo + k)) : x.toInt < lo ∨ lo + n - 1 < x.toInt := by
  by_cases c : x.toInt < lo
  · exact Or.inl c
  · refine Or.inr (Int.not_le.mp fun q => ?_)
    refine h (x.toInt - lo).toNat (by omega) ?_
    rw [show lo + ((x.toInt - lo).toNat : Int) = x.toInt by omega]
    simp
theorem hy_lookOut {x : Int32} (h0 : ¬ x = 0) (h1 : ¬ x = 1) {d a b : Int} : Op.lookupswitch.offset [(0, a), (1, b)] d x.toInt = d := by
  have g0 : ¬ x.toInt = 0 := fun q => h0 (by have := congrArg Int32.ofInt q; simpa using this)
  have g1 : ¬ x.toInt = 1 := fun q => h1 (by have := congrArg Int32.ofInt q; simpa using this)
  have g2 : ¬ (0 : Int) = x.toInt := fun q => g0 q.symm
  have g3 : ¬ (1 : Int) = x.toInt := fun q => g1 q.symm
  simp [Op.lookupswitch.offset, g0, g1, g2, g3]
