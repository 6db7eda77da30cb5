/-! Pitches in a key: both sides alike, by counting through all tonics and pitches; parallels. -/
def alk {α : Type} (x y : Option α) : Prop := ∃ v, x = some v ∧ y = some v
def mT (t : Nat) : hyM := (fun c k => if c = 30 ∧ k = 1 then n3 t else 0, fun _ _ => 0)
theorem mT_rd (t : Nat) : (mT t).1 30 1 = n3 t := rfl
theorem own_L4 {M N : hyM} (h : M.1 30 1 = N.1 30 1) (a : Int32) (f : Nat) : ∀ x y, Rf_ownDegree_L4 a M f x y = Rf_ownDegree_L4 a N f x y := by
  induction f with
  | zero => intro x y; rw [Rf_ownDegree_L4, Rf_ownDegree_L4]
  | succ f ih =>
    intro x y
    rw [Rf_ownDegree_L4, Rf_ownDegree_L4, h]
    rw [ih]
    rfl
theorem own_cg {M N : hyM} (h : M.1 30 1 = N.1 30 1) (a : Int32) : Rf_ownDegree a M = Rf_ownDegree a N := by rw [Rf_ownDegree, Rf_ownDegree, own_L4 h]
theorem rai_cg {M N : hyM} (h : M.1 30 1 = N.1 30 1) (a : Int32) : Rf_isRaised a M = Rf_isRaised a N := by rw [Rf_isRaised, Rf_isRaised, own_cg h]
theorem deg_cg {M N : hyM} (h : M.1 30 1 = N.1 30 1) (a : Int32) : Rf_degree a M = Rf_degree a N := by
  rw [Rf_degree, Rf_degree, rai_cg h]
  congr 1
  funext v
  rw [own_cg h]
theorem let_cg {M N : hyM} (h : M.1 30 1 = N.1 30 1) : Rf_tonicLetter M = Rf_tonicLetter N := by unfold Rf_tonicLetter; rw [h]
theorem stp_L33 {M N : hyM} (h : M.1 30 1 = N.1 30 1) (a : Int32) (v : Bool) (w : Int32) (f : Nat) : ∀ x, Rf_step_L33 a M v w f x = Rf_step_L33 a N v w f x := by
  induction f with
  | zero => intro x; rw [Rf_step_L33, Rf_step_L33]
  | succ f ih =>
    intro x
    rw [Rf_step_L33, Rf_step_L33, let_cg h, ih]
    rfl
theorem stp_cg {M N : hyM} (h : M.1 30 1 = N.1 30 1) (a : Int32) : Rf_step a M = Rf_step a N := by
  rw [Rf_step, Rf_step]
  simp only [rai_cg h, deg_cg h, stp_L33 h, let_cg h]
theorem sha_cg {M N : hyM} (h : M.1 30 1 = N.1 30 1) (a : Int32) : Rf_shape a M = Rf_shape a N := by
  rw [Rf_shape, Rf_shape, deg_cg h, rai_cg h]
theorem led_cg {M N : hyM} (h : M.1 30 1 = N.1 30 1) (a b : Int32) : Rf_ledgers a b M = Rf_ledgers a b N := by rw [Rf_ledgers, Rf_ledgers, stp_cg h]
