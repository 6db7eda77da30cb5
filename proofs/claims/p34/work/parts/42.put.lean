/-! Calls that change numbers alone: pitches, bars, keys, the input. -/
def dce (c : Nat) : Bool := Nat.ble 12 c && Nat.ble c 24
theorem CD.fr {A : aS} {M N : hyM} (h : CD A M) (g : ∀ c k, dce c = true → N.1 c k = M.1 c k) : CD A N := by
  obtain ⟨⟨x1, x2, x3, x4⟩, ⟨o1, o2, o3⟩, ⟨y1, y2, y3, y4⟩⟩ := h
  refine ⟨⟨by rw [g _ _ rfl]; exact x1, fun i hi => by rw [g _ _ rfl]; exact x2 i hi, fun i hi => by rw [g _ _ rfl]; exact x3 i hi, fun p hp => ?_⟩, ⟨by rw [g _ _ rfl]; exact o1, fun i x hx => by rw [g _ _ rfl]; exact o2 i x hx, fun p hp => by rw [g _ _ rfl]; exact o3 p hp⟩, ⟨fun i hi => by rw [g _ _ rfl]; exact y1 i hi, fun p hp => ?_, by rw [g _ _ rfl]; exact y3, by rw [g _ _ rfl]; exact y4⟩⟩
  · rw [g _ _ rfl, g _ _ rfl, g _ _ rfl]; exact x4 p hp
  · rw [g _ _ rfl, g _ _ rfl]; exact y2 p hp
theorem dce_w {M : hyM} {c k : Nat} {x : Int32} (hc : dce c = false) : ∀ c' k', dce c' = true → (wI M c k x).1 c' k' = M.1 c' k' := fun c' k' h => rd_ne (fun e => by rw [e, hc] at h; cases h)
theorem pit_by {p k : Nat} (h : 24 ≤ p + k) : n3 p + (n3 k - n3 24) = n3 (p + k - 24) := by
  rw [Int32.sub_eq_add_neg, ← Int32.add_assoc, ← Int32.sub_eq_add_neg, n3_add, n3_sub h]
theorem k_ton : ∀ t : Fin 12, ∀ k : Fin 49, Jm_floorMod (n3 t.val + (n3 k.val - n3 24)) 12 hM0 = some (n3 ((t.val + k.val) % 12)) ∧ ((n3 t.val + (n3 k.val - n3 24)) + 24) - ((n3 t.val + (n3 k.val - n3 24)) + 24) / 12 * 12 = n3 ((t.val + k.val) % 12) := by decide +kernel
/-- all pitches would stay within -/
def cmv (A : aS) (k : Nat) : Bool := (List.range (4 * A 30 2)).all (fun i => decide (36 + 24 ≤ A 32 i + k) && decide (A 32 i + k ≤ 84 + 24))
theorem cmv_iff {A : aS} {k : Nat} : cmv A k = true ↔ ∀ i, i < 4 * A 30 2 → 36 + 24 ≤ A 32 i + k ∧ A 32 i + k ≤ 84 + 24 := by
  unfold cmv
  rw [List.all_eq_true]
  constructor
  · intro h i hi
    have := h i (List.mem_range.mpr hi)
    simpa using this
  · intro h i hi
    simpa using h i (List.mem_range.mp hi)
theorem canMove_ok {A : aS} {M : hyM} (hW : WFA A) (hC : CA A M) {k : Nat} (hk : k ≤ 48) : Tu_canMove (n3 k - n3 24) M = some (cmv A k) := by
  have hn := hW.1.1
  have key := lpI (σ := Int32) (fun f s => Tu_canMove_L2 (n3 k - n3 24) M f s) (fun j s => s = n3 j ∧ ∀ i, i < j → 36 + 24 ≤ A 32 i + k ∧ A 32 i + k ≤ 84 + 24) (4 * A 30 2) (fun r => (r = .inl false ∧ cmv A k = false) ∨ (cmv A k = true ∧ ∃ y, r = .inr y)) ?_ ?_ hyFu 0 (n3 0) (Nat.zero_le _) (hyFu_big (by omega)) ⟨rfl, fun i hi => absurd hi (Nat.not_lt_zero _)⟩
  · obtain ⟨r, e1, e2⟩ := key
    have e1 : Tu_canMove_L2 (n3 k - n3 24) M hyFu (n3 0) = some r := e1
    rw [Tu_canMove, show (0 : Int32) = n3 0 from rfl, e1, Option.bind_some]
    rcases e2 with ⟨rfl, q⟩ | ⟨q, y, rfl⟩
    · rw [q]
    · rw [q]
  · rintro f j s hj ⟨rfl, hi⟩
    have hg := hW.1.2.2.2.1 j hj
    show (∃ s', Tu_canMove_L2 (n3 k - n3 24) M (f + 1) (n3 j) = Tu_canMove_L2 (n3 k - n3 24) M f s' ∧ _) ∨ ∃ r, Tu_canMove_L2 (n3 k - n3 24) M (f + 1) (n3 j) = some r ∧ _
    have hc : (if (atf 160 (M.1 3) (n3 j) + (n3 k - n3 24)) < 36 then true else (!decide ((atf 160 (M.1 3) (n3 j) + (n3 k - n3 24)) ≤ 84))) = !(decide (36 + 24 ≤ A 32 j + k) && decide (A 32 j + k ≤ 84 + 24)) := by
      rw [atf_in _ (by omega) (by decide), CA_pit hC, pit_by (by omega), l_36, l_84, ite_lt (by omega) (by omega), dec_le (by omega) (by omega)]
      by_cases q : A 32 j + k - 24 < 36
      · have : ¬ 36 + 24 ≤ A 32 j + k := by omega
        rw [if_pos q]; simp [this] <;> omega
      · have h1 : 36 + 24 ≤ A 32 j + k := by omega
        rw [if_neg q]
        by_cases q2 : A 32 j + k - 24 ≤ 84
        · have h2 : A 32 j + k ≤ 84 + 24 := by omega
          simp [q2, h1, h2] <;> omega
        · have h2 : ¬ A 32 j + k ≤ 84 + 24 := by omega
          simp [q2, h2] <;> omega
    rw [Tu_canMove_L2, CA_n hC, if_neg (by rw [l_4, n3_mul, n3_le (by omega) (by omega)]; omega), hc]
    by_cases q : 36 + 24 ≤ A 32 j + k ∧ A 32 j + k ≤ 84 + 24
    · have : (!(decide (36 + 24 ≤ A 32 j + k) && decide (A 32 j + k ≤ 84 + 24))) = false := by simp [q.1, q.2] <;> omega
      rw [this, if_neg (by decide), n3_s]
      refine Or.inl ⟨_, rfl, rfl, fun i hi2 => ?_⟩
      by_cases e : i = j
      · subst e; exact q
      · exact hi i (by omega)
    · have : (!(decide (36 + 24 ≤ A 32 j + k) && decide (A 32 j + k ≤ 84 + 24))) = true := by
        by_cases q1 : 36 + 24 ≤ A 32 j + k
        · have q2 : ¬ A 32 j + k ≤ 84 + 24 := fun z => q ⟨q1, z⟩
          simp [q2] <;> omega
        · simp [q1] <;> omega
      rw [this, if_pos rfl]
      refine Or.inr ⟨_, rfl, Or.inl ⟨rfl, ?_⟩⟩
      cases z : cmv A k with
      | false => rfl
      | true => exact absurd (cmv_iff.mp z j hj) q
  · rintro f s ⟨rfl, hi⟩
    show ∃ r, Tu_canMove_L2 (n3 k - n3 24) M (f + 1) (n3 (4 * A 30 2)) = some r ∧ _
    rw [Tu_canMove_L2, CA_n hC, if_pos (by rw [l_4, n3_mul, n3_le (by omega) (by omega)]; omega)]
    exact ⟨_, rfl, Or.inr ⟨cmv_iff.mpr hi, _, rfl⟩⟩
/-- all pitches moved -/
def trA (A : aS) (k : Nat) : aS := fun c j => if c = 32 ∧ j < 4 * A 30 2 then A 32 j + k - 24 else if c = 30 ∧ j = 1 then (A 30 1 + k) % 12 else A c j
