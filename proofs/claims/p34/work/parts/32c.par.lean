/-- both go the same way -/
def bwy (u v l m : Nat) : Bool := (decide (v < u) && decide (m < l)) || (decide (u < v) && decide (l < m))
def prl (u v l m : Nat) : Bool := bwy u v l m && (decide ((u + 60 - l) % 12 = (v + 60 - m) % 12) && (decide ((u + 60 - l) % 12 = 0) || decide ((u + 60 - l) % 12 = 7)))
theorem fm_ok {u l : Nat} (hu : 36 ≤ u ∧ u ≤ 84) (hl : 36 ≤ l ∧ l ≤ 84) (M : hyM) : Jm_floorMod (n3 u - n3 l) 12 M = some (n3 ((u + 60 - l) % 12)) := by
  have := (k_fm ⟨u - 36, by omega⟩ ⟨l - 36, by omega⟩).1
  dsimp only at this
  rw [show u - 36 + 36 = u by omega, show l - 36 + 36 = l by omega, show u - 36 + 60 - (l - 36) = u + 60 - l by omega] at this
  exact this
theorem rm_ok {u l : Nat} (hu : 36 ≤ u ∧ u ≤ 84) (hl : 36 ≤ l ∧ l ≤ 84) : n3 u - n3 l + 60 = n3 (u + 60 - l) := by
  have := (k_fm ⟨u - 36, by omega⟩ ⟨l - 36, by omega⟩).2
  dsimp only at this
  rw [show u - 36 + 36 = u by omega, show l - 36 + 36 = l by omega, show u - 36 + 60 - (l - 36) = u + 60 - l by omega] at this
  exact this
theorem cm_ok {u l : Nat} (hu : 36 ≤ u ∧ u ≤ 84) (hl : 36 ≤ l ∧ l ≤ 84) : (n3 u - n3 l ≤ 0 ↔ u ≤ l) ∧ (0 ≤ n3 u - n3 l ↔ l ≤ u) ∧ (0 < n3 u - n3 l ↔ l < u) := by
  obtain ⟨a, b, c⟩ := k_cm ⟨u - 36, by omega⟩ ⟨l - 36, by omega⟩
  dsimp only at a b c
  rw [show u - 36 + 36 = u by omega, show l - 36 + 36 = l by omega, decide_eq_decide] at a b c
  refine ⟨a.trans ?_, b.trans ?_, c.trans ?_⟩ <;> omega
def ptc (g : Nat → Nat) (n : Nat) : Prop := ∀ i, i < 4 * n → 36 ≤ g i ∧ g i ≤ 84
theorem Tu_pitch_ok {g : Nat → Nat} {M : hyM} (h : ∀ i, M.1 3 i = n3 (g i)) {i p : Nat} (hi : i < 40) (hp : p < 4) : Tu_pitchOf (n3 i) (n3 p) M = n3 (g (4 * i + p)) := by
  unfold Tu_pitchOf
  rw [l_4, n3_mul, n3_add, atf_in _ (by omega) (by decide), h, Nat.mul_comm]
theorem goPar_ok {g : Nat → Nat} {n : Nat} {M : hyM} (hg : ptc g n) (hn : n ≤ 40) (h : ∀ i, M.1 3 i = n3 (g i)) {i a b : Nat} (hi : i < n) (h0 : 0 < i) (ha : a < 4) (hb : b < 4) :
    Tu_goParallel (n3 i) (n3 a) (n3 b) M = some (prl (g (4 * i + a)) (g (4 * (i - 1) + a)) (g (4 * i + b)) (g (4 * (i - 1) + b))) := by
  have b1 := hg (4 * i + a) (by omega)
  have b2 := hg (4 * (i - 1) + a) (by omega)
  have b3 := hg (4 * i + b) (by omega)
  have b4 := hg (4 * (i - 1) + b) (by omega)
  have e1 : n3 i - 1 = n3 (i - 1) := by rw [l_1, n3_sub (by omega)]
  rw [Tu_goParallel, l_1, if_pos (by rw [n3_le (by omega) (by omega)]; omega), ← l_1, e1, Tu_pitch_ok h (by omega) ha, Tu_pitch_ok h (by omega) hb, Tu_pitch_ok h (by omega) ha, Tu_pitch_ok h (by omega) hb]
  generalize g (4 * i + a) = u at *
  generalize g (4 * (i - 1) + a) = v at *
  generalize g (4 * i + b) = l at *
  generalize g (4 * (i - 1) + b) = m at *
  rw [fm_ok b1 b3, Option.bind_some]
  have hlt : (u + 60 - l) % 12 < 12 := Nat.mod_lt _ (by decide)
  have hlt2 : (v + 60 - m) % 12 < 12 := Nat.mod_lt _ (by decide)
  have hc : (if (if n3 u ≤ n3 v then false else !decide (n3 l ≤ n3 m)) = true then (if n3 ((u + 60 - l) % 12) = 0 then true else decide (n3 ((u + 60 - l) % 12) = 7)) else (if (if n3 v ≤ n3 u then false else !decide (n3 m ≤ n3 l)) = true then (if n3 ((u + 60 - l) % 12) = 0 then true else decide (n3 ((u + 60 - l) % 12) = 7)) else false)) = (bwy u v l m && (decide ((u + 60 - l) % 12 = 0) || decide ((u + 60 - l) % 12 = 7))) := by
    rw [l_0, l_7, ite_eq (by omega) (by omega), dec_eq (by omega) (by omega), ite_le (by omega) (by omega), ite_le (by omega) (by omega), dec_le (by omega) (by omega), dec_le (by omega) (by omega)]
    unfold bwy
    generalize (u + 60 - l) % 12 = z
    have e : (if z = 0 then true else decide (z = 7)) = (decide (z = 0) || decide (z = 7)) := by
      by_cases c : z = 0 <;> simp [c]
    rw [e]
    by_cases c1 : u ≤ v <;> by_cases c2 : v ≤ u <;> by_cases c3 : l ≤ m <;> by_cases c4 : m ≤ l <;> simp [c1, c2, c3, c4, Nat.not_lt.mpr, Nat.not_le.mp] <;> omega
  rw [hc, fm_ok b2 b4]
  unfold prl
  simp only [Option.bind_some]
  rw [dec_eq (by omega) (by omega)]
  cases bwy u v l m <;> cases decide ((u + 60 - l) % 12 = 0) <;> cases decide ((u + 60 - l) % 12 = 7) <;> cases decide ((u + 60 - l) % 12 = (v + 60 - m) % 12) <;> rfl
