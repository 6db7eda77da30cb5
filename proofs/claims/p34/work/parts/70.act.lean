/-! The law's act is always true. -/
theorem ite_z {α : Type} {a : Nat} (ha : a < 2147483648) (x y : α) : (if n3 a = 0 then x else y) = if a = 0 then x else y := ite_eq ha (by decide) x y
theorem ite_12 {α : Type} {a : Nat} (ha : a < 2147483648) (x y : α) : (if n3 a = 12 then x else y) = if a = 12 then x else y := ite_eq ha (by decide) x y
theorem La_act_ok {A : aS} {C M : hyM} (hW : WFA A) (hC : CA A C) (hR : LR A M) (a1 a2 a3 : Int32) :
    ∃ C' M', La_act a1 a2 a3 C M = some (true, C', M') ∧ AO C' M' := by
  have hN := hR.1.1
  have h1 := hR.1.2.1
  have same : ∃ C' M', (some (true, C, M) : Option (Bool × hyM × hyM)) = some (true, C', M') ∧ AO C' M' := ⟨C, M, rfl, A, hW, hC, hR⟩
  rw [La_act]
  rw [ld_1 M, h1]
  by_cases c : a1 < 6
  · rw [if_pos c, Option.bind_some, ite_12 (by omega)]
    by_cases e : A 30 2 = 12
    · rw [if_pos e]; exact same
    · rw [if_neg e, Option.bind_some]
      exact act_add hW hC hR a2 a3 (by omega) (La_act_L49 a2 a3 (n3 (A 30 2))) (fun _ _ _ => rfl)
  · rw [if_neg c, Option.bind_some, ite_z (by omega)]
    by_cases e0 : A 30 2 = 0
    · rw [if_pos e0, Option.bind_some, ite_12 (by omega), if_neg (by omega), Option.bind_some]
      exact act_add hW hC hR a2 a3 (by omega) (La_act_L49b a2 a3 (n3 (A 30 2))) (fun _ _ _ => rfl)
    · obtain ⟨i, hi, ei⟩ := at_ok a2 (m := A 30 2) (by omega) (by omega) M
      rw [if_neg e0, Option.bind_some, ei, Option.bind_some]
      by_cases c10 : 10 ≤ a1
      · rw [if_pos c10]
        by_cases d10 : a1 = 10
        · rw [if_pos d10]
          have h := act_drop hW hC hR (by omega)
          rw [ld_1 M, h1] at h
          exact h
        · rw [if_neg d10]
          by_cases d11 : a1 = 11
          · rw [if_pos d11]
            exact act_pitch hW hC hR a3 hi
          · rw [if_neg d11]
            by_cases d12 : a1 = 12
            · rw [if_pos d12]
              exact act_bars hW hC hR a2 a3
            · rw [if_neg d12]
              by_cases d15 : 15 ≤ a1
              · rw [if_pos d15]
                by_cases e15 : a1 = 15
                · rw [if_pos e15]
                  exact act_trans hW hC hR a2
                · rw [if_neg e15]
                  by_cases e16 : a1 = 16
                  · rw [if_pos e16]
                    exact act_width hW hC hR a2 a3
                  · rw [if_neg e16]
                    have hline : ∃ C' M', ((La_line a2 a3 C M).bind fun (v53, C54, M55) => some (v53, C54, M55)) = some (true, C', M') ∧ AO C' M' := by
                      obtain ⟨C', M', e, q⟩ := La_line_ok hW hC hR a2 a3
                      rw [e, Option.bind_some]
                      exact ⟨C', M', rfl, q⟩
                    by_cases e17 : a1 = 17
                    · rw [if_pos e17]
                      obtain ⟨r, hr, er⟩ := at_ok a3 (m := 3) (by decide) (by decide) M
                      have er : La_at a3 3 M = some (n3 r) := er
                      rw [er, Option.bind_some, ite_z (by omega)]
                      by_cases f0 : r = 0
                      · rw [if_pos f0]
                        obtain ⟨v, hv, ev⟩ := at_ok a2 (m := 2) (by decide) (by decide) M
                        have ev : La_at a2 2 M = some (n3 v) := ev
                        rw [ev, Option.bind_some]
                        exact act_verse hW hC hR hv
                      · rw [if_neg f0]
                        exact hline
                    · rw [if_neg e17]
                      exact hline
              · rw [if_neg d15]
                exact act_rep hW hC hR a2 a3 (by omega)
      · rw [if_neg c10]
        exact act_mark hW hC hR a3 hi
