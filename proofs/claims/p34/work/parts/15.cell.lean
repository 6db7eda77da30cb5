/-! The script, cell by cell. -/
theorem q_638 : Cond.static yL_cell ∈ hyGood := hy_gin 638 (by decide +kernel) (by decide +kernel)
theorem q_639 : Cond.code yL_cell cL_cell 2 (some .int) ∈ hyGood := hy_gin 639 (by decide +kernel) (by decide +kernel)
theorem q_640 : Cond.constant RL 7 (2146121005) ∈ hyGood := hy_gin 640 (by decide +kernel) (by decide +kernel)
theorem m_La_cell : hyMS yL_cell cL_cell 2 (some .int) 2 := ⟨q_639, q_638, q_83, ⟨by decide +kernel, by decide +kernel, by decide +kernel⟩⟩
theorem c_La_cell {l : Launch} {G : hyG} (a1 : Int32) {res : Int32} (T : hyT) (h : scv G a1 = some res) : hyC l yL_cell (.code yL_cell cL_cell 2 (some .int)) 0 0 0 G [.ref (scb G), .int a1] T (.inr (some (.int res)), T) := by
  refine hy_of (by decide +kernel) (Nat.le_of_ble_eq_true rfl) ?_
  intro p e s m below meth c hx hb hml hown hts hr hlocks ht hX hP hS ls hl
  have hl : lv_has ls 2 [(0, .ref (scb G)), (1, .int a1)] := hl
  have hXs : va_X (scb G) (scn G) (scf G) s s.heap := hX.2.2.2.2.2.2.2.2.1
  have hbA : ¬ hyA G (scb G) := hX.2.2.2.2.2.2.2.2.2
  have hbl := va_X_lt hXs
  rw [scv] at h
  refine lv_iload_n hx hb dL_cell_0 rfl (lv_at hl 1 rfl) ?_
  refine lv_aload_n hx hb dL_cell_1 rfl (lv_at hl 0 rfl) ?_
  refine va_slen hx hb hXs hbl hbA hS dL_cell_2 ?_
  refine lv_icmp_ge (tgt := 12) hx hb dL_cell_3 (by decide) (fun c1 => ?_) (fun c1 => ?_)
  · rw [if_neg (Int32.not_lt.mpr c1)] at h
    refine lv_ldc (v := 2146121005) hx hb hown (hts _ q_640) dL_cell_12 ?_
    refine lv_iload_n hx hb dL_cell_14 rfl (lv_at hl 1 rfl) ?_
    refine lv_iconst (v := 1) hx hb dL_cell_15 rfl ?_
    refine lv_iadd hx hb dL_cell_16 ?_
    refine lv_imul hx hb dL_cell_17 ?_
    exact hy_iret (T := T) hx hb hr hlocks hP hS (Nat.zero_le _) (Nat.zero_le _) (by rw [← Option.some.inj h]) dL_cell_18
  · rw [if_pos (Int32.not_le.mp c1)] at h
    obtain ⟨n1, h1⟩ := ldE_some h
    refine lv_aload_n hx hb dL_cell_6 rfl (lv_at hl 0 rfl) ?_
    refine lv_iload_n hx hb dL_cell_7 rfl (lv_at hl 1 rfl) ?_
    refine va_sld hx hb hXs hbl hbA hS (inb_vp n1) dL_cell_8 ?_
    rw [h1]
    refine lv_goto (tgt := 18) hx hb dL_cell_9 (by decide) ?_
    exact hy_iret (T := T) hx hb hr hlocks hP hS (Nat.zero_le _) (Nat.zero_le _) rfl dL_cell_18
