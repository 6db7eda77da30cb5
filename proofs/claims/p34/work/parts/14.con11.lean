set_option maxHeartbeats 1000000 in
set_option maxRecDepth 100000 in
theorem c_La_fit {l : Launch} {G : hyG} (hex : 1 ≤ exn G) (Mc Mo : hyM) (a1 : Int32) (a2 : Int32) (M : hyM) {res : Int32} (h : La_fit a1 a2 M = some res) : hyC l yL_fit (.code yL_fit cL_fit 9 (some .int)) 3 69 (0) G [.int a1, .int a2, .ref (adr G 34), .ref (adr G 30), .ref (adr G 31), .ref (adr G 33)] (Mc, M, Mo) (.inr (some (.int res)), (Mc, M, Mo)) := by
  refine hy_of (by decide +kernel) (Nat.le_of_ble_eq_true rfl) ?_
  intro p e s m below meth c hx hb hml hown hts hr hlocks ht hX hP hS ls hl
  have hl : lv_has ls 9 [(0, .int a1), (1, .int a2), (2, .ref (adr G 34)), (3, .ref (adr G 30)), (4, .ref (adr G 31)), (5, .ref (adr G 33))] := hl
  rw [La_fit] at h
  refine lv_iconst (v := 0) hx hb dL_fit_0 rfl ?_
  refine lv_istore (lv' := [(6, .int 0), (0, .int a1), (1, .int a2), (2, .ref (adr G 34)), (3, .ref (adr G 30)), (4, .ref (adr G 31)), (5, .ref (adr G 33))]) hx hb dL_fit_1 hl (by decide) rfl (fun ls hl => ?_)
  have L31 : ∀ (f : Nat) (x1 : Int32) (qL : (Int32 ⊕ (Int32))) (h : La_fit_L3 a1 a2 M f x1 = some qL) (hq : ∀ r9, qL = .inl r9 → res = r9) (H : Heap) (locs : List Loc) (ls : Array Slot) (hP : va_P G.1 vwCl (wld G (Mc, M, Mo)) H) (hS : va_S (hyA G) s.heap H locs) (hl : lv_has ls 9 [(0, .int a1), (1, .int a2), (2, .ref (adr G 34)), (3, .ref (adr G 30)), (4, .ref (adr G 31)), (5, .ref (adr G 33)), (6, .int x1)]) (kk : ∀ (y1 : Int32), qL = .inr (y1) → ∀ (H : Heap) (locs : List Loc) (ls : Array Slot), va_P G.1 vwCl (wld G (Mc, M, Mo)) H → va_S (hyA G) s.heap H locs → lv_has ls 9 [(0, .int a1), (1, .int a2), (2, .ref (adr G 34)), (3, .ref (adr G 30)), (4, .ref (adr G 31)), (5, .ref (adr G 33)), (6, .int y1)] → W p l e { frames := 3, cells := 0, slots := 6 * 0, locals := 69 } s m ([.int a1, .int a2, .ref (adr G 34), .ref (adr G 30), .ref (adr G 31), .ref (adr G 33)] : List Value).toArray below meth c H locs 0 0 (vx_MQ below (hyQ G (.inr (some (.int res)), (Mc, M, Mo))) (hyXQ G (.inr (some (.int res)), (Mc, M, Mo))) ([.int a1, .int a2, .ref (adr G 34), .ref (adr G 30), .ref (adr G 31), .ref (adr G 33)] : List Value).toArray s 0 (6 * 0) (hyA G)) (F0 m 101 ls [])), W p l e { frames := 3, cells := 0, slots := 6 * 0, locals := 69 } s m ([.int a1, .int a2, .ref (adr G 34), .ref (adr G 30), .ref (adr G 31), .ref (adr G 33)] : List Value).toArray below meth c H locs 0 0 (vx_MQ below (hyQ G (.inr (some (.int res)), (Mc, M, Mo))) (hyXQ G (.inr (some (.int res)), (Mc, M, Mo))) ([.int a1, .int a2, .ref (adr G 34), .ref (adr G 30), .ref (adr G 31), .ref (adr G 33)] : List Value).toArray s 0 (6 * 0) (hyA G)) (F0 m 3 ls []) := by
    intro f
    induction f with
    | zero =>
      intro x1 qL h hq H locs ls hP hS hl kk
      rw [La_fit_L3] at h
      cases h
    | succ f ih =>
      intro x1 qL h hq H locs ls hP hS hl kk
      rw [La_fit_L3] at h
      refine lv_iload hx hb dL_fit_3 (lv_at hl 6 rfl) ?_
      refine lv_bipush (v := 24) hx hb dL_fit_5 rfl ?_
      have K29 : ∀ (H : Heap) (locs : List Loc), (if x1 < 24 then true else (!decide (a2 ≤ x1))) = true → va_P G.1 vwCl (wld G (Mc, M, Mo)) H → va_S (hyA G) s.heap H locs → W p l e { frames := 3, cells := 0, slots := 6 * 0, locals := 69 } s m ([.int a1, .int a2, .ref (adr G 34), .ref (adr G 30), .ref (adr G 31), .ref (adr G 33)] : List Value).toArray below meth c H locs 0 0 (vx_MQ below (hyQ G (.inr (some (.int res)), (Mc, M, Mo))) (hyXQ G (.inr (some (.int res)), (Mc, M, Mo))) ([.int a1, .int a2, .ref (adr G 34), .ref (adr G 30), .ref (adr G 31), .ref (adr G 33)] : List Value).toArray s 0 (6 * 0) (hyA G)) (F0 m 16 ls []) := by
        intro H locs cb hP hS
        rw [if_pos cb] at h
        refine lv_iload hx hb dL_fit_16 (lv_at hl 6 rfl) ?_
        refine lv_bipush (v := 8) hx hb dL_fit_18 rfl ?_
        have K27 : ∀ (H : Heap) (locs : List Loc), (if 8 ≤ x1 then false else (!decide (2 ≤ a1))) = true → va_P G.1 vwCl (wld G (Mc, M, Mo)) H → va_S (hyA G) s.heap H locs → W p l e { frames := 3, cells := 0, slots := 6 * 0, locals := 69 } s m ([.int a1, .int a2, .ref (adr G 34), .ref (adr G 30), .ref (adr G 31), .ref (adr G 33)] : List Value).toArray below meth c H locs 0 0 (vx_MQ below (hyQ G (.inr (some (.int res)), (Mc, M, Mo))) (hyXQ G (.inr (some (.int res)), (Mc, M, Mo))) ([.int a1, .int a2, .ref (adr G 34), .ref (adr G 30), .ref (adr G 31), .ref (adr G 33)] : List Value).toArray s 0 (6 * 0) (hyA G)) (F0 m 28 ls []) := by
          intro H locs cb hP hS
          rw [if_pos cb] at h
          refine lv_aload hx hb dL_fit_28 (lv_at hl 5 rfl) ?_
          refine lv_bipush (v := 8) hx hb dL_fit_30 rfl ?_
          refine lv_iload_n hx hb dL_fit_32 rfl (lv_at hl 0 rfl) ?_
          refine lv_imul hx hb dL_fit_33 ?_
          refine lv_iload hx hb dL_fit_34 (lv_at hl 6 rfl) ?_
          refine lv_iadd hx hb dL_fit_36 ?_
          obtain ⟨v6, hv6, h⟩ := hy_bind h
          obtain ⟨nv6, hv6⟩ := ldE_some hv6
          refine hy_iald (T := (Mc, M, Mo)) hx hb hX hP 33 16 (M.1 33) (hy34 G (by decide)) rfl nv6 dL_fit_37 ?_
          rw [hv6]
          refine lv_goto (tgt := 42) hx hb dL_fit_38 (by decide) ?_
          refine lv_istore (lv' := [(7, .int v6), (0, .int a1), (1, .int a2), (2, .ref (adr G 34)), (3, .ref (adr G 30)), (4, .ref (adr G 31)), (5, .ref (adr G 33)), (6, .int x1)]) hx hb dL_fit_42 hl (by decide) rfl (fun ls hl => ?_)
          refine lv_iload hx hb dL_fit_44 (lv_at hl 7 rfl) ?_
          refine lv_iload_n hx hb dL_fit_46 rfl (lv_at hl 2 rfl) ?_
          refine lv_icmp_ge (tgt := 79) hx hb dL_fit_47 (by decide) (fun c7 => ?_) (fun c7 => ?_)
          · rw [if_pos c7] at h
            refine lv_iconst (v := 0) hx hb dL_fit_79 rfl ?_
            refine lv_istore (lv' := [(8, .int 0), (7, .int v6), (0, .int a1), (1, .int a2), (2, .ref (adr G 34)), (3, .ref (adr G 30)), (4, .ref (adr G 31)), (5, .ref (adr G 33)), (6, .int x1)]) hx hb dL_fit_80 hl (by decide) rfl (fun ls hl => ?_)
            refine lv_iload hx hb dL_fit_82 (lv_at hl 1 rfl) ?_
            obtain ⟨v8, hv8, h⟩ := hy_bind h
            refine hy_ret (hy_rS0 (T := (Mc, M, Mo)) (v := some (.int v8)) (T2 := (Mc, M, Mo)) (As := [.int v6]) (rest := []) (n := 0) hx hb hml hown hts hX hP hS hl (c_La_size Mc Mo v6 M hv8) m_La_size q_726 rfl rfl (Nat.le_of_ble_eq_true rfl) dL_fit_84 ⟨Nat.le_of_ble_eq_true rfl, Nat.le_of_ble_eq_true rfl⟩ ⟨Nat.zero_le _, Nat.zero_le _⟩) hS (fun H locs hP hS => ?_)
            refine lv_iload hx hb dL_fit_87 (lv_at hl 0 rfl) ?_
            refine lv_icmp_eq (tgt := 95) hx hb dL_fit_89 (by decide) (fun c9 => ?_) (fun c9 => ?_)
            · rw [if_pos c9] at h
              refine lv_iinc (v := (x1 + 1)) (lv' := [(6, .int (x1 + 1)), (8, .int 0), (7, .int v6), (0, .int a1), (1, .int a2), (2, .ref (adr G 34)), (3, .ref (adr G 30)), (4, .ref (adr G 31)), (5, .ref (adr G 33))]) hx hb dL_fit_95 hl (k := 8) rfl rfl (by decide) rfl (fun ls hl => ?_)
              refine lv_goto (tgt := 3) hx hb dL_fit_98 (by decide) ?_
              exact ih (x1 + 1) _ h hq _ _ ls hP hS (lv_sub hl [3, 4, 5, 6, 7, 8, 0] rfl) kk
            · rw [if_neg c9] at h
              refine lv_iload hx hb dL_fit_92 (lv_at hl 8 rfl) ?_
              exact hy_iret (T := (Mc, M, Mo)) hx hb hr hlocks hP hS (Nat.zero_le _) (Nat.zero_le _) (by rw [← (hq _ (Option.some.inj h).symm).symm] <;> rfl) dL_fit_94
          · rw [if_neg c7] at h
            refine lv_aload_n hx hb dL_fit_50 rfl (lv_at hl 3 rfl) ?_
            refine lv_iload hx hb dL_fit_51 (lv_at hl 7 rfl) ?_
            obtain ⟨v10, hv10, h⟩ := hy_bind h
            obtain ⟨nv10, hv10⟩ := ldE_some hv10
            refine hy_iald (T := (Mc, M, Mo)) hx hb hX hP 34 30 (M.1 34) (by omega) rfl nv10 dL_fit_53 ?_
            rw [hv10]
            refine lv_aload_n hx hb dL_fit_54 rfl (lv_at hl 4 rfl) ?_
            refine lv_aload hx hb dL_fit_55 (lv_at hl 5 rfl) ?_
            obtain ⟨v11, hv11, h⟩ := hy_bind h
            refine hy_ret (hy_rS0 (T := (Mc, M, Mo)) (v := some (.int v11)) (T2 := (Mc, M, Mo)) (As := [.int v10, .ref (adr G 30), .ref (adr G 31)]) (rest := []) (n := 0) hx hb hml hown hts hX hP hS hl (c_La_first Mc Mo v10 M hv11) m_La_first q_714 rfl rfl (Nat.le_of_ble_eq_true rfl) dL_fit_57 ⟨Nat.le_of_ble_eq_true rfl, Nat.le_of_ble_eq_true rfl⟩ ⟨Nat.zero_le _, Nat.zero_le _⟩) hS (fun H locs hP hS => ?_)
            refine lv_aload_n hx hb dL_fit_60 rfl (lv_at hl 3 rfl) ?_
            refine lv_iload hx hb dL_fit_61 (lv_at hl 7 rfl) ?_
            obtain ⟨v12, hv12, h⟩ := hy_bind h
            obtain ⟨nv12, hv12⟩ := ldE_some hv12
            refine hy_iald (T := (Mc, M, Mo)) hx hb hX hP 34 30 (M.1 34) (by omega) rfl nv12 dL_fit_63 ?_
            rw [hv12]
            refine lv_aload_n hx hb dL_fit_64 rfl (lv_at hl 4 rfl) ?_
            refine lv_aload hx hb dL_fit_65 (lv_at hl 5 rfl) ?_
            obtain ⟨v13, hv13, h⟩ := hy_bind h
            refine hy_ret (hy_rS0 (T := (Mc, M, Mo)) (v := some (.int v13)) (T2 := (Mc, M, Mo)) (As := [.int v12, .ref (adr G 30), .ref (adr G 31)]) (rest := [.int v11]) (n := 0) hx hb hml hown hts hX hP hS hl (c_La_last Mc Mo v12 M hv13) m_La_last q_799 rfl rfl (Nat.le_of_ble_eq_true rfl) dL_fit_67 ⟨Nat.le_of_ble_eq_true rfl, Nat.le_of_ble_eq_true rfl⟩ ⟨Nat.zero_le _, Nat.zero_le _⟩) hS (fun H locs hP hS => ?_)
            refine lv_aload_n hx hb dL_fit_70 rfl (lv_at hl 4 rfl) ?_
            refine lv_aload hx hb dL_fit_71 (lv_at hl 5 rfl) ?_
            obtain ⟨v14, hv14, h⟩ := hy_bind h
            refine hy_ret (hy_rS0 (T := (Mc, M, Mo)) (v := some (.int v14)) (T2 := (Mc, M, Mo)) (As := [.int v11, .int v13, .ref (adr G 30), .ref (adr G 31)]) (rest := []) (n := 0) hx hb hml hown hts hX hP hS hl (c_La_syllables Mc Mo v11 v13 M hv14) m_La_syllables q_723 rfl rfl (Nat.le_of_ble_eq_true rfl) dL_fit_73 ⟨Nat.le_of_ble_eq_true rfl, Nat.le_of_ble_eq_true rfl⟩ ⟨Nat.zero_le _, Nat.zero_le _⟩) hS (fun H locs hP hS => ?_)
            refine lv_goto (tgt := 80) hx hb dL_fit_76 (by decide) ?_
            refine lv_istore (lv' := [(8, .int v14), (7, .int v6), (0, .int a1), (1, .int a2), (2, .ref (adr G 34)), (3, .ref (adr G 30)), (4, .ref (adr G 31)), (5, .ref (adr G 33)), (6, .int x1)]) hx hb dL_fit_80 hl (by decide) rfl (fun ls hl => ?_)
            refine lv_iload hx hb dL_fit_82 (lv_at hl 1 rfl) ?_
            obtain ⟨v15, hv15, h⟩ := hy_bind h
            refine hy_ret (hy_rS0 (T := (Mc, M, Mo)) (v := some (.int v15)) (T2 := (Mc, M, Mo)) (As := [.int v6]) (rest := []) (n := 0) hx hb hml hown hts hX hP hS hl (c_La_size Mc Mo v6 M hv15) m_La_size q_726 rfl rfl (Nat.le_of_ble_eq_true rfl) dL_fit_84 ⟨Nat.le_of_ble_eq_true rfl, Nat.le_of_ble_eq_true rfl⟩ ⟨Nat.zero_le _, Nat.zero_le _⟩) hS (fun H locs hP hS => ?_)
            refine lv_iload hx hb dL_fit_87 (lv_at hl 0 rfl) ?_
            refine lv_icmp_eq (tgt := 95) hx hb dL_fit_89 (by decide) (fun c16 => ?_) (fun c16 => ?_)
            · rw [if_pos c16] at h
              refine lv_iinc (v := (x1 + 1)) (lv' := [(6, .int (x1 + 1)), (8, .int v14), (7, .int v6), (0, .int a1), (1, .int a2), (2, .ref (adr G 34)), (3, .ref (adr G 30)), (4, .ref (adr G 31)), (5, .ref (adr G 33))]) hx hb dL_fit_95 hl (k := 8) rfl rfl (by decide) rfl (fun ls hl => ?_)
              refine lv_goto (tgt := 3) hx hb dL_fit_98 (by decide) ?_
              exact ih (x1 + 1) _ h hq _ _ ls hP hS (lv_sub hl [3, 4, 5, 6, 7, 8, 0] rfl) kk
            · rw [if_neg c16] at h
              refine lv_iload hx hb dL_fit_92 (lv_at hl 8 rfl) ?_
              exact hy_iret (T := (Mc, M, Mo)) hx hb hr hlocks hP hS (Nat.zero_le _) (Nat.zero_le _) (by rw [← (hq _ (Option.some.inj h).symm).symm] <;> rfl) dL_fit_94
        have K28 : ∀ (H : Heap) (locs : List Loc), ¬ (if 8 ≤ x1 then false else (!decide (2 ≤ a1))) = true → va_P G.1 vwCl (wld G (Mc, M, Mo)) H → va_S (hyA G) s.heap H locs → W p l e { frames := 3, cells := 0, slots := 6 * 0, locals := 69 } s m ([.int a1, .int a2, .ref (adr G 34), .ref (adr G 30), .ref (adr G 31), .ref (adr G 33)] : List Value).toArray below meth c H locs 0 0 (vx_MQ below (hyQ G (.inr (some (.int res)), (Mc, M, Mo))) (hyXQ G (.inr (some (.int res)), (Mc, M, Mo))) ([.int a1, .int a2, .ref (adr G 34), .ref (adr G 30), .ref (adr G 31), .ref (adr G 33)] : List Value).toArray s 0 (6 * 0) (hyA G)) (F0 m 41 ls []) := by
          intro H locs cb hP hS
          rw [if_neg cb] at h
          refine lv_iconst (v := 0) hx hb dL_fit_41 rfl ?_
          refine lv_istore (lv' := [(7, .int 0), (0, .int a1), (1, .int a2), (2, .ref (adr G 34)), (3, .ref (adr G 30)), (4, .ref (adr G 31)), (5, .ref (adr G 33)), (6, .int x1)]) hx hb dL_fit_42 hl (by decide) rfl (fun ls hl => ?_)
          refine lv_iload hx hb dL_fit_44 (lv_at hl 7 rfl) ?_
          refine lv_iload_n hx hb dL_fit_46 rfl (lv_at hl 2 rfl) ?_
          refine lv_icmp_ge (tgt := 79) hx hb dL_fit_47 (by decide) (fun c17 => ?_) (fun c17 => ?_)
          · rw [if_pos c17] at h
            refine lv_iconst (v := 0) hx hb dL_fit_79 rfl ?_
            refine lv_istore (lv' := [(8, .int 0), (7, .int 0), (0, .int a1), (1, .int a2), (2, .ref (adr G 34)), (3, .ref (adr G 30)), (4, .ref (adr G 31)), (5, .ref (adr G 33)), (6, .int x1)]) hx hb dL_fit_80 hl (by decide) rfl (fun ls hl => ?_)
            refine lv_iload hx hb dL_fit_82 (lv_at hl 1 rfl) ?_
            obtain ⟨v18, hv18, h⟩ := hy_bind h
            refine hy_ret (hy_rS0 (T := (Mc, M, Mo)) (v := some (.int v18)) (T2 := (Mc, M, Mo)) (As := [.int 0]) (rest := []) (n := 0) hx hb hml hown hts hX hP hS hl (c_La_size Mc Mo 0 M hv18) m_La_size q_726 rfl rfl (Nat.le_of_ble_eq_true rfl) dL_fit_84 ⟨Nat.le_of_ble_eq_true rfl, Nat.le_of_ble_eq_true rfl⟩ ⟨Nat.zero_le _, Nat.zero_le _⟩) hS (fun H locs hP hS => ?_)
            refine lv_iload hx hb dL_fit_87 (lv_at hl 0 rfl) ?_
            refine lv_icmp_eq (tgt := 95) hx hb dL_fit_89 (by decide) (fun c19 => ?_) (fun c19 => ?_)
            · rw [if_pos c19] at h
              refine lv_iinc (v := (x1 + 1)) (lv' := [(6, .int (x1 + 1)), (8, .int 0), (7, .int 0), (0, .int a1), (1, .int a2), (2, .ref (adr G 34)), (3, .ref (adr G 30)), (4, .ref (adr G 31)), (5, .ref (adr G 33))]) hx hb dL_fit_95 hl (k := 8) rfl rfl (by decide) rfl (fun ls hl => ?_)
              refine lv_goto (tgt := 3) hx hb dL_fit_98 (by decide) ?_
              exact ih (x1 + 1) _ h hq _ _ ls hP hS (lv_sub hl [3, 4, 5, 6, 7, 8, 0] rfl) kk
            · rw [if_neg c19] at h
              refine lv_iload hx hb dL_fit_92 (lv_at hl 8 rfl) ?_
              exact hy_iret (T := (Mc, M, Mo)) hx hb hr hlocks hP hS (Nat.zero_le _) (Nat.zero_le _) (by rw [← (hq _ (Option.some.inj h).symm).symm] <;> rfl) dL_fit_94
          · rw [if_neg c17] at h
            refine lv_aload_n hx hb dL_fit_50 rfl (lv_at hl 3 rfl) ?_
            refine lv_iload hx hb dL_fit_51 (lv_at hl 7 rfl) ?_
            obtain ⟨v20, hv20, h⟩ := hy_bind h
            obtain ⟨nv20, hv20⟩ := ldE_some hv20
            refine hy_iald (T := (Mc, M, Mo)) hx hb hX hP 34 30 (M.1 34) (by omega) rfl nv20 dL_fit_53 ?_
            rw [hv20]
            refine lv_aload_n hx hb dL_fit_54 rfl (lv_at hl 4 rfl) ?_
            refine lv_aload hx hb dL_fit_55 (lv_at hl 5 rfl) ?_
            obtain ⟨v21, hv21, h⟩ := hy_bind h
            refine hy_ret (hy_rS0 (T := (Mc, M, Mo)) (v := some (.int v21)) (T2 := (Mc, M, Mo)) (As := [.int v20, .ref (adr G 30), .ref (adr G 31)]) (rest := []) (n := 0) hx hb hml hown hts hX hP hS hl (c_La_first Mc Mo v20 M hv21) m_La_first q_714 rfl rfl (Nat.le_of_ble_eq_true rfl) dL_fit_57 ⟨Nat.le_of_ble_eq_true rfl, Nat.le_of_ble_eq_true rfl⟩ ⟨Nat.zero_le _, Nat.zero_le _⟩) hS (fun H locs hP hS => ?_)
            refine lv_aload_n hx hb dL_fit_60 rfl (lv_at hl 3 rfl) ?_
            refine lv_iload hx hb dL_fit_61 (lv_at hl 7 rfl) ?_
            obtain ⟨v22, hv22, h⟩ := hy_bind h
            obtain ⟨nv22, hv22⟩ := ldE_some hv22
            refine hy_iald (T := (Mc, M, Mo)) hx hb hX hP 34 30 (M.1 34) (by omega) rfl nv22 dL_fit_63 ?_
            rw [hv22]
            refine lv_aload_n hx hb dL_fit_64 rfl (lv_at hl 4 rfl) ?_
            refine lv_aload hx hb dL_fit_65 (lv_at hl 5 rfl) ?_
            obtain ⟨v23, hv23, h⟩ := hy_bind h
            refine hy_ret (hy_rS0 (T := (Mc, M, Mo)) (v := some (.int v23)) (T2 := (Mc, M, Mo)) (As := [.int v22, .ref (adr G 30), .ref (adr G 31)]) (rest := [.int v21]) (n := 0) hx hb hml hown hts hX hP hS hl (c_La_last Mc Mo v22 M hv23) m_La_last q_799 rfl rfl (Nat.le_of_ble_eq_true rfl) dL_fit_67 ⟨Nat.le_of_ble_eq_true rfl, Nat.le_of_ble_eq_true rfl⟩ ⟨Nat.zero_le _, Nat.zero_le _⟩) hS (fun H locs hP hS => ?_)
            refine lv_aload_n hx hb dL_fit_70 rfl (lv_at hl 4 rfl) ?_
            refine lv_aload hx hb dL_fit_71 (lv_at hl 5 rfl) ?_
            obtain ⟨v24, hv24, h⟩ := hy_bind h
            refine hy_ret (hy_rS0 (T := (Mc, M, Mo)) (v := some (.int v24)) (T2 := (Mc, M, Mo)) (As := [.int v21, .int v23, .ref (adr G 30), .ref (adr G 31)]) (rest := []) (n := 0) hx hb hml hown hts hX hP hS hl (c_La_syllables Mc Mo v21 v23 M hv24) m_La_syllables q_723 rfl rfl (Nat.le_of_ble_eq_true rfl) dL_fit_73 ⟨Nat.le_of_ble_eq_true rfl, Nat.le_of_ble_eq_true rfl⟩ ⟨Nat.zero_le _, Nat.zero_le _⟩) hS (fun H locs hP hS => ?_)
            refine lv_goto (tgt := 80) hx hb dL_fit_76 (by decide) ?_
            refine lv_istore (lv' := [(8, .int v24), (7, .int 0), (0, .int a1), (1, .int a2), (2, .ref (adr G 34)), (3, .ref (adr G 30)), (4, .ref (adr G 31)), (5, .ref (adr G 33)), (6, .int x1)]) hx hb dL_fit_80 hl (by decide) rfl (fun ls hl => ?_)
            refine lv_iload hx hb dL_fit_82 (lv_at hl 1 rfl) ?_
            obtain ⟨v25, hv25, h⟩ := hy_bind h
            refine hy_ret (hy_rS0 (T := (Mc, M, Mo)) (v := some (.int v25)) (T2 := (Mc, M, Mo)) (As := [.int 0]) (rest := []) (n := 0) hx hb hml hown hts hX hP hS hl (c_La_size Mc Mo 0 M hv25) m_La_size q_726 rfl rfl (Nat.le_of_ble_eq_true rfl) dL_fit_84 ⟨Nat.le_of_ble_eq_true rfl, Nat.le_of_ble_eq_true rfl⟩ ⟨Nat.zero_le _, Nat.zero_le _⟩) hS (fun H locs hP hS => ?_)
            refine lv_iload hx hb dL_fit_87 (lv_at hl 0 rfl) ?_
            refine lv_icmp_eq (tgt := 95) hx hb dL_fit_89 (by decide) (fun c26 => ?_) (fun c26 => ?_)
            · rw [if_pos c26] at h
              refine lv_iinc (v := (x1 + 1)) (lv' := [(6, .int (x1 + 1)), (8, .int v24), (7, .int 0), (0, .int a1), (1, .int a2), (2, .ref (adr G 34)), (3, .ref (adr G 30)), (4, .ref (adr G 31)), (5, .ref (adr G 33))]) hx hb dL_fit_95 hl (k := 8) rfl rfl (by decide) rfl (fun ls hl => ?_)
              refine lv_goto (tgt := 3) hx hb dL_fit_98 (by decide) ?_
              exact ih (x1 + 1) _ h hq _ _ ls hP hS (lv_sub hl [3, 4, 5, 6, 7, 8, 0] rfl) kk
            · rw [if_neg c26] at h
              refine lv_iload hx hb dL_fit_92 (lv_at hl 8 rfl) ?_
              exact hy_iret (T := (Mc, M, Mo)) hx hb hr hlocks hP hS (Nat.zero_le _) (Nat.zero_le _) (by rw [← (hq _ (Option.some.inj h).symm).symm] <;> rfl) dL_fit_94
        refine lv_icmp_ge (tgt := 41) hx hb dL_fit_20 (by decide) (fun c4 => ?_) (fun c4 => ?_)
        · exact K28 _ _ (by rw [if_pos c4] <;> first | rfl | decide) hP hS
        · refine lv_iload_n hx hb dL_fit_23 rfl (lv_at hl 0 rfl) ?_
          refine lv_iconst (v := 2) hx hb dL_fit_24 rfl ?_
          refine lv_icmp_ge (tgt := 41) hx hb dL_fit_25 (by decide) (fun c5 => ?_) (fun c5 => ?_)
          · exact K28 _ _ (by rw [if_neg c4, decide_eq_true c5] <;> first | rfl | decide) hP hS
          · exact K27 _ _ (by rw [if_neg c4, decide_eq_false c5] <;> first | rfl | decide) hP hS
      have K30 : ∀ (H : Heap) (locs : List Loc), ¬ (if x1 < 24 then true else (!decide (a2 ≤ x1))) = true → va_P G.1 vwCl (wld G (Mc, M, Mo)) H → va_S (hyA G) s.heap H locs → W p l e { frames := 3, cells := 0, slots := 6 * 0, locals := 69 } s m ([.int a1, .int a2, .ref (adr G 34), .ref (adr G 30), .ref (adr G 31), .ref (adr G 33)] : List Value).toArray below meth c H locs 0 0 (vx_MQ below (hyQ G (.inr (some (.int res)), (Mc, M, Mo))) (hyXQ G (.inr (some (.int res)), (Mc, M, Mo))) ([.int a1, .int a2, .ref (adr G 34), .ref (adr G 30), .ref (adr G 31), .ref (adr G 33)] : List Value).toArray s 0 (6 * 0) (hyA G)) (F0 m 101 ls []) := by
        intro H locs cb hP hS
        rw [if_neg cb] at h
        exact kk x1 (Option.some.inj h).symm _ _ ls hP hS (lv_sub hl [0, 1, 2, 3, 4, 5, 6] rfl)
      refine lv_icmp_lt (tgt := 16) hx hb dL_fit_7 (by decide) (fun c2 => ?_) (fun c2 => ?_)
      · exact K29 _ _ (by rw [if_pos c2] <;> first | rfl | decide) hP hS
      · refine lv_iload hx hb dL_fit_10 (lv_at hl 6 rfl) ?_
        refine lv_iload_n hx hb dL_fit_12 rfl (lv_at hl 1 rfl) ?_
        refine lv_icmp_ge (tgt := 101) hx hb dL_fit_13 (by decide) (fun c3 => ?_) (fun c3 => ?_)
        · exact K30 _ _ (by rw [if_neg c2, decide_eq_true c3] <;> first | rfl | decide) hP hS
        · exact K29 _ _ (by rw [if_neg c2, decide_eq_false c3] <;> first | rfl | decide) hP hS
  obtain ⟨q32, hq32, h⟩ := hy_bind h
  refine L31 hyFu 0 q32 hq32 (fun r9 e9 => by subst e9; exact (Option.some.inj h).symm) _ _ ls hP hS (lv_sub hl [1, 2, 3, 4, 5, 6, 0] rfl) ?_
  intro y1 e9 H locs ls hP hS hl
  subst e9
  try dsimp only at h
  refine lv_iconst (v := (-1)) hx hb dL_fit_101 rfl ?_
  exact hy_iret (T := (Mc, M, Mo)) hx hb hr hlocks hP hS (Nat.zero_le _) (Nat.zero_le _) (by rw [← (Option.some.inj h)] <;> rfl) dL_fit_102
set_option maxHeartbeats 1000000 in
set_option maxRecDepth 100000 in
theorem c_La_metres {l : Launch} {G : hyG} (hlt : l.stackTraces = false) (hex : exn G = 1) (Mo : hyM) (a1 : Int32) (a2 : Int32) (C : hyM) (M : hyM) {res : (Bool × hyM × hyM)} (h : La_metres a1 a2 C M = some res) : hyC l yL_metres (.code yL_metres cL_metres 14 (some .boolean)) 8 163 (2) G [.ref (adr G 0), .int a1, .int a2, .ref (adr G 34), .ref (adr G 30), .ref (adr G 31)] (C, M, Mo) (.inr (some (.int (bI res.1))), (res.2.1, res.2.2, Mo)) := by
  refine hy_of (by decide +kernel) (Nat.le_of_ble_eq_true rfl) ?_
  intro p e s m below meth c hx hb hml hown hts hr hlocks ht hX hP hS ls hl
  have hl : lv_has ls 14 [(0, .ref (adr G 0)), (1, .int a1), (2, .int a2), (3, .ref (adr G 34)), (4, .ref (adr G 30)), (5, .ref (adr G 31))] := hl
  rw [La_metres] at h
  refine lv_iconst (v := 0) hx hb dL_metres_0 rfl ?_
  refine lv_istore (lv' := [(6, .int 0), (0, .ref (adr G 0)), (1, .int a1), (2, .int a2), (3, .ref (adr G 34)), (4, .ref (adr G 30)), (5, .ref (adr G 31))]) hx hb dL_metres_1 hl (by decide) rfl (fun ls hl => ?_)
  refine lv_iconst (v := 0) hx hb dL_metres_3 rfl ?_
  refine lv_istore (lv' := [(7, .int 0), (6, .int 0), (0, .ref (adr G 0)), (1, .int a1), (2, .int a2), (3, .ref (adr G 34)), (4, .ref (adr G 30)), (5, .ref (adr G 31))]) hx hb dL_metres_4 hl (by decide) rfl (fun ls hl => ?_)
  refine lv_aload_n hx hb dL_metres_6 rfl (lv_at hl 2 rfl) ?_
  refine lv_bipush (v := 11) hx hb dL_metres_7 rfl ?_
  obtain ⟨v1, hv1, h⟩ := hy_bind h
  refine hy_ret (hy_rV0 (T := (C, M, Mo)) (v := some (.int v1)) (T2 := (C, M, Mo)) (As := [.int 11]) (rest := []) (n := 0) hx hb hml hown hts hX hP hS hl (c_Hp_count hlt M Mo 11 C (res := .inr v1) (rtb_some hv1)) m_Hp_count q_578 (hy_recv hX hP 0 9 (by decide) rfl rfl) rfl rfl (Nat.le_of_ble_eq_true rfl) dL_metres_9 ⟨Nat.le_of_ble_eq_true rfl, Nat.le_of_ble_eq_true rfl⟩ ⟨by decide, by decide⟩) hS (fun H locs hP hS => ?_)
  refine lv_istore (lv' := [(8, .int v1), (7, .int 0), (6, .int 0), (0, .ref (adr G 0)), (1, .int a1), (2, .int a2), (3, .ref (adr G 34)), (4, .ref (adr G 30)), (5, .ref (adr G 31))]) hx hb dL_metres_12 hl (by decide) rfl (fun ls hl => ?_)
  refine lv_iload_n hx hb dL_metres_14 rfl (lv_at hl 5 rfl) ?_
  have J223 : ∀ (H : Heap) (locs : List Loc) (ls : Array Slot) (u1 : Int32), u1 = ((if a2 ≤ 0 then 2 else (if 9 ≤ a2 then 2 else a2)) : Int32) → va_P G.1 vwCl (wld G (C, M, Mo)) H → va_S (hyA G) s.heap H locs → lv_has ls 14 [(0, .ref (adr G 0)), (1, .int a1), (2, .int a2), (3, .ref (adr G 34)), (4, .ref (adr G 30)), (5, .ref (adr G 31)), (6, .int 0), (7, .int 0), (8, .int v1)] → W p l e { frames := 8, cells := 2, slots := 6 * 2, locals := 163 } s m ([.ref (adr G 0), .int a1, .int a2, .ref (adr G 34), .ref (adr G 30), .ref (adr G 31)] : List Value).toArray below meth c H locs 0 0 (vx_MQ below (hyQ G (.inr (some (.int (bI res.1))), (res.2.1, res.2.2, Mo))) (hyXQ G (.inr (some (.int (bI res.1))), (res.2.1, res.2.2, Mo))) ([.ref (adr G 0), .int a1, .int a2, .ref (adr G 34), .ref (adr G 30), .ref (adr G 31)] : List Value).toArray s 2 (6 * 2) (hyA G)) (F0 m 29 ls [.int u1]) := by
    intro H locs ls u1 eu1 hP hS hl
    subst eu1
    refine lv_istore (lv' := [(9, .int ((if a2 ≤ 0 then 2 else (if 9 ≤ a2 then 2 else a2)) : Int32)), (0, .ref (adr G 0)), (1, .int a1), (2, .int a2), (3, .ref (adr G 34)), (4, .ref (adr G 30)), (5, .ref (adr G 31)), (6, .int 0), (7, .int 0), (8, .int v1)]) hx hb dL_metres_29 hl (by decide) rfl (fun ls hl => ?_)
    refine lv_bipush (v := 9) hx hb dL_metres_31 rfl ?_
    refine hy_newG (T := (C, M, Mo)) (T2 := (C, (zM M 35), Mo)) (N := 9) hx hb hX hP hS (hts _ q_142) 1 hex (fun _ _ _ => rfl) rfl (by decide) (by decide) (by decide) (by decide) (by decide) (by decide) dL_metres_33 (fun G1 H hGa hex hX hP hS => ?_)
    have hl : lv_has ls 14 [(9, .int ((if a2 ≤ 0 then 2 else (if 9 ≤ a2 then 2 else a2)) : Int32)), (0, .ref (adr G1 0)), (1, .int a1), (2, .int a2), (3, .ref (adr G1 34)), (4, .ref (adr G1 30)), (5, .ref (adr G1 31)), (6, .int 0), (7, .int 0), (8, .int v1)] := by rw [hGa 0 (by decide), hGa 30 (by decide), hGa 31 (by decide), hGa 34 (by decide)]; exact hl
    refine lv_astore (lv' := [(10, .ref (adr G1 35)), (9, .int ((if a2 ≤ 0 then 2 else (if 9 ≤ a2 then 2 else a2)) : Int32)), (0, .ref (adr G1 0)), (1, .int a1), (2, .int a2), (3, .ref (adr G1 34)), (4, .ref (adr G1 30)), (5, .ref (adr G1 31)), (6, .int 0), (7, .int 0), (8, .int v1)]) hx hb dL_metres_35 hl (by decide) rfl (fun ls hl => ?_)
    refine lv_iload_n hx hb dL_metres_37 rfl (lv_at hl 3 rfl) ?_
    refine lv_iconst (v := 3) hx hb dL_metres_38 rfl ?_
    obtain ⟨v4, hv4, h⟩ := hy_bind h
    refine hy_ret (hy_rS0 (T := (C, (zM M 35), Mo)) (v := some (.int v4)) (T2 := (C, (zM M 35), Mo)) (As := [.int a1, .int 3]) (rest := []) (n := 0) hx hb hml hown hts hX hP hS hl (c_La_at C Mo a1 3 (zM M 35) hv4) m_La_at q_641 rfl rfl (Nat.le_of_ble_eq_true rfl) dL_metres_39 ⟨Nat.le_of_ble_eq_true rfl, Nat.le_of_ble_eq_true rfl⟩ ⟨by decide, by decide⟩) hS (fun H locs hP hS => ?_)
    refine lv_if_le (tgt := 47) hx hb dL_metres_42 (by decide) (fun c5 => ?_) (fun c5 => ?_)
    · rw [if_pos c5] at h
      refine lv_aload_n hx hb dL_metres_47 rfl (lv_at hl 2 rfl) ?_
      obtain ⟨⟨v6, C7⟩, hv6, h⟩ := hy_bind h
      try dsimp only at h
      refine hy_ret (hy_rV0 (T := (C, (zM M 35), Mo)) (v := some (.int v6)) (T2 := (C7, (zM M 35), Mo)) (As := []) (rest := []) (n := 0) hx hb hml hown hts hX hP hS hl (c_Hp_clearInput (zM M 35) Mo C (Option.some.inj hv6)) m_Hp_clearInput q_875 (hy_recv hX hP 0 9 (by decide) rfl rfl) rfl rfl (Nat.le_of_ble_eq_true rfl) dL_metres_48 ⟨Nat.le_of_ble_eq_true rfl, Nat.le_of_ble_eq_true rfl⟩ ⟨by decide, by decide⟩) hS (fun H locs hP hS => ?_)
      refine lv_pop hx hb dL_metres_51 rfl ?_
      refine lv_iconst (v := 0) hx hb dL_metres_52 rfl ?_
      refine lv_istore (lv' := [(11, .int 0), (10, .ref (adr G1 35)), (9, .int ((if a2 ≤ 0 then 2 else (if 9 ≤ a2 then 2 else a2)) : Int32)), (0, .ref (adr G1 0)), (1, .int a1), (2, .int a2), (3, .ref (adr G1 34)), (4, .ref (adr G1 30)), (5, .ref (adr G1 31)), (6, .int 0), (7, .int 0), (8, .int v1)]) hx hb dL_metres_53 hl (by decide) rfl (fun ls hl => ?_)
      have L106 : ∀ (f : Nat) (x8 : Int32) (x9 : Int32) (x10 : Int32) (C11 : hyM) (M12 : hyM) (qL : ((Bool × hyM × hyM) ⊕ (Int32 × Int32 × Int32 × hyM × hyM))) (h : La_metres_L55 a1 a2 f x8 x9 x10 C11 M12 = some qL) (hq : ∀ r9, qL = .inl r9 → res = r9) (H : Heap) (locs : List Loc) (ls : Array Slot) (hP : va_P G1.1 vwCl (wld G1 (C11, M12, Mo)) H) (hS : va_S (hyA G1) s.heap H locs) (hl : lv_has ls 14 [(0, .ref (adr G1 0)), (1, .int a1), (2, .int a2), (3, .ref (adr G1 34)), (4, .ref (adr G1 30)), (5, .ref (adr G1 31)), (6, .int x8), (7, .int x9), (8, .int v1), (9, .int ((if a2 ≤ 0 then 2 else (if 9 ≤ a2 then 2 else a2)) : Int32)), (10, .ref (adr G1 35)), (11, .int x10)]) (kk : ∀ (y8 : Int32) (y9 : Int32) (y10 : Int32) (NC11 : hyM) (NM12 : hyM), qL = .inr (y8, y9, y10, NC11, NM12) → ∀ (H : Heap) (locs : List Loc) (ls : Array Slot), va_P G1.1 vwCl (wld G1 (NC11, NM12, Mo)) H → va_S (hyA G1) s.heap H locs → lv_has ls 14 [(0, .ref (adr G1 0)), (1, .int a1), (2, .int a2), (3, .ref (adr G1 34)), (4, .ref (adr G1 30)), (5, .ref (adr G1 31)), (6, .int y8), (7, .int y9), (8, .int v1), (9, .int ((if a2 ≤ 0 then 2 else (if 9 ≤ a2 then 2 else a2)) : Int32)), (10, .ref (adr G1 35)), (11, .int y10)] → W p l e { frames := 8, cells := 2, slots := 6 * 2, locals := 163 } s m ([.ref (adr G 0), .int a1, .int a2, .ref (adr G 34), .ref (adr G 30), .ref (adr G 31)] : List Value).toArray below meth c H locs 1 9 (vx_MQ below (hyQ G1 (.inr (some (.int (bI res.1))), (res.2.1, res.2.2, Mo))) (hyXQ G1 (.inr (some (.int (bI res.1))), (res.2.1, res.2.2, Mo))) ([.ref (adr G 0), .int a1, .int a2, .ref (adr G 34), .ref (adr G 30), .ref (adr G 31)] : List Value).toArray s 2 (6 * 2) (hyA G1)) (F0 m 227 ls [])), W p l e { frames := 8, cells := 2, slots := 6 * 2, locals := 163 } s m ([.ref (adr G 0), .int a1, .int a2, .ref (adr G 34), .ref (adr G 30), .ref (adr G 31)] : List Value).toArray below meth c H locs 1 9 (vx_MQ below (hyQ G1 (.inr (some (.int (bI res.1))), (res.2.1, res.2.2, Mo))) (hyXQ G1 (.inr (some (.int (bI res.1))), (res.2.1, res.2.2, Mo))) ([.ref (adr G 0), .int a1, .int a2, .ref (adr G 34), .ref (adr G 30), .ref (adr G 31)] : List Value).toArray s 2 (6 * 2) (hyA G1)) (F0 m 55 ls []) := by
        intro f
        induction f with
        | zero =>
          intro x8 x9 x10 C11 M12 qL h hq H locs ls hP hS hl kk
          rw [La_metres_L55] at h
          cases h
        | succ f ih =>
          intro x8 x9 x10 C11 M12 qL h hq H locs ls hP hS hl kk
          rw [La_metres_L55] at h
          refine lv_iload hx hb dL_metres_55 (lv_at hl 11 rfl) ?_
          refine lv_iload hx hb dL_metres_57 (lv_at hl 9 rfl) ?_
          refine lv_icmp_ge (tgt := 227) hx hb dL_metres_59 (by decide) (fun c13 => ?_) (fun c13 => ?_)
          · rw [if_pos c13] at h
            exact kk x8 x9 x10 C11 M12 (Option.some.inj h).symm _ _ ls hP hS (lv_sub hl [0, 1, 2, 3, 4, 5, 6, 7, 8, 9, 10, 11] rfl)
          · rw [if_neg c13] at h
            refine lv_iload hx hb dL_metres_62 (lv_at hl 11 rfl) ?_
            refine lv_iload_n hx hb dL_metres_64 rfl (lv_at hl 2 rfl) ?_
            refine lv_icmp_ge (tgt := 100) hx hb dL_metres_65 (by decide) (fun c14 => ?_) (fun c14 => ?_)
            · rw [if_pos c14] at h
              refine lv_iconst (v := 1) hx hb dL_metres_100 rfl ?_
              refine lv_istore (lv' := [(12, .int 1), (0, .ref (adr G1 0)), (1, .int a1), (2, .int a2), (3, .ref (adr G1 34)), (4, .ref (adr G1 30)), (5, .ref (adr G1 31)), (6, .int x8), (7, .int x9), (8, .int v1), (9, .int ((if a2 ≤ 0 then 2 else (if 9 ≤ a2 then 2 else a2)) : Int32)), (10, .ref (adr G1 35)), (11, .int x10)]) hx hb dL_metres_101 hl (by decide) rfl (fun ls hl => ?_)
              refine lv_aload hx hb dL_metres_103 (lv_at hl 11 rfl) ?_
              refine lv_iload hx hb dL_metres_105 (lv_at hl 12 rfl) ?_
              refine lv_iload hx hb dL_metres_107 (lv_at hl 0 rfl) ?_
              refine lv_iload_n hx hb dL_metres_109 rfl (lv_at hl 2 rfl) ?_
              refine lv_iconst (v := 2) hx hb dL_metres_110 rfl ?_
              refine lv_iload hx hb dL_metres_111 (lv_at hl 12 rfl) ?_
              refine lv_imul hx hb dL_metres_113 ?_
              refine lv_ishr hx hb dL_metres_114 ?_
              refine lv_iconst (v := 3) hx hb dL_metres_115 rfl ?_
              obtain ⟨v15, hv15, h⟩ := hy_bind h
              refine hy_ret (hy_rS0 (T := (C11, M12, Mo)) (v := some (.int v15)) (T2 := (C11, M12, Mo)) (As := [.int (a1 >>> ((2 * x10) &&& 31)), .int 3]) (rest := [.int 1, .int x10, .ref (adr G1 35)]) (n := 0) hx hb hml hown hts hX hP hS hl (c_La_at C11 Mo (a1 >>> ((2 * x10) &&& 31)) 3 M12 hv15) m_La_at q_641 rfl rfl (Nat.le_of_ble_eq_true rfl) dL_metres_116 ⟨Nat.le_of_ble_eq_true rfl, Nat.le_of_ble_eq_true rfl⟩ ⟨by decide, by decide⟩) hS (fun H locs hP hS => ?_)
              refine lv_iadd hx hb dL_metres_119 ?_
              obtain ⟨M16, hM16, h⟩ := hy_bind h
              obtain ⟨nM16, hM16⟩ := stE_some hM16
              refine hy_iast (T := (C11, M12, Mo)) (T2 := (C11, (wI M12 35 x10.toNatClampNeg (1 + v15)), Mo)) hx hb hX hP hS 35 9 (by omega) (fun _ _ => rfl) nM16 rfl dL_metres_120 (fun H locs hP hS => ?_)
              rw [hM16] at hP
              refine lv_iload hx hb dL_metres_121 (lv_at hl 7 rfl) ?_
              refine lv_aload hx hb dL_metres_123 (lv_at hl 11 rfl) ?_
              refine lv_iload hx hb dL_metres_125 (lv_at hl 12 rfl) ?_
              obtain ⟨v17, hv17, h⟩ := hy_bind h
              obtain ⟨nv17, hv17⟩ := ldE_some hv17
              refine hy_iald (T := (C11, M16, Mo)) hx hb hX hP 35 9 (M16.1 35) (by omega) rfl nv17 dL_metres_127 ?_
              rw [hv17]
              refine lv_iload hx hb dL_metres_128 (lv_at hl 0 rfl) ?_
              refine lv_isub hx hb dL_metres_130 ?_
              refine lv_iadd hx hb dL_metres_131 ?_
              refine lv_istore (lv' := [(6, .int (x8 + (v17 - 1))), (12, .int 1), (0, .ref (adr G1 0)), (1, .int a1), (2, .int a2), (3, .ref (adr G1 34)), (4, .ref (adr G1 30)), (5, .ref (adr G1 31)), (7, .int x9), (8, .int v1), (9, .int ((if a2 ≤ 0 then 2 else (if 9 ≤ a2 then 2 else a2)) : Int32)), (10, .ref (adr G1 35)), (11, .int x10)]) hx hb dL_metres_132 hl (by decide) rfl (fun ls hl => ?_)
              refine lv_iload hx hb dL_metres_134 (lv_at hl 12 rfl) ?_
              refine lv_if_le (tgt := 153) hx hb dL_metres_136 (by decide) (fun c18 => ?_) (fun c18 => ?_)
              · rw [if_pos c18] at h
                refine lv_aload hx hb dL_metres_153 (lv_at hl 11 rfl) ?_
                refine lv_iload hx hb dL_metres_155 (lv_at hl 12 rfl) ?_
                obtain ⟨v19, hv19, h⟩ := hy_bind h
                obtain ⟨nv19, hv19⟩ := ldE_some hv19
                refine hy_iald (T := (C11, M16, Mo)) hx hb hX hP 35 9 (M16.1 35) (by omega) rfl nv19 dL_metres_157 ?_
                rw [hv19]
                refine lv_bipush (v := 9) hx hb dL_metres_158 rfl ?_
                refine lv_icmp_le (tgt := 186) hx hb dL_metres_160 (by decide) (fun c20 => ?_) (fun c20 => ?_)
                · rw [if_pos c20] at h
                  refine lv_aload_n hx hb dL_metres_186 rfl (lv_at hl 2 rfl) ?_
                  refine lv_bipush (v := 48) hx hb dL_metres_187 rfl ?_
                  refine lv_aload hx hb dL_metres_189 (lv_at hl 11 rfl) ?_
                  refine lv_iload hx hb dL_metres_191 (lv_at hl 12 rfl) ?_
                  obtain ⟨v21, hv21, h⟩ := hy_bind h
                  obtain ⟨nv21, hv21⟩ := ldE_some hv21
                  refine hy_iald (T := (C11, M16, Mo)) hx hb hX hP 35 9 (M16.1 35) (by omega) rfl nv21 dL_metres_193 ?_
                  rw [hv21]
                  refine lv_bipush (v := 10) hx hb dL_metres_194 rfl ?_
                  refine lv_irem hx hb dL_metres_196 (by decide) ?_
                  refine lv_iadd hx hb dL_metres_197 ?_
                  obtain ⟨⟨v22, C23⟩, hv22, h⟩ := hy_bind h
                  try dsimp only at h
                  refine hy_ret (hy_rV0 (T := (C11, M16, Mo)) (v := some (.int v22)) (T2 := (C23, M16, Mo)) (As := [.int (48 + (v21 - v21 / 10 * 10))]) (rest := []) (n := 0) hx hb hml hown hts hX hP hS hl (c_Hp_append hlt M16 Mo (48 + (v21 - v21 / 10 * 10)) C11 (res := (.inr v22, C23)) (rtM_some hv22)) m_Hp_append q_879 (hy_recv hX hP 0 9 (by decide) rfl rfl) rfl rfl (Nat.le_of_ble_eq_true rfl) dL_metres_198 ⟨Nat.le_of_ble_eq_true rfl, Nat.le_of_ble_eq_true rfl⟩ ⟨by decide, by decide⟩) hS (fun H locs hP hS => ?_)
                  refine lv_iinc (v := (x9 + 1)) (lv' := [(7, .int (x9 + 1)), (6, .int (x8 + (v17 - 1))), (12, .int 1), (0, .ref (adr G1 0)), (1, .int a1), (2, .int a2), (3, .ref (adr G1 34)), (4, .ref (adr G1 30)), (5, .ref (adr G1 31)), (8, .int v1), (9, .int ((if a2 ≤ 0 then 2 else (if 9 ≤ a2 then 2 else a2)) : Int32)), (10, .ref (adr G1 35)), (11, .int x10)]) hx hb dL_metres_201 hl (k := 8) rfl rfl (by decide) rfl (fun ls hl => ?_)
                  refine lv_iload hx hb dL_metres_204 (lv_at hl 0 rfl) ?_
                  refine lv_icmp_ne (tgt := 219) hx hb dL_metres_206 (by decide) (fun c24 => ?_) (fun c24 => ?_)
                  · rw [if_neg c24] at h
                    refine lv_iconst (v := 0) hx hb dL_metres_219 rfl ?_
                    exact hy_zret (T := (C23, M16, Mo)) hx hb hr hlocks hP hS (by decide) (by decide) (bI_nar false) (by rw [← (hq _ (Option.some.inj h).symm).symm] <;> rfl) dL_metres_220
                  · rw [if_pos (c24)] at h
                    refine lv_aload_n hx hb dL_metres_209 rfl (lv_at hl 3 rfl) ?_
                    refine lv_iconst (v := 1) hx hb dL_metres_210 rfl ?_
                    obtain ⟨v25, hv25, h⟩ := hy_bind h
                    refine hy_ret (hy_rV0 (T := (C23, M16, Mo)) (v := some (.int v25)) (T2 := (C23, M16, Mo)) (As := [.int 1]) (rest := []) (n := 0) hx hb hml hown hts hX hP hS hl (c_Hp_firstError M16 Mo true C23 hv25) m_Hp_firstError q_904 (hy_recv hX hP 0 9 (by decide) rfl rfl) rfl rfl (Nat.le_of_ble_eq_true rfl) dL_metres_211 ⟨Nat.le_of_ble_eq_true rfl, Nat.le_of_ble_eq_true rfl⟩ ⟨by decide, by decide⟩) hS (fun H locs hP hS => ?_)
                    refine lv_iload hx hb dL_metres_214 (lv_at hl 0 rfl) ?_
                    refine lv_icmp_eq (tgt := 221) hx hb dL_metres_216 (by decide) (fun c26 => ?_) (fun c26 => ?_)
                    · rw [if_pos c26] at h
                      refine lv_iinc (v := (x10 + 1)) (lv' := [(11, .int (x10 + 1)), (7, .int (x9 + 1)), (6, .int (x8 + (v17 - 1))), (12, .int 1), (0, .ref (adr G1 0)), (1, .int a1), (2, .int a2), (3, .ref (adr G1 34)), (4, .ref (adr G1 30)), (5, .ref (adr G1 31)), (8, .int v1), (9, .int ((if a2 ≤ 0 then 2 else (if 9 ≤ a2 then 2 else a2)) : Int32)), (10, .ref (adr G1 35))]) hx hb dL_metres_221 hl (k := 12) rfl rfl (by decide) rfl (fun ls hl => ?_)
                      refine lv_goto (tgt := 55) hx hb dL_metres_224 (by decide) ?_
                      exact ih (x8 + (v17 - 1)) (x9 + 1) (x10 + 1) C23 M16 _ h hq _ _ ls hP hS (lv_sub hl [4, 5, 6, 7, 8, 9, 2, 1, 10, 11, 12, 0] rfl) kk
                    · rw [if_neg c26] at h
                      refine lv_iconst (v := 0) hx hb dL_metres_219 rfl ?_
                      exact hy_zret (T := (C23, M16, Mo)) hx hb hr hlocks hP hS (by decide) (by decide) (bI_nar false) (by rw [← (hq _ (Option.some.inj h).symm).symm] <;> rfl) dL_metres_220
                · rw [if_neg c20] at h
                  refine lv_aload_n hx hb dL_metres_163 rfl (lv_at hl 2 rfl) ?_
                  refine lv_bipush (v := 48) hx hb dL_metres_164 rfl ?_
                  refine lv_aload hx hb dL_metres_166 (lv_at hl 11 rfl) ?_
                  refine lv_iload hx hb dL_metres_168 (lv_at hl 12 rfl) ?_
                  obtain ⟨v27, hv27, h⟩ := hy_bind h
                  obtain ⟨nv27, hv27⟩ := ldE_some hv27
                  refine hy_iald (T := (C11, M16, Mo)) hx hb hX hP 35 9 (M16.1 35) (by omega) rfl nv27 dL_metres_170 ?_
                  rw [hv27]
                  refine lv_bipush (v := 10) hx hb dL_metres_171 rfl ?_
                  refine lv_idiv hx hb dL_metres_173 (by decide) ?_
                  refine lv_iadd hx hb dL_metres_174 ?_
                  obtain ⟨⟨v28, C29⟩, hv28, h⟩ := hy_bind h
                  try dsimp only at h
                  refine hy_ret (hy_rV0 (T := (C11, M16, Mo)) (v := some (.int v28)) (T2 := (C29, M16, Mo)) (As := [.int (48 + (v27 / 10))]) (rest := []) (n := 0) hx hb hml hown hts hX hP hS hl (c_Hp_append hlt M16 Mo (48 + (v27 / 10)) C11 (res := (.inr v28, C29)) (rtM_some hv28)) m_Hp_append q_879 (hy_recv hX hP 0 9 (by decide) rfl rfl) rfl rfl (Nat.le_of_ble_eq_true rfl) dL_metres_175 ⟨Nat.le_of_ble_eq_true rfl, Nat.le_of_ble_eq_true rfl⟩ ⟨by decide, by decide⟩) hS (fun H locs hP hS => ?_)
                  refine lv_iinc (v := (x9 + 1)) (lv' := [(7, .int (x9 + 1)), (6, .int (x8 + (v17 - 1))), (12, .int 1), (0, .ref (adr G1 0)), (1, .int a1), (2, .int a2), (3, .ref (adr G1 34)), (4, .ref (adr G1 30)), (5, .ref (adr G1 31)), (8, .int v1), (9, .int ((if a2 ≤ 0 then 2 else (if 9 ≤ a2 then 2 else a2)) : Int32)), (10, .ref (adr G1 35)), (11, .int x10)]) hx hb dL_metres_178 hl (k := 8) rfl rfl (by decide) rfl (fun ls hl => ?_)
                  refine lv_iload hx hb dL_metres_181 (lv_at hl 0 rfl) ?_
                  refine lv_icmp_ne (tgt := 219) hx hb dL_metres_183 (by decide) (fun c30 => ?_) (fun c30 => ?_)
                  · rw [if_neg c30] at h
                    refine lv_iconst (v := 0) hx hb dL_metres_219 rfl ?_
                    exact hy_zret (T := (C29, M16, Mo)) hx hb hr hlocks hP hS (by decide) (by decide) (bI_nar false) (by rw [← (hq _ (Option.some.inj h).symm).symm] <;> rfl) dL_metres_220
                  · rw [if_pos (c30)] at h
                    refine lv_aload_n hx hb dL_metres_186 rfl (lv_at hl 3 rfl) ?_
                    refine lv_bipush (v := 48) hx hb dL_metres_187 rfl ?_
                    refine lv_aload hx hb dL_metres_189 (lv_at hl 11 rfl) ?_
                    refine lv_iload hx hb dL_metres_191 (lv_at hl 12 rfl) ?_
                    obtain ⟨v31, hv31, h⟩ := hy_bind h
                    obtain ⟨nv31, hv31⟩ := ldE_some hv31
                    refine hy_iald (T := (C29, M16, Mo)) hx hb hX hP 35 9 (M16.1 35) (by omega) rfl nv31 dL_metres_193 ?_
                    rw [hv31]
                    refine lv_bipush (v := 10) hx hb dL_metres_194 rfl ?_
                    refine lv_irem hx hb dL_metres_196 (by decide) ?_
                    refine lv_iadd hx hb dL_metres_197 ?_
                    obtain ⟨⟨v32, C33⟩, hv32, h⟩ := hy_bind h
                    try dsimp only at h
                    refine hy_ret (hy_rV0 (T := (C29, M16, Mo)) (v := some (.int v32)) (T2 := (C33, M16, Mo)) (As := [.int (48 + (v31 - v31 / 10 * 10))]) (rest := []) (n := 0) hx hb hml hown hts hX hP hS hl (c_Hp_append hlt M16 Mo (48 + (v31 - v31 / 10 * 10)) C29 (res := (.inr v32, C33)) (rtM_some hv32)) m_Hp_append q_879 (hy_recv hX hP 0 9 (by decide) rfl rfl) rfl rfl (Nat.le_of_ble_eq_true rfl) dL_metres_198 ⟨Nat.le_of_ble_eq_true rfl, Nat.le_of_ble_eq_true rfl⟩ ⟨by decide, by decide⟩) hS (fun H locs hP hS => ?_)
                    refine lv_iinc (v := ((x9 + 1) + 1)) (lv' := [(7, .int ((x9 + 1) + 1)), (6, .int (x8 + (v17 - 1))), (12, .int 1), (0, .ref (adr G1 0)), (1, .int a1), (2, .int a2), (3, .ref (adr G1 34)), (4, .ref (adr G1 30)), (5, .ref (adr G1 31)), (8, .int v1), (9, .int ((if a2 ≤ 0 then 2 else (if 9 ≤ a2 then 2 else a2)) : Int32)), (10, .ref (adr G1 35)), (11, .int x10)]) hx hb dL_metres_201 hl (k := 0) rfl rfl (by decide) rfl (fun ls hl => ?_)
                    refine lv_iload hx hb dL_metres_204 (lv_at hl 0 rfl) ?_
                    refine lv_icmp_ne (tgt := 219) hx hb dL_metres_206 (by decide) (fun c34 => ?_) (fun c34 => ?_)
                    · rw [if_neg c34] at h
                      refine lv_iconst (v := 0) hx hb dL_metres_219 rfl ?_
                      exact hy_zret (T := (C33, M16, Mo)) hx hb hr hlocks hP hS (by decide) (by decide) (bI_nar false) (by rw [← (hq _ (Option.some.inj h).symm).symm] <;> rfl) dL_metres_220
                    · rw [if_pos (c34)] at h
                      refine lv_aload_n hx hb dL_metres_209 rfl (lv_at hl 3 rfl) ?_
                      refine lv_iconst (v := 1) hx hb dL_metres_210 rfl ?_
                      obtain ⟨v35, hv35, h⟩ := hy_bind h
                      refine hy_ret (hy_rV0 (T := (C33, M16, Mo)) (v := some (.int v35)) (T2 := (C33, M16, Mo)) (As := [.int 1]) (rest := []) (n := 0) hx hb hml hown hts hX hP hS hl (c_Hp_firstError M16 Mo true C33 hv35) m_Hp_firstError q_904 (hy_recv hX hP 0 9 (by decide) rfl rfl) rfl rfl (Nat.le_of_ble_eq_true rfl) dL_metres_211 ⟨Nat.le_of_ble_eq_true rfl, Nat.le_of_ble_eq_true rfl⟩ ⟨by decide, by decide⟩) hS (fun H locs hP hS => ?_)
                      refine lv_iload hx hb dL_metres_214 (lv_at hl 0 rfl) ?_
                      refine lv_icmp_eq (tgt := 221) hx hb dL_metres_216 (by decide) (fun c36 => ?_) (fun c36 => ?_)
                      · rw [if_pos c36] at h
                        refine lv_iinc (v := (x10 + 1)) (lv' := [(11, .int (x10 + 1)), (7, .int ((x9 + 1) + 1)), (6, .int (x8 + (v17 - 1))), (12, .int 1), (0, .ref (adr G1 0)), (1, .int a1), (2, .int a2), (3, .ref (adr G1 34)), (4, .ref (adr G1 30)), (5, .ref (adr G1 31)), (8, .int v1), (9, .int ((if a2 ≤ 0 then 2 else (if 9 ≤ a2 then 2 else a2)) : Int32)), (10, .ref (adr G1 35))]) hx hb dL_metres_221 hl (k := 12) rfl rfl (by decide) rfl (fun ls hl => ?_)
                        refine lv_goto (tgt := 55) hx hb dL_metres_224 (by decide) ?_
                        exact ih (x8 + (v17 - 1)) ((x9 + 1) + 1) (x10 + 1) C33 M16 _ h hq _ _ ls hP hS (lv_sub hl [4, 5, 6, 7, 8, 9, 2, 1, 10, 11, 12, 0] rfl) kk
                      · rw [if_neg c36] at h
                        refine lv_iconst (v := 0) hx hb dL_metres_219 rfl ?_
                        exact hy_zret (T := (C33, M16, Mo)) hx hb hr hlocks hP hS (by decide) (by decide) (bI_nar false) (by rw [← (hq _ (Option.some.inj h).symm).symm] <;> rfl) dL_metres_220
              · rw [if_neg c18] at h
                refine lv_aload_n hx hb dL_metres_139 rfl (lv_at hl 2 rfl) ?_
                refine lv_bipush (v := 46) hx hb dL_metres_140 rfl ?_
                obtain ⟨⟨v37, C38⟩, hv37, h⟩ := hy_bind h
                try dsimp only at h
                refine hy_ret (hy_rV0 (T := (C11, M16, Mo)) (v := some (.int v37)) (T2 := (C38, M16, Mo)) (As := [.int 46]) (rest := []) (n := 0) hx hb hml hown hts hX hP hS hl (c_Hp_append hlt M16 Mo 46 C11 (res := (.inr v37, C38)) (rtM_some hv37)) m_Hp_append q_879 (hy_recv hX hP 0 9 (by decide) rfl rfl) rfl rfl (Nat.le_of_ble_eq_true rfl) dL_metres_142 ⟨Nat.le_of_ble_eq_true rfl, Nat.le_of_ble_eq_true rfl⟩ ⟨by decide, by decide⟩) hS (fun H locs hP hS => ?_)
                refine lv_iinc (v := (x9 + 1)) (lv' := [(7, .int (x9 + 1)), (6, .int (x8 + (v17 - 1))), (12, .int 1), (0, .ref (adr G1 0)), (1, .int a1), (2, .int a2), (3, .ref (adr G1 34)), (4, .ref (adr G1 30)), (5, .ref (adr G1 31)), (8, .int v1), (9, .int ((if a2 ≤ 0 then 2 else (if 9 ≤ a2 then 2 else a2)) : Int32)), (10, .ref (adr G1 35)), (11, .int x10)]) hx hb dL_metres_145 hl (k := 8) rfl rfl (by decide) rfl (fun ls hl => ?_)
                refine lv_iload hx hb dL_metres_148 (lv_at hl 0 rfl) ?_
                refine lv_icmp_ne (tgt := 219) hx hb dL_metres_150 (by decide) (fun c39 => ?_) (fun c39 => ?_)
                · rw [if_neg c39] at h
                  refine lv_iconst (v := 0) hx hb dL_metres_219 rfl ?_
                  exact hy_zret (T := (C38, M16, Mo)) hx hb hr hlocks hP hS (by decide) (by decide) (bI_nar false) (by rw [← (hq _ (Option.some.inj h).symm).symm] <;> rfl) dL_metres_220
                · rw [if_pos (c39)] at h
                  refine lv_aload hx hb dL_metres_153 (lv_at hl 11 rfl) ?_
                  refine lv_iload hx hb dL_metres_155 (lv_at hl 12 rfl) ?_
                  obtain ⟨v40, hv40, h⟩ := hy_bind h
                  obtain ⟨nv40, hv40⟩ := ldE_some hv40
                  refine hy_iald (T := (C38, M16, Mo)) hx hb hX hP 35 9 (M16.1 35) (by omega) rfl nv40 dL_metres_157 ?_
                  rw [hv40]
                  refine lv_bipush (v := 9) hx hb dL_metres_158 rfl ?_
                  refine lv_icmp_le (tgt := 186) hx hb dL_metres_160 (by decide) (fun c41 => ?_) (fun c41 => ?_)
                  · rw [if_pos c41] at h
                    refine lv_aload_n hx hb dL_metres_186 rfl (lv_at hl 3 rfl) ?_
                    refine lv_bipush (v := 48) hx hb dL_metres_187 rfl ?_
                    refine lv_aload hx hb dL_metres_189 (lv_at hl 11 rfl) ?_
                    refine lv_iload hx hb dL_metres_191 (lv_at hl 12 rfl) ?_
                    obtain ⟨v42, hv42, h⟩ := hy_bind h
                    obtain ⟨nv42, hv42⟩ := ldE_some hv42
                    refine hy_iald (T := (C38, M16, Mo)) hx hb hX hP 35 9 (M16.1 35) (by omega) rfl nv42 dL_metres_193 ?_
                    rw [hv42]
                    refine lv_bipush (v := 10) hx hb dL_metres_194 rfl ?_
                    refine lv_irem hx hb dL_metres_196 (by decide) ?_
                    refine lv_iadd hx hb dL_metres_197 ?_
                    obtain ⟨⟨v43, C44⟩, hv43, h⟩ := hy_bind h
                    try dsimp only at h
                    refine hy_ret (hy_rV0 (T := (C38, M16, Mo)) (v := some (.int v43)) (T2 := (C44, M16, Mo)) (As := [.int (48 + (v42 - v42 / 10 * 10))]) (rest := []) (n := 0) hx hb hml hown hts hX hP hS hl (c_Hp_append hlt M16 Mo (48 + (v42 - v42 / 10 * 10)) C38 (res := (.inr v43, C44)) (rtM_some hv43)) m_Hp_append q_879 (hy_recv hX hP 0 9 (by decide) rfl rfl) rfl rfl (Nat.le_of_ble_eq_true rfl) dL_metres_198 ⟨Nat.le_of_ble_eq_true rfl, Nat.le_of_ble_eq_true rfl⟩ ⟨by decide, by decide⟩) hS (fun H locs hP hS => ?_)
                    refine lv_iinc (v := ((x9 + 1) + 1)) (lv' := [(7, .int ((x9 + 1) + 1)), (6, .int (x8 + (v17 - 1))), (12, .int 1), (0, .ref (adr G1 0)), (1, .int a1), (2, .int a2), (3, .ref (adr G1 34)), (4, .ref (adr G1 30)), (5, .ref (adr G1 31)), (8, .int v1), (9, .int ((if a2 ≤ 0 then 2 else (if 9 ≤ a2 then 2 else a2)) : Int32)), (10, .ref (adr G1 35)), (11, .int x10)]) hx hb dL_metres_201 hl (k := 0) rfl rfl (by decide) rfl (fun ls hl => ?_)
                    refine lv_iload hx hb dL_metres_204 (lv_at hl 0 rfl) ?_
                    refine lv_icmp_ne (tgt := 219) hx hb dL_metres_206 (by decide) (fun c45 => ?_) (fun c45 => ?_)
                    · rw [if_neg c45] at h
                      refine lv_iconst (v := 0) hx hb dL_metres_219 rfl ?_
                      exact hy_zret (T := (C44, M16, Mo)) hx hb hr hlocks hP hS (by decide) (by decide) (bI_nar false) (by rw [← (hq _ (Option.some.inj h).symm).symm] <;> rfl) dL_metres_220
                    · rw [if_pos (c45)] at h
                      refine lv_aload_n hx hb dL_metres_209 rfl (lv_at hl 3 rfl) ?_
                      refine lv_iconst (v := 1) hx hb dL_metres_210 rfl ?_
                      obtain ⟨v46, hv46, h⟩ := hy_bind h
                      refine hy_ret (hy_rV0 (T := (C44, M16, Mo)) (v := some (.int v46)) (T2 := (C44, M16, Mo)) (As := [.int 1]) (rest := []) (n := 0) hx hb hml hown hts hX hP hS hl (c_Hp_firstError M16 Mo true C44 hv46) m_Hp_firstError q_904 (hy_recv hX hP 0 9 (by decide) rfl rfl) rfl rfl (Nat.le_of_ble_eq_true rfl) dL_metres_211 ⟨Nat.le_of_ble_eq_true rfl, Nat.le_of_ble_eq_true rfl⟩ ⟨by decide, by decide⟩) hS (fun H locs hP hS => ?_)
                      refine lv_iload hx hb dL_metres_214 (lv_at hl 0 rfl) ?_
                      refine lv_icmp_eq (tgt := 221) hx hb dL_metres_216 (by decide) (fun c47 => ?_) (fun c47 => ?_)
                      · rw [if_pos c47] at h
                        refine lv_iinc (v := (x10 + 1)) (lv' := [(11, .int (x10 + 1)), (7, .int ((x9 + 1) + 1)), (6, .int (x8 + (v17 - 1))), (12, .int 1), (0, .ref (adr G1 0)), (1, .int a1), (2, .int a2), (3, .ref (adr G1 34)), (4, .ref (adr G1 30)), (5, .ref (adr G1 31)), (8, .int v1), (9, .int ((if a2 ≤ 0 then 2 else (if 9 ≤ a2 then 2 else a2)) : Int32)), (10, .ref (adr G1 35))]) hx hb dL_metres_221 hl (k := 12) rfl rfl (by decide) rfl (fun ls hl => ?_)
                        refine lv_goto (tgt := 55) hx hb dL_metres_224 (by decide) ?_
                        exact ih (x8 + (v17 - 1)) ((x9 + 1) + 1) (x10 + 1) C44 M16 _ h hq _ _ ls hP hS (lv_sub hl [4, 5, 6, 7, 8, 9, 2, 1, 10, 11, 12, 0] rfl) kk
                      · rw [if_neg c47] at h
                        refine lv_iconst (v := 0) hx hb dL_metres_219 rfl ?_
                        exact hy_zret (T := (C44, M16, Mo)) hx hb hr hlocks hP hS (by decide) (by decide) (bI_nar false) (by rw [← (hq _ (Option.some.inj h).symm).symm] <;> rfl) dL_metres_220
                  · rw [if_neg c41] at h
                    refine lv_aload_n hx hb dL_metres_163 rfl (lv_at hl 3 rfl) ?_
                    refine lv_bipush (v := 48) hx hb dL_metres_164 rfl ?_
                    refine lv_aload hx hb dL_metres_166 (lv_at hl 11 rfl) ?_
                    refine lv_iload hx hb dL_metres_168 (lv_at hl 12 rfl) ?_
                    obtain ⟨v48, hv48, h⟩ := hy_bind h
                    obtain ⟨nv48, hv48⟩ := ldE_some hv48
                    refine hy_iald (T := (C38, M16, Mo)) hx hb hX hP 35 9 (M16.1 35) (by omega) rfl nv48 dL_metres_170 ?_
                    rw [hv48]
                    refine lv_bipush (v := 10) hx hb dL_metres_171 rfl ?_
                    refine lv_idiv hx hb dL_metres_173 (by decide) ?_
                    refine lv_iadd hx hb dL_metres_174 ?_
                    obtain ⟨⟨v49, C50⟩, hv49, h⟩ := hy_bind h
                    try dsimp only at h
                    refine hy_ret (hy_rV0 (T := (C38, M16, Mo)) (v := some (.int v49)) (T2 := (C50, M16, Mo)) (As := [.int (48 + (v48 / 10))]) (rest := []) (n := 0) hx hb hml hown hts hX hP hS hl (c_Hp_append hlt M16 Mo (48 + (v48 / 10)) C38 (res := (.inr v49, C50)) (rtM_some hv49)) m_Hp_append q_879 (hy_recv hX hP 0 9 (by decide) rfl rfl) rfl rfl (Nat.le_of_ble_eq_true rfl) dL_metres_175 ⟨Nat.le_of_ble_eq_true rfl, Nat.le_of_ble_eq_true rfl⟩ ⟨by decide, by decide⟩) hS (fun H locs hP hS => ?_)
                    refine lv_iinc (v := ((x9 + 1) + 1)) (lv' := [(7, .int ((x9 + 1) + 1)), (6, .int (x8 + (v17 - 1))), (12, .int 1), (0, .ref (adr G1 0)), (1, .int a1), (2, .int a2), (3, .ref (adr G1 34)), (4, .ref (adr G1 30)), (5, .ref (adr G1 31)), (8, .int v1), (9, .int ((if a2 ≤ 0 then 2 else (if 9 ≤ a2 then 2 else a2)) : Int32)), (10, .ref (adr G1 35)), (11, .int x10)]) hx hb dL_metres_178 hl (k := 0) rfl rfl (by decide) rfl (fun ls hl => ?_)
                    refine lv_iload hx hb dL_metres_181 (lv_at hl 0 rfl) ?_
                    refine lv_icmp_ne (tgt := 219) hx hb dL_metres_183 (by decide) (fun c51 => ?_) (fun c51 => ?_)
                    · rw [if_neg c51] at h
                      refine lv_iconst (v := 0) hx hb dL_metres_219 rfl ?_
                      exact hy_zret (T := (C50, M16, Mo)) hx hb hr hlocks hP hS (by decide) (by decide) (bI_nar false) (by rw [← (hq _ (Option.some.inj h).symm).symm] <;> rfl) dL_metres_220
                    · rw [if_pos (c51)] at h
                      refine lv_aload_n hx hb dL_metres_186 rfl (lv_at hl 3 rfl) ?_
                      refine lv_bipush (v := 48) hx hb dL_metres_187 rfl ?_
                      refine lv_aload hx hb dL_metres_189 (lv_at hl 11 rfl) ?_
                      refine lv_iload hx hb dL_metres_191 (lv_at hl 12 rfl) ?_
                      obtain ⟨v52, hv52, h⟩ := hy_bind h
                      obtain ⟨nv52, hv52⟩ := ldE_some hv52
                      refine hy_iald (T := (C50, M16, Mo)) hx hb hX hP 35 9 (M16.1 35) (by omega) rfl nv52 dL_metres_193 ?_
                      rw [hv52]
                      refine lv_bipush (v := 10) hx hb dL_metres_194 rfl ?_
                      refine lv_irem hx hb dL_metres_196 (by decide) ?_
                      refine lv_iadd hx hb dL_metres_197 ?_
                      obtain ⟨⟨v53, C54⟩, hv53, h⟩ := hy_bind h
                      try dsimp only at h
                      refine hy_ret (hy_rV0 (T := (C50, M16, Mo)) (v := some (.int v53)) (T2 := (C54, M16, Mo)) (As := [.int (48 + (v52 - v52 / 10 * 10))]) (rest := []) (n := 0) hx hb hml hown hts hX hP hS hl (c_Hp_append hlt M16 Mo (48 + (v52 - v52 / 10 * 10)) C50 (res := (.inr v53, C54)) (rtM_some hv53)) m_Hp_append q_879 (hy_recv hX hP 0 9 (by decide) rfl rfl) rfl rfl (Nat.le_of_ble_eq_true rfl) dL_metres_198 ⟨Nat.le_of_ble_eq_true rfl, Nat.le_of_ble_eq_true rfl⟩ ⟨by decide, by decide⟩) hS (fun H locs hP hS => ?_)
                      refine lv_iinc (v := (((x9 + 1) + 1) + 1)) (lv' := [(7, .int (((x9 + 1) + 1) + 1)), (6, .int (x8 + (v17 - 1))), (12, .int 1), (0, .ref (adr G1 0)), (1, .int a1), (2, .int a2), (3, .ref (adr G1 34)), (4, .ref (adr G1 30)), (5, .ref (adr G1 31)), (8, .int v1), (9, .int ((if a2 ≤ 0 then 2 else (if 9 ≤ a2 then 2 else a2)) : Int32)), (10, .ref (adr G1 35)), (11, .int x10)]) hx hb dL_metres_201 hl (k := 0) rfl rfl (by decide) rfl (fun ls hl => ?_)
                      refine lv_iload hx hb dL_metres_204 (lv_at hl 0 rfl) ?_
                      refine lv_icmp_ne (tgt := 219) hx hb dL_metres_206 (by decide) (fun c55 => ?_) (fun c55 => ?_)
                      · rw [if_neg c55] at h
                        refine lv_iconst (v := 0) hx hb dL_metres_219 rfl ?_
                        exact hy_zret (T := (C54, M16, Mo)) hx hb hr hlocks hP hS (by decide) (by decide) (bI_nar false) (by rw [← (hq _ (Option.some.inj h).symm).symm] <;> rfl) dL_metres_220
                      · rw [if_pos (c55)] at h
                        refine lv_aload_n hx hb dL_metres_209 rfl (lv_at hl 3 rfl) ?_
                        refine lv_iconst (v := 1) hx hb dL_metres_210 rfl ?_
                        obtain ⟨v56, hv56, h⟩ := hy_bind h
                        refine hy_ret (hy_rV0 (T := (C54, M16, Mo)) (v := some (.int v56)) (T2 := (C54, M16, Mo)) (As := [.int 1]) (rest := []) (n := 0) hx hb hml hown hts hX hP hS hl (c_Hp_firstError M16 Mo true C54 hv56) m_Hp_firstError q_904 (hy_recv hX hP 0 9 (by decide) rfl rfl) rfl rfl (Nat.le_of_ble_eq_true rfl) dL_metres_211 ⟨Nat.le_of_ble_eq_true rfl, Nat.le_of_ble_eq_true rfl⟩ ⟨by decide, by decide⟩) hS (fun H locs hP hS => ?_)
                        refine lv_iload hx hb dL_metres_214 (lv_at hl 0 rfl) ?_
                        refine lv_icmp_eq (tgt := 221) hx hb dL_metres_216 (by decide) (fun c57 => ?_) (fun c57 => ?_)
                        · rw [if_pos c57] at h
                          refine lv_iinc (v := (x10 + 1)) (lv' := [(11, .int (x10 + 1)), (7, .int (((x9 + 1) + 1) + 1)), (6, .int (x8 + (v17 - 1))), (12, .int 1), (0, .ref (adr G1 0)), (1, .int a1), (2, .int a2), (3, .ref (adr G1 34)), (4, .ref (adr G1 30)), (5, .ref (adr G1 31)), (8, .int v1), (9, .int ((if a2 ≤ 0 then 2 else (if 9 ≤ a2 then 2 else a2)) : Int32)), (10, .ref (adr G1 35))]) hx hb dL_metres_221 hl (k := 12) rfl rfl (by decide) rfl (fun ls hl => ?_)
                          refine lv_goto (tgt := 55) hx hb dL_metres_224 (by decide) ?_
                          exact ih (x8 + (v17 - 1)) (((x9 + 1) + 1) + 1) (x10 + 1) C54 M16 _ h hq _ _ ls hP hS (lv_sub hl [4, 5, 6, 7, 8, 9, 2, 1, 10, 11, 12, 0] rfl) kk
                        · rw [if_neg c57] at h
                          refine lv_iconst (v := 0) hx hb dL_metres_219 rfl ?_
                          exact hy_zret (T := (C54, M16, Mo)) hx hb hr hlocks hP hS (by decide) (by decide) (bI_nar false) (by rw [← (hq _ (Option.some.inj h).symm).symm] <;> rfl) dL_metres_220
            · rw [if_neg c14] at h
              refine lv_aload_n hx hb dL_metres_68 rfl (lv_at hl 3 rfl) ?_
              refine lv_iload hx hb dL_metres_69 (lv_at hl 11 rfl) ?_
              obtain ⟨v58, hv58, h⟩ := hy_bind h
              obtain ⟨nv58, hv58⟩ := ldE_some hv58
              refine hy_iald (T := (C11, M12, Mo)) hx hb hX hP 34 30 (M12.1 34) (by omega) rfl nv58 dL_metres_71 ?_
              rw [hv58]
              refine lv_aload hx hb dL_metres_72 (lv_at hl 4 rfl) ?_
              refine lv_aload hx hb dL_metres_74 (lv_at hl 5 rfl) ?_
              obtain ⟨v59, hv59, h⟩ := hy_bind h
              refine hy_ret (hy_rS0 (T := (C11, M12, Mo)) (v := some (.int v59)) (T2 := (C11, M12, Mo)) (As := [.int v58, .ref (adr G1 30), .ref (adr G1 31)]) (rest := []) (n := 0) hx hb hml hown hts hX hP hS hl (c_La_first C11 Mo v58 M12 hv59) m_La_first q_714 rfl rfl (Nat.le_of_ble_eq_true rfl) dL_metres_76 ⟨Nat.le_of_ble_eq_true rfl, Nat.le_of_ble_eq_true rfl⟩ ⟨by decide, by decide⟩) hS (fun H locs hP hS => ?_)
              refine lv_aload_n hx hb dL_metres_79 rfl (lv_at hl 3 rfl) ?_
              refine lv_iload hx hb dL_metres_80 (lv_at hl 11 rfl) ?_
              obtain ⟨v60, hv60, h⟩ := hy_bind h
              obtain ⟨nv60, hv60⟩ := ldE_some hv60
              refine hy_iald (T := (C11, M12, Mo)) hx hb hX hP 34 30 (M12.1 34) (by omega) rfl nv60 dL_metres_82 ?_
              rw [hv60]
              refine lv_aload hx hb dL_metres_83 (lv_at hl 4 rfl) ?_
              refine lv_aload hx hb dL_metres_85 (lv_at hl 5 rfl) ?_
              obtain ⟨v61, hv61, h⟩ := hy_bind h
              refine hy_ret (hy_rS0 (T := (C11, M12, Mo)) (v := some (.int v61)) (T2 := (C11, M12, Mo)) (As := [.int v60, .ref (adr G1 30), .ref (adr G1 31)]) (rest := [.int v59]) (n := 0) hx hb hml hown hts hX hP hS hl (c_La_last C11 Mo v60 M12 hv61) m_La_last q_799 rfl rfl (Nat.le_of_ble_eq_true rfl) dL_metres_87 ⟨Nat.le_of_ble_eq_true rfl, Nat.le_of_ble_eq_true rfl⟩ ⟨by decide, by decide⟩) hS (fun H locs hP hS => ?_)
              refine lv_aload hx hb dL_metres_90 (lv_at hl 4 rfl) ?_
              refine lv_aload hx hb dL_metres_92 (lv_at hl 5 rfl) ?_
              obtain ⟨v62, hv62, h⟩ := hy_bind h
              refine hy_ret (hy_rS0 (T := (C11, M12, Mo)) (v := some (.int v62)) (T2 := (C11, M12, Mo)) (As := [.int v59, .int v61, .ref (adr G1 30), .ref (adr G1 31)]) (rest := []) (n := 0) hx hb hml hown hts hX hP hS hl (c_La_syllables C11 Mo v59 v61 M12 hv62) m_La_syllables q_723 rfl rfl (Nat.le_of_ble_eq_true rfl) dL_metres_94 ⟨Nat.le_of_ble_eq_true rfl, Nat.le_of_ble_eq_true rfl⟩ ⟨by decide, by decide⟩) hS (fun H locs hP hS => ?_)
              refine lv_goto (tgt := 101) hx hb dL_metres_97 (by decide) ?_
              refine lv_istore (lv' := [(12, .int v62), (0, .ref (adr G1 0)), (1, .int a1), (2, .int a2), (3, .ref (adr G1 34)), (4, .ref (adr G1 30)), (5, .ref (adr G1 31)), (6, .int x8), (7, .int x9), (8, .int v1), (9, .int ((if a2 ≤ 0 then 2 else (if 9 ≤ a2 then 2 else a2)) : Int32)), (10, .ref (adr G1 35)), (11, .int x10)]) hx hb dL_metres_101 hl (by decide) rfl (fun ls hl => ?_)
              refine lv_aload hx hb dL_metres_103 (lv_at hl 11 rfl) ?_
              refine lv_iload hx hb dL_metres_105 (lv_at hl 12 rfl) ?_
              refine lv_iload hx hb dL_metres_107 (lv_at hl 0 rfl) ?_
              refine lv_iload_n hx hb dL_metres_109 rfl (lv_at hl 2 rfl) ?_
              refine lv_iconst (v := 2) hx hb dL_metres_110 rfl ?_
              refine lv_iload hx hb dL_metres_111 (lv_at hl 12 rfl) ?_
              refine lv_imul hx hb dL_metres_113 ?_
              refine lv_ishr hx hb dL_metres_114 ?_
              refine lv_iconst (v := 3) hx hb dL_metres_115 rfl ?_
              obtain ⟨v63, hv63, h⟩ := hy_bind h
              refine hy_ret (hy_rS0 (T := (C11, M12, Mo)) (v := some (.int v63)) (T2 := (C11, M12, Mo)) (As := [.int (a1 >>> ((2 * x10) &&& 31)), .int 3]) (rest := [.int v62, .int x10, .ref (adr G1 35)]) (n := 0) hx hb hml hown hts hX hP hS hl (c_La_at C11 Mo (a1 >>> ((2 * x10) &&& 31)) 3 M12 hv63) m_La_at q_641 rfl rfl (Nat.le_of_ble_eq_true rfl) dL_metres_116 ⟨Nat.le_of_ble_eq_true rfl, Nat.le_of_ble_eq_true rfl⟩ ⟨by decide, by decide⟩) hS (fun H locs hP hS => ?_)
              refine lv_iadd hx hb dL_metres_119 ?_
              obtain ⟨M64, hM64, h⟩ := hy_bind h
              obtain ⟨nM64, hM64⟩ := stE_some hM64
              refine hy_iast (T := (C11, M12, Mo)) (T2 := (C11, (wI M12 35 x10.toNatClampNeg (v62 + v63)), Mo)) hx hb hX hP hS 35 9 (by omega) (fun _ _ => rfl) nM64 rfl dL_metres_120 (fun H locs hP hS => ?_)
              rw [hM64] at hP
              refine lv_iload hx hb dL_metres_121 (lv_at hl 7 rfl) ?_
              refine lv_aload hx hb dL_metres_123 (lv_at hl 11 rfl) ?_
              refine lv_iload hx hb dL_metres_125 (lv_at hl 12 rfl) ?_
              obtain ⟨v65, hv65, h⟩ := hy_bind h
              obtain ⟨nv65, hv65⟩ := ldE_some hv65
              refine hy_iald (T := (C11, M64, Mo)) hx hb hX hP 35 9 (M64.1 35) (by omega) rfl nv65 dL_metres_127 ?_
              rw [hv65]
              refine lv_iload hx hb dL_metres_128 (lv_at hl 0 rfl) ?_
              refine lv_isub hx hb dL_metres_130 ?_
              refine lv_iadd hx hb dL_metres_131 ?_
              refine lv_istore (lv' := [(6, .int (x8 + (v65 - v62))), (12, .int v62), (0, .ref (adr G1 0)), (1, .int a1), (2, .int a2), (3, .ref (adr G1 34)), (4, .ref (adr G1 30)), (5, .ref (adr G1 31)), (7, .int x9), (8, .int v1), (9, .int ((if a2 ≤ 0 then 2 else (if 9 ≤ a2 then 2 else a2)) : Int32)), (10, .ref (adr G1 35)), (11, .int x10)]) hx hb dL_metres_132 hl (by decide) rfl (fun ls hl => ?_)
              refine lv_iload hx hb dL_metres_134 (lv_at hl 12 rfl) ?_
              refine lv_if_le (tgt := 153) hx hb dL_metres_136 (by decide) (fun c66 => ?_) (fun c66 => ?_)
              · rw [if_pos c66] at h
                refine lv_aload hx hb dL_metres_153 (lv_at hl 11 rfl) ?_
                refine lv_iload hx hb dL_metres_155 (lv_at hl 12 rfl) ?_
                obtain ⟨v67, hv67, h⟩ := hy_bind h
                obtain ⟨nv67, hv67⟩ := ldE_some hv67
                refine hy_iald (T := (C11, M64, Mo)) hx hb hX hP 35 9 (M64.1 35) (by omega) rfl nv67 dL_metres_157 ?_
                rw [hv67]
                refine lv_bipush (v := 9) hx hb dL_metres_158 rfl ?_
                refine lv_icmp_le (tgt := 186) hx hb dL_metres_160 (by decide) (fun c68 => ?_) (fun c68 => ?_)
                · rw [if_pos c68] at h
                  refine lv_aload_n hx hb dL_metres_186 rfl (lv_at hl 2 rfl) ?_
                  refine lv_bipush (v := 48) hx hb dL_metres_187 rfl ?_
                  refine lv_aload hx hb dL_metres_189 (lv_at hl 11 rfl) ?_
                  refine lv_iload hx hb dL_metres_191 (lv_at hl 12 rfl) ?_
                  obtain ⟨v69, hv69, h⟩ := hy_bind h
                  obtain ⟨nv69, hv69⟩ := ldE_some hv69
                  refine hy_iald (T := (C11, M64, Mo)) hx hb hX hP 35 9 (M64.1 35) (by omega) rfl nv69 dL_metres_193 ?_
                  rw [hv69]
                  refine lv_bipush (v := 10) hx hb dL_metres_194 rfl ?_
                  refine lv_irem hx hb dL_metres_196 (by decide) ?_
                  refine lv_iadd hx hb dL_metres_197 ?_
                  obtain ⟨⟨v70, C71⟩, hv70, h⟩ := hy_bind h
                  try dsimp only at h
                  refine hy_ret (hy_rV0 (T := (C11, M64, Mo)) (v := some (.int v70)) (T2 := (C71, M64, Mo)) (As := [.int (48 + (v69 - v69 / 10 * 10))]) (rest := []) (n := 0) hx hb hml hown hts hX hP hS hl (c_Hp_append hlt M64 Mo (48 + (v69 - v69 / 10 * 10)) C11 (res := (.inr v70, C71)) (rtM_some hv70)) m_Hp_append q_879 (hy_recv hX hP 0 9 (by decide) rfl rfl) rfl rfl (Nat.le_of_ble_eq_true rfl) dL_metres_198 ⟨Nat.le_of_ble_eq_true rfl, Nat.le_of_ble_eq_true rfl⟩ ⟨by decide, by decide⟩) hS (fun H locs hP hS => ?_)
                  refine lv_iinc (v := (x9 + 1)) (lv' := [(7, .int (x9 + 1)), (6, .int (x8 + (v65 - v62))), (12, .int v62), (0, .ref (adr G1 0)), (1, .int a1), (2, .int a2), (3, .ref (adr G1 34)), (4, .ref (adr G1 30)), (5, .ref (adr G1 31)), (8, .int v1), (9, .int ((if a2 ≤ 0 then 2 else (if 9 ≤ a2 then 2 else a2)) : Int32)), (10, .ref (adr G1 35)), (11, .int x10)]) hx hb dL_metres_201 hl (k := 8) rfl rfl (by decide) rfl (fun ls hl => ?_)
                  refine lv_iload hx hb dL_metres_204 (lv_at hl 0 rfl) ?_
                  refine lv_icmp_ne (tgt := 219) hx hb dL_metres_206 (by decide) (fun c72 => ?_) (fun c72 => ?_)
                  · rw [if_neg c72] at h
                    refine lv_iconst (v := 0) hx hb dL_metres_219 rfl ?_
                    exact hy_zret (T := (C71, M64, Mo)) hx hb hr hlocks hP hS (by decide) (by decide) (bI_nar false) (by rw [← (hq _ (Option.some.inj h).symm).symm] <;> rfl) dL_metres_220
                  · rw [if_pos (c72)] at h
                    refine lv_aload_n hx hb dL_metres_209 rfl (lv_at hl 3 rfl) ?_
                    refine lv_iconst (v := 1) hx hb dL_metres_210 rfl ?_
                    obtain ⟨v73, hv73, h⟩ := hy_bind h
                    refine hy_ret (hy_rV0 (T := (C71, M64, Mo)) (v := some (.int v73)) (T2 := (C71, M64, Mo)) (As := [.int 1]) (rest := []) (n := 0) hx hb hml hown hts hX hP hS hl (c_Hp_firstError M64 Mo true C71 hv73) m_Hp_firstError q_904 (hy_recv hX hP 0 9 (by decide) rfl rfl) rfl rfl (Nat.le_of_ble_eq_true rfl) dL_metres_211 ⟨Nat.le_of_ble_eq_true rfl, Nat.le_of_ble_eq_true rfl⟩ ⟨by decide, by decide⟩) hS (fun H locs hP hS => ?_)
                    refine lv_iload hx hb dL_metres_214 (lv_at hl 0 rfl) ?_
                    refine lv_icmp_eq (tgt := 221) hx hb dL_metres_216 (by decide) (fun c74 => ?_) (fun c74 => ?_)
                    · rw [if_pos c74] at h
                      refine lv_iinc (v := (x10 + 1)) (lv' := [(11, .int (x10 + 1)), (7, .int (x9 + 1)), (6, .int (x8 + (v65 - v62))), (12, .int v62), (0, .ref (adr G1 0)), (1, .int a1), (2, .int a2), (3, .ref (adr G1 34)), (4, .ref (adr G1 30)), (5, .ref (adr G1 31)), (8, .int v1), (9, .int ((if a2 ≤ 0 then 2 else (if 9 ≤ a2 then 2 else a2)) : Int32)), (10, .ref (adr G1 35))]) hx hb dL_metres_221 hl (k := 12) rfl rfl (by decide) rfl (fun ls hl => ?_)
                      refine lv_goto (tgt := 55) hx hb dL_metres_224 (by decide) ?_
                      exact ih (x8 + (v65 - v62)) (x9 + 1) (x10 + 1) C71 M64 _ h hq _ _ ls hP hS (lv_sub hl [4, 5, 6, 7, 8, 9, 2, 1, 10, 11, 12, 0] rfl) kk
                    · rw [if_neg c74] at h
                      refine lv_iconst (v := 0) hx hb dL_metres_219 rfl ?_
                      exact hy_zret (T := (C71, M64, Mo)) hx hb hr hlocks hP hS (by decide) (by decide) (bI_nar false) (by rw [← (hq _ (Option.some.inj h).symm).symm] <;> rfl) dL_metres_220
                · rw [if_neg c68] at h
                  refine lv_aload_n hx hb dL_metres_163 rfl (lv_at hl 2 rfl) ?_
                  refine lv_bipush (v := 48) hx hb dL_metres_164 rfl ?_
                  refine lv_aload hx hb dL_metres_166 (lv_at hl 11 rfl) ?_
                  refine lv_iload hx hb dL_metres_168 (lv_at hl 12 rfl) ?_
                  obtain ⟨v75, hv75, h⟩ := hy_bind h
                  obtain ⟨nv75, hv75⟩ := ldE_some hv75
                  refine hy_iald (T := (C11, M64, Mo)) hx hb hX hP 35 9 (M64.1 35) (by omega) rfl nv75 dL_metres_170 ?_
                  rw [hv75]
                  refine lv_bipush (v := 10) hx hb dL_metres_171 rfl ?_
                  refine lv_idiv hx hb dL_metres_173 (by decide) ?_
                  refine lv_iadd hx hb dL_metres_174 ?_
                  obtain ⟨⟨v76, C77⟩, hv76, h⟩ := hy_bind h
                  try dsimp only at h
                  refine hy_ret (hy_rV0 (T := (C11, M64, Mo)) (v := some (.int v76)) (T2 := (C77, M64, Mo)) (As := [.int (48 + (v75 / 10))]) (rest := []) (n := 0) hx hb hml hown hts hX hP hS hl (c_Hp_append hlt M64 Mo (48 + (v75 / 10)) C11 (res := (.inr v76, C77)) (rtM_some hv76)) m_Hp_append q_879 (hy_recv hX hP 0 9 (by decide) rfl rfl) rfl rfl (Nat.le_of_ble_eq_true rfl) dL_metres_175 ⟨Nat.le_of_ble_eq_true rfl, Nat.le_of_ble_eq_true rfl⟩ ⟨by decide, by decide⟩) hS (fun H locs hP hS => ?_)
                  refine lv_iinc (v := (x9 + 1)) (lv' := [(7, .int (x9 + 1)), (6, .int (x8 + (v65 - v62))), (12, .int v62), (0, .ref (adr G1 0)), (1, .int a1), (2, .int a2), (3, .ref (adr G1 34)), (4, .ref (adr G1 30)), (5, .ref (adr G1 31)), (8, .int v1), (9, .int ((if a2 ≤ 0 then 2 else (if 9 ≤ a2 then 2 else a2)) : Int32)), (10, .ref (adr G1 35)), (11, .int x10)]) hx hb dL_metres_178 hl (k := 8) rfl rfl (by decide) rfl (fun ls hl => ?_)
                  refine lv_iload hx hb dL_metres_181 (lv_at hl 0 rfl) ?_
                  refine lv_icmp_ne (tgt := 219) hx hb dL_metres_183 (by decide) (fun c78 => ?_) (fun c78 => ?_)
                  · rw [if_neg c78] at h
                    refine lv_iconst (v := 0) hx hb dL_metres_219 rfl ?_
                    exact hy_zret (T := (C77, M64, Mo)) hx hb hr hlocks hP hS (by decide) (by decide) (bI_nar false) (by rw [← (hq _ (Option.some.inj h).symm).symm] <;> rfl) dL_metres_220
                  · rw [if_pos (c78)] at h
                    refine lv_aload_n hx hb dL_metres_186 rfl (lv_at hl 3 rfl) ?_
                    refine lv_bipush (v := 48) hx hb dL_metres_187 rfl ?_
                    refine lv_aload hx hb dL_metres_189 (lv_at hl 11 rfl) ?_
                    refine lv_iload hx hb dL_metres_191 (lv_at hl 12 rfl) ?_
                    obtain ⟨v79, hv79, h⟩ := hy_bind h
                    obtain ⟨nv79, hv79⟩ := ldE_some hv79
                    refine hy_iald (T := (C77, M64, Mo)) hx hb hX hP 35 9 (M64.1 35) (by omega) rfl nv79 dL_metres_193 ?_
                    rw [hv79]
                    refine lv_bipush (v := 10) hx hb dL_metres_194 rfl ?_
                    refine lv_irem hx hb dL_metres_196 (by decide) ?_
                    refine lv_iadd hx hb dL_metres_197 ?_
                    obtain ⟨⟨v80, C81⟩, hv80, h⟩ := hy_bind h
                    try dsimp only at h
                    refine hy_ret (hy_rV0 (T := (C77, M64, Mo)) (v := some (.int v80)) (T2 := (C81, M64, Mo)) (As := [.int (48 + (v79 - v79 / 10 * 10))]) (rest := []) (n := 0) hx hb hml hown hts hX hP hS hl (c_Hp_append hlt M64 Mo (48 + (v79 - v79 / 10 * 10)) C77 (res := (.inr v80, C81)) (rtM_some hv80)) m_Hp_append q_879 (hy_recv hX hP 0 9 (by decide) rfl rfl) rfl rfl (Nat.le_of_ble_eq_true rfl) dL_metres_198 ⟨Nat.le_of_ble_eq_true rfl, Nat.le_of_ble_eq_true rfl⟩ ⟨by decide, by decide⟩) hS (fun H locs hP hS => ?_)
                    refine lv_iinc (v := ((x9 + 1) + 1)) (lv' := [(7, .int ((x9 + 1) + 1)), (6, .int (x8 + (v65 - v62))), (12, .int v62), (0, .ref (adr G1 0)), (1, .int a1), (2, .int a2), (3, .ref (adr G1 34)), (4, .ref (adr G1 30)), (5, .ref (adr G1 31)), (8, .int v1), (9, .int ((if a2 ≤ 0 then 2 else (if 9 ≤ a2 then 2 else a2)) : Int32)), (10, .ref (adr G1 35)), (11, .int x10)]) hx hb dL_metres_201 hl (k := 0) rfl rfl (by decide) rfl (fun ls hl => ?_)
                    refine lv_iload hx hb dL_metres_204 (lv_at hl 0 rfl) ?_
                    refine lv_icmp_ne (tgt := 219) hx hb dL_metres_206 (by decide) (fun c82 => ?_) (fun c82 => ?_)
                    · rw [if_neg c82] at h
                      refine lv_iconst (v := 0) hx hb dL_metres_219 rfl ?_
                      exact hy_zret (T := (C81, M64, Mo)) hx hb hr hlocks hP hS (by decide) (by decide) (bI_nar false) (by rw [← (hq _ (Option.some.inj h).symm).symm] <;> rfl) dL_metres_220
                    · rw [if_pos (c82)] at h
                      refine lv_aload_n hx hb dL_metres_209 rfl (lv_at hl 3 rfl) ?_
                      refine lv_iconst (v := 1) hx hb dL_metres_210 rfl ?_
                      obtain ⟨v83, hv83, h⟩ := hy_bind h
                      refine hy_ret (hy_rV0 (T := (C81, M64, Mo)) (v := some (.int v83)) (T2 := (C81, M64, Mo)) (As := [.int 1]) (rest := []) (n := 0) hx hb hml hown hts hX hP hS hl (c_Hp_firstError M64 Mo true C81 hv83) m_Hp_firstError q_904 (hy_recv hX hP 0 9 (by decide) rfl rfl) rfl rfl (Nat.le_of_ble_eq_true rfl) dL_metres_211 ⟨Nat.le_of_ble_eq_true rfl, Nat.le_of_ble_eq_true rfl⟩ ⟨by decide, by decide⟩) hS (fun H locs hP hS => ?_)
                      refine lv_iload hx hb dL_metres_214 (lv_at hl 0 rfl) ?_
                      refine lv_icmp_eq (tgt := 221) hx hb dL_metres_216 (by decide) (fun c84 => ?_) (fun c84 => ?_)
                      · rw [if_pos c84] at h
                        refine lv_iinc (v := (x10 + 1)) (lv' := [(11, .int (x10 + 1)), (7, .int ((x9 + 1) + 1)), (6, .int (x8 + (v65 - v62))), (12, .int v62), (0, .ref (adr G1 0)), (1, .int a1), (2, .int a2), (3, .ref (adr G1 34)), (4, .ref (adr G1 30)), (5, .ref (adr G1 31)), (8, .int v1), (9, .int ((if a2 ≤ 0 then 2 else (if 9 ≤ a2 then 2 else a2)) : Int32)), (10, .ref (adr G1 35))]) hx hb dL_metres_221 hl (k := 12) rfl rfl (by decide) rfl (fun ls hl => ?_)
                        refine lv_goto (tgt := 55) hx hb dL_metres_224 (by decide) ?_
                        exact ih (x8 + (v65 - v62)) ((x9 + 1) + 1) (x10 + 1) C81 M64 _ h hq _ _ ls hP hS (lv_sub hl [4, 5, 6, 7, 8, 9, 2, 1, 10, 11, 12, 0] rfl) kk
                      · rw [if_neg c84] at h
                        refine lv_iconst (v := 0) hx hb dL_metres_219 rfl ?_
                        exact hy_zret (T := (C81, M64, Mo)) hx hb hr hlocks hP hS (by decide) (by decide) (bI_nar false) (by rw [← (hq _ (Option.some.inj h).symm).symm] <;> rfl) dL_metres_220
              · rw [if_neg c66] at h
                refine lv_aload_n hx hb dL_metres_139 rfl (lv_at hl 2 rfl) ?_
                refine lv_bipush (v := 46) hx hb dL_metres_140 rfl ?_
                obtain ⟨⟨v85, C86⟩, hv85, h⟩ := hy_bind h
                try dsimp only at h
                refine hy_ret (hy_rV0 (T := (C11, M64, Mo)) (v := some (.int v85)) (T2 := (C86, M64, Mo)) (As := [.int 46]) (rest := []) (n := 0) hx hb hml hown hts hX hP hS hl (c_Hp_append hlt M64 Mo 46 C11 (res := (.inr v85, C86)) (rtM_some hv85)) m_Hp_append q_879 (hy_recv hX hP 0 9 (by decide) rfl rfl) rfl rfl (Nat.le_of_ble_eq_true rfl) dL_metres_142 ⟨Nat.le_of_ble_eq_true rfl, Nat.le_of_ble_eq_true rfl⟩ ⟨by decide, by decide⟩) hS (fun H locs hP hS => ?_)
                refine lv_iinc (v := (x9 + 1)) (lv' := [(7, .int (x9 + 1)), (6, .int (x8 + (v65 - v62))), (12, .int v62), (0, .ref (adr G1 0)), (1, .int a1), (2, .int a2), (3, .ref (adr G1 34)), (4, .ref (adr G1 30)), (5, .ref (adr G1 31)), (8, .int v1), (9, .int ((if a2 ≤ 0 then 2 else (if 9 ≤ a2 then 2 else a2)) : Int32)), (10, .ref (adr G1 35)), (11, .int x10)]) hx hb dL_metres_145 hl (k := 8) rfl rfl (by decide) rfl (fun ls hl => ?_)
                refine lv_iload hx hb dL_metres_148 (lv_at hl 0 rfl) ?_
                refine lv_icmp_ne (tgt := 219) hx hb dL_metres_150 (by decide) (fun c87 => ?_) (fun c87 => ?_)
                · rw [if_neg c87] at h
                  refine lv_iconst (v := 0) hx hb dL_metres_219 rfl ?_
                  exact hy_zret (T := (C86, M64, Mo)) hx hb hr hlocks hP hS (by decide) (by decide) (bI_nar false) (by rw [← (hq _ (Option.some.inj h).symm).symm] <;> rfl) dL_metres_220
                · rw [if_pos (c87)] at h
                  refine lv_aload hx hb dL_metres_153 (lv_at hl 11 rfl) ?_
                  refine lv_iload hx hb dL_metres_155 (lv_at hl 12 rfl) ?_
                  obtain ⟨v88, hv88, h⟩ := hy_bind h
                  obtain ⟨nv88, hv88⟩ := ldE_some hv88
                  refine hy_iald (T := (C86, M64, Mo)) hx hb hX hP 35 9 (M64.1 35) (by omega) rfl nv88 dL_metres_157 ?_
                  rw [hv88]
                  refine lv_bipush (v := 9) hx hb dL_metres_158 rfl ?_
                  refine lv_icmp_le (tgt := 186) hx hb dL_metres_160 (by decide) (fun c89 => ?_) (fun c89 => ?_)
                  · rw [if_pos c89] at h
                    refine lv_aload_n hx hb dL_metres_186 rfl (lv_at hl 3 rfl) ?_
                    refine lv_bipush (v := 48) hx hb dL_metres_187 rfl ?_
                    refine lv_aload hx hb dL_metres_189 (lv_at hl 11 rfl) ?_
                    refine lv_iload hx hb dL_metres_191 (lv_at hl 12 rfl) ?_
                    obtain ⟨v90, hv90, h⟩ := hy_bind h
                    obtain ⟨nv90, hv90⟩ := ldE_some hv90
                    refine hy_iald (T := (C86, M64, Mo)) hx hb hX hP 35 9 (M64.1 35) (by omega) rfl nv90 dL_metres_193 ?_
                    rw [hv90]
                    refine lv_bipush (v := 10) hx hb dL_metres_194 rfl ?_
                    refine lv_irem hx hb dL_metres_196 (by decide) ?_
                    refine lv_iadd hx hb dL_metres_197 ?_
                    obtain ⟨⟨v91, C92⟩, hv91, h⟩ := hy_bind h
                    try dsimp only at h
                    refine hy_ret (hy_rV0 (T := (C86, M64, Mo)) (v := some (.int v91)) (T2 := (C92, M64, Mo)) (As := [.int (48 + (v90 - v90 / 10 * 10))]) (rest := []) (n := 0) hx hb hml hown hts hX hP hS hl (c_Hp_append hlt M64 Mo (48 + (v90 - v90 / 10 * 10)) C86 (res := (.inr v91, C92)) (rtM_some hv91)) m_Hp_append q_879 (hy_recv hX hP 0 9 (by decide) rfl rfl) rfl rfl (Nat.le_of_ble_eq_true rfl) dL_metres_198 ⟨Nat.le_of_ble_eq_true rfl, Nat.le_of_ble_eq_true rfl⟩ ⟨by decide, by decide⟩) hS (fun H locs hP hS => ?_)
                    refine lv_iinc (v := ((x9 + 1) + 1)) (lv' := [(7, .int ((x9 + 1) + 1)), (6, .int (x8 + (v65 - v62))), (12, .int v62), (0, .ref (adr G1 0)), (1, .int a1), (2, .int a2), (3, .ref (adr G1 34)), (4, .ref (adr G1 30)), (5, .ref (adr G1 31)), (8, .int v1), (9, .int ((if a2 ≤ 0 then 2 else (if 9 ≤ a2 then 2 else a2)) : Int32)), (10, .ref (adr G1 35)), (11, .int x10)]) hx hb dL_metres_201 hl (k := 0) rfl rfl (by decide) rfl (fun ls hl => ?_)
                    refine lv_iload hx hb dL_metres_204 (lv_at hl 0 rfl) ?_
                    refine lv_icmp_ne (tgt := 219) hx hb dL_metres_206 (by decide) (fun c93 => ?_) (fun c93 => ?_)
                    · rw [if_neg c93] at h
                      refine lv_iconst (v := 0) hx hb dL_metres_219 rfl ?_
                      exact hy_zret (T := (C92, M64, Mo)) hx hb hr hlocks hP hS (by decide) (by decide) (bI_nar false) (by rw [← (hq _ (Option.some.inj h).symm).symm] <;> rfl) dL_metres_220
                    · rw [if_pos (c93)] at h
                      refine lv_aload_n hx hb dL_metres_209 rfl (lv_at hl 3 rfl) ?_
                      refine lv_iconst (v := 1) hx hb dL_metres_210 rfl ?_
                      obtain ⟨v94, hv94, h⟩ := hy_bind h
                      refine hy_ret (hy_rV0 (T := (C92, M64, Mo)) (v := some (.int v94)) (T2 := (C92, M64, Mo)) (As := [.int 1]) (rest := []) (n := 0) hx hb hml hown hts hX hP hS hl (c_Hp_firstError M64 Mo true C92 hv94) m_Hp_firstError q_904 (hy_recv hX hP 0 9 (by decide) rfl rfl) rfl rfl (Nat.le_of_ble_eq_true rfl) dL_metres_211 ⟨Nat.le_of_ble_eq_true rfl, Nat.le_of_ble_eq_true rfl⟩ ⟨by decide, by decide⟩) hS (fun H locs hP hS => ?_)
                      refine lv_iload hx hb dL_metres_214 (lv_at hl 0 rfl) ?_
                      refine lv_icmp_eq (tgt := 221) hx hb dL_metres_216 (by decide) (fun c95 => ?_) (fun c95 => ?_)
                      · rw [if_pos c95] at h
                        refine lv_iinc (v := (x10 + 1)) (lv' := [(11, .int (x10 + 1)), (7, .int ((x9 + 1) + 1)), (6, .int (x8 + (v65 - v62))), (12, .int v62), (0, .ref (adr G1 0)), (1, .int a1), (2, .int a2), (3, .ref (adr G1 34)), (4, .ref (adr G1 30)), (5, .ref (adr G1 31)), (8, .int v1), (9, .int ((if a2 ≤ 0 then 2 else (if 9 ≤ a2 then 2 else a2)) : Int32)), (10, .ref (adr G1 35))]) hx hb dL_metres_221 hl (k := 12) rfl rfl (by decide) rfl (fun ls hl => ?_)
                        refine lv_goto (tgt := 55) hx hb dL_metres_224 (by decide) ?_
                        exact ih (x8 + (v65 - v62)) ((x9 + 1) + 1) (x10 + 1) C92 M64 _ h hq _ _ ls hP hS (lv_sub hl [4, 5, 6, 7, 8, 9, 2, 1, 10, 11, 12, 0] rfl) kk
                      · rw [if_neg c95] at h
                        refine lv_iconst (v := 0) hx hb dL_metres_219 rfl ?_
                        exact hy_zret (T := (C92, M64, Mo)) hx hb hr hlocks hP hS (by decide) (by decide) (bI_nar false) (by rw [← (hq _ (Option.some.inj h).symm).symm] <;> rfl) dL_metres_220
                  · rw [if_neg c89] at h
                    refine lv_aload_n hx hb dL_metres_163 rfl (lv_at hl 3 rfl) ?_
                    refine lv_bipush (v := 48) hx hb dL_metres_164 rfl ?_
                    refine lv_aload hx hb dL_metres_166 (lv_at hl 11 rfl) ?_
                    refine lv_iload hx hb dL_metres_168 (lv_at hl 12 rfl) ?_
                    obtain ⟨v96, hv96, h⟩ := hy_bind h
                    obtain ⟨nv96, hv96⟩ := ldE_some hv96
                    refine hy_iald (T := (C86, M64, Mo)) hx hb hX hP 35 9 (M64.1 35) (by omega) rfl nv96 dL_metres_170 ?_
                    rw [hv96]
                    refine lv_bipush (v := 10) hx hb dL_metres_171 rfl ?_
                    refine lv_idiv hx hb dL_metres_173 (by decide) ?_
                    refine lv_iadd hx hb dL_metres_174 ?_
                    obtain ⟨⟨v97, C98⟩, hv97, h⟩ := hy_bind h
                    try dsimp only at h
                    refine hy_ret (hy_rV0 (T := (C86, M64, Mo)) (v := some (.int v97)) (T2 := (C98, M64, Mo)) (As := [.int (48 + (v96 / 10))]) (rest := []) (n := 0) hx hb hml hown hts hX hP hS hl (c_Hp_append hlt M64 Mo (48 + (v96 / 10)) C86 (res := (.inr v97, C98)) (rtM_some hv97)) m_Hp_append q_879 (hy_recv hX hP 0 9 (by decide) rfl rfl) rfl rfl (Nat.le_of_ble_eq_true rfl) dL_metres_175 ⟨Nat.le_of_ble_eq_true rfl, Nat.le_of_ble_eq_true rfl⟩ ⟨by decide, by decide⟩) hS (fun H locs hP hS => ?_)
                    refine lv_iinc (v := ((x9 + 1) + 1)) (lv' := [(7, .int ((x9 + 1) + 1)), (6, .int (x8 + (v65 - v62))), (12, .int v62), (0, .ref (adr G1 0)), (1, .int a1), (2, .int a2), (3, .ref (adr G1 34)), (4, .ref (adr G1 30)), (5, .ref (adr G1 31)), (8, .int v1), (9, .int ((if a2 ≤ 0 then 2 else (if 9 ≤ a2 then 2 else a2)) : Int32)), (10, .ref (adr G1 35)), (11, .int x10)]) hx hb dL_metres_178 hl (k := 0) rfl rfl (by decide) rfl (fun ls hl => ?_)
                    refine lv_iload hx hb dL_metres_181 (lv_at hl 0 rfl) ?_
                    refine lv_icmp_ne (tgt := 219) hx hb dL_metres_183 (by decide) (fun c99 => ?_) (fun c99 => ?_)
                    · rw [if_neg c99] at h
                      refine lv_iconst (v := 0) hx hb dL_metres_219 rfl ?_
                      exact hy_zret (T := (C98, M64, Mo)) hx hb hr hlocks hP hS (by decide) (by decide) (bI_nar false) (by rw [← (hq _ (Option.some.inj h).symm).symm] <;> rfl) dL_metres_220
                    · rw [if_pos (c99)] at h
                      refine lv_aload_n hx hb dL_metres_186 rfl (lv_at hl 3 rfl) ?_
                      refine lv_bipush (v := 48) hx hb dL_metres_187 rfl ?_
                      refine lv_aload hx hb dL_metres_189 (lv_at hl 11 rfl) ?_
                      refine lv_iload hx hb dL_metres_191 (lv_at hl 12 rfl) ?_
                      obtain ⟨v100, hv100, h⟩ := hy_bind h
                      obtain ⟨nv100, hv100⟩ := ldE_some hv100
                      refine hy_iald (T := (C98, M64, Mo)) hx hb hX hP 35 9 (M64.1 35) (by omega) rfl nv100 dL_metres_193 ?_
                      rw [hv100]
                      refine lv_bipush (v := 10) hx hb dL_metres_194 rfl ?_
                      refine lv_irem hx hb dL_metres_196 (by decide) ?_
                      refine lv_iadd hx hb dL_metres_197 ?_
                      obtain ⟨⟨v101, C102⟩, hv101, h⟩ := hy_bind h
                      try dsimp only at h
                      refine hy_ret (hy_rV0 (T := (C98, M64, Mo)) (v := some (.int v101)) (T2 := (C102, M64, Mo)) (As := [.int (48 + (v100 - v100 / 10 * 10))]) (rest := []) (n := 0) hx hb hml hown hts hX hP hS hl (c_Hp_append hlt M64 Mo (48 + (v100 - v100 / 10 * 10)) C98 (res := (.inr v101, C102)) (rtM_some hv101)) m_Hp_append q_879 (hy_recv hX hP 0 9 (by decide) rfl rfl) rfl rfl (Nat.le_of_ble_eq_true rfl) dL_metres_198 ⟨Nat.le_of_ble_eq_true rfl, Nat.le_of_ble_eq_true rfl⟩ ⟨by decide, by decide⟩) hS (fun H locs hP hS => ?_)
                      refine lv_iinc (v := (((x9 + 1) + 1) + 1)) (lv' := [(7, .int (((x9 + 1) + 1) + 1)), (6, .int (x8 + (v65 - v62))), (12, .int v62), (0, .ref (adr G1 0)), (1, .int a1), (2, .int a2), (3, .ref (adr G1 34)), (4, .ref (adr G1 30)), (5, .ref (adr G1 31)), (8, .int v1), (9, .int ((if a2 ≤ 0 then 2 else (if 9 ≤ a2 then 2 else a2)) : Int32)), (10, .ref (adr G1 35)), (11, .int x10)]) hx hb dL_metres_201 hl (k := 0) rfl rfl (by decide) rfl (fun ls hl => ?_)
                      refine lv_iload hx hb dL_metres_204 (lv_at hl 0 rfl) ?_
                      refine lv_icmp_ne (tgt := 219) hx hb dL_metres_206 (by decide) (fun c103 => ?_) (fun c103 => ?_)
                      · rw [if_neg c103] at h
                        refine lv_iconst (v := 0) hx hb dL_metres_219 rfl ?_
                        exact hy_zret (T := (C102, M64, Mo)) hx hb hr hlocks hP hS (by decide) (by decide) (bI_nar false) (by rw [← (hq _ (Option.some.inj h).symm).symm] <;> rfl) dL_metres_220
                      · rw [if_pos (c103)] at h
                        refine lv_aload_n hx hb dL_metres_209 rfl (lv_at hl 3 rfl) ?_
                        refine lv_iconst (v := 1) hx hb dL_metres_210 rfl ?_
                        obtain ⟨v104, hv104, h⟩ := hy_bind h
                        refine hy_ret (hy_rV0 (T := (C102, M64, Mo)) (v := some (.int v104)) (T2 := (C102, M64, Mo)) (As := [.int 1]) (rest := []) (n := 0) hx hb hml hown hts hX hP hS hl (c_Hp_firstError M64 Mo true C102 hv104) m_Hp_firstError q_904 (hy_recv hX hP 0 9 (by decide) rfl rfl) rfl rfl (Nat.le_of_ble_eq_true rfl) dL_metres_211 ⟨Nat.le_of_ble_eq_true rfl, Nat.le_of_ble_eq_true rfl⟩ ⟨by decide, by decide⟩) hS (fun H locs hP hS => ?_)
                        refine lv_iload hx hb dL_metres_214 (lv_at hl 0 rfl) ?_
                        refine lv_icmp_eq (tgt := 221) hx hb dL_metres_216 (by decide) (fun c105 => ?_) (fun c105 => ?_)
                        · rw [if_pos c105] at h
                          refine lv_iinc (v := (x10 + 1)) (lv' := [(11, .int (x10 + 1)), (7, .int (((x9 + 1) + 1) + 1)), (6, .int (x8 + (v65 - v62))), (12, .int v62), (0, .ref (adr G1 0)), (1, .int a1), (2, .int a2), (3, .ref (adr G1 34)), (4, .ref (adr G1 30)), (5, .ref (adr G1 31)), (8, .int v1), (9, .int ((if a2 ≤ 0 then 2 else (if 9 ≤ a2 then 2 else a2)) : Int32)), (10, .ref (adr G1 35))]) hx hb dL_metres_221 hl (k := 12) rfl rfl (by decide) rfl (fun ls hl => ?_)
                          refine lv_goto (tgt := 55) hx hb dL_metres_224 (by decide) ?_
                          exact ih (x8 + (v65 - v62)) (((x9 + 1) + 1) + 1) (x10 + 1) C102 M64 _ h hq _ _ ls hP hS (lv_sub hl [4, 5, 6, 7, 8, 9, 2, 1, 10, 11, 12, 0] rfl) kk
                        · rw [if_neg c105] at h
                          refine lv_iconst (v := 0) hx hb dL_metres_219 rfl ?_
                          exact hy_zret (T := (C102, M64, Mo)) hx hb hr hlocks hP hS (by decide) (by decide) (bI_nar false) (by rw [← (hq _ (Option.some.inj h).symm).symm] <;> rfl) dL_metres_220
      obtain ⟨q222, hq222, h⟩ := hy_bind h
      refine L106 hyFu 0 0 0 C7 (zM M 35) q222 hq222 (fun r9 e9 => by subst e9; exact (Option.some.inj h).symm) _ _ ls hP hS (lv_sub hl [3, 4, 5, 6, 7, 8, 9, 10, 11, 2, 1, 0] rfl) ?_
      intro y8 y9 y10 NC11 NM12 e9 H locs ls hP hS hl
      subst e9
      try dsimp only at h
      refine lv_iload_n hx hb dL_metres_227 rfl (lv_at hl 1 rfl) ?_
      refine lv_bipush (v := 9) hx hb dL_metres_228 rfl ?_
      refine lv_ishr hx hb dL_metres_230 ?_
      refine lv_iconst (v := 3) hx hb dL_metres_231 rfl ?_
      obtain ⟨v107, hv107, h⟩ := hy_bind h
      refine hy_ret (hy_rS0 (T := (NC11, NM12, Mo)) (v := some (.int v107)) (T2 := (NC11, NM12, Mo)) (As := [.int (a1 >>> (9 &&& 31)), .int 3]) (rest := []) (n := 0) hx hb hml hown hts hX hP hS hl (c_La_at NC11 Mo (a1 >>> (9 &&& 31)) 3 NM12 hv107) m_La_at q_641 rfl rfl (Nat.le_of_ble_eq_true rfl) dL_metres_232 ⟨Nat.le_of_ble_eq_true rfl, Nat.le_of_ble_eq_true rfl⟩ ⟨by decide, by decide⟩) hS (fun H locs hP hS => ?_)
      have J221 : ∀ (H : Heap) (locs : List Loc) (ls : Array Slot) (u1 : Int32), u1 = (bI (decide (v107 = 0))) → va_P G1.1 vwCl (wld G1 (NC11, NM12, Mo)) H → va_S (hyA G1) s.heap H locs → lv_has ls 14 [(0, .ref (adr G1 0)), (1, .int a1), (2, .int a2), (3, .ref (adr G1 34)), (4, .ref (adr G1 30)), (5, .ref (adr G1 31)), (6, .int y8), (7, .int y9), (8, .int v1), (9, .int ((if a2 ≤ 0 then 2 else (if 9 ≤ a2 then 2 else a2)) : Int32)), (10, .ref (adr G1 35)), (11, .int y10)] → W p l e { frames := 8, cells := 2, slots := 6 * 2, locals := 163 } s m ([.ref (adr G 0), .int a1, .int a2, .ref (adr G 34), .ref (adr G 30), .ref (adr G 31)] : List Value).toArray below meth c H locs 1 9 (vx_MQ below (hyQ G1 (.inr (some (.int (bI res.1))), (res.2.1, res.2.2, Mo))) (hyXQ G1 (.inr (some (.int (bI res.1))), (res.2.1, res.2.2, Mo))) ([.ref (adr G 0), .int a1, .int a2, .ref (adr G 34), .ref (adr G 30), .ref (adr G 31)] : List Value).toArray s 2 (6 * 2) (hyA G1)) (F0 m 243 ls [.int u1]) := by
        intro H locs ls u1 eu1 hP hS hl
        subst eu1
        refine lv_istore (lv' := [(11, .int (bI (decide (v107 = 0)))), (0, .ref (adr G1 0)), (1, .int a1), (2, .int a2), (3, .ref (adr G1 34)), (4, .ref (adr G1 30)), (5, .ref (adr G1 31)), (6, .int y8), (7, .int y9), (8, .int v1), (9, .int ((if a2 ≤ 0 then 2 else (if 9 ≤ a2 then 2 else a2)) : Int32)), (10, .ref (adr G1 35))]) hx hb dL_metres_243 hl (by decide) rfl (fun ls hl => ?_)
        refine lv_iload hx hb dL_metres_245 (lv_at hl 0 rfl) ?_
        refine lv_if_eq (tgt := 313) hx hb dL_metres_247 (by decide) (fun c109 => ?_) (fun c109 => ?_)
        · rw [if_neg (bI_0 c109)] at h
          refine lv_iload hx hb dL_metres_313 (lv_at hl 0 rfl) ?_
          refine lv_if_eq (tgt := 335) hx hb dL_metres_315 (by decide) (fun c110 => ?_) (fun c110 => ?_)
          · rw [if_neg (bI_0 c110)] at h
            refine lv_iload hx hb dL_metres_335 (lv_at hl 9 rfl) ?_
            refine lv_bipush (v := 8) hx hb dL_metres_337 rfl ?_
            refine lv_icmp_ne (tgt := 357) hx hb dL_metres_339 (by decide) (fun c111 => ?_) (fun c111 => ?_)
            · rw [if_neg c111] at h
              refine lv_aload_n hx hb dL_metres_357 rfl (lv_at hl 1 rfl) ?_
              obtain ⟨⟨v112, C113⟩, hv112, h⟩ := hy_bind h
              try dsimp only at h
              refine hy_ret (hy_rV0 (T := (NC11, NM12, Mo)) (v := some (.int v112)) (T2 := (C113, NM12, Mo)) (As := []) (rest := []) (n := 0) hx hb hml hown hts hX hP hS hl (c_Hp_addMetre hlt NM12 Mo NC11 (res := (.inr v112, C113)) (rtMb_some hv112)) m_Hp_addMetre q_934 (hy_recv hX hP 0 9 (by decide) rfl rfl) rfl rfl (Nat.le_of_ble_eq_true rfl) dL_metres_358 ⟨Nat.le_of_ble_eq_true rfl, Nat.le_of_ble_eq_true rfl⟩ ⟨by decide, by decide⟩) hS (fun H locs hP hS => ?_)
              refine lv_iload hx hb dL_metres_361 (lv_at hl 9 rfl) ?_
              refine lv_icmp_ne (tgt := 394) hx hb dL_metres_363 (by decide) (fun c114 => ?_) (fun c114 => ?_)
              · rw [if_neg c114] at h
                refine lv_iconst (v := 0) hx hb dL_metres_394 rfl ?_
                exact hy_zret (T := (C113, NM12, Mo)) hx hb hr hlocks hP hS (by decide) (by decide) (bI_nar false) (by rw [← (Option.some.inj h)] <;> rfl) dL_metres_395
              · rw [if_pos (c114)] at h
                refine lv_aload_n hx hb dL_metres_366 rfl (lv_at hl 1 rfl) ?_
                obtain ⟨⟨v115, C116⟩, hv115, h⟩ := hy_bind h
                try dsimp only at h
                refine hy_ret (hy_rV0 (T := (C113, NM12, Mo)) (v := some (.int v115)) (T2 := (C116, NM12, Mo)) (As := []) (rest := []) (n := 0) hx hb hml hown hts hX hP hS hl (c_Hp_clearInput NM12 Mo C113 (Option.some.inj hv115)) m_Hp_clearInput q_875 (hy_recv hX hP 0 9 (by decide) rfl rfl) rfl rfl (Nat.le_of_ble_eq_true rfl) dL_metres_367 ⟨Nat.le_of_ble_eq_true rfl, Nat.le_of_ble_eq_true rfl⟩ ⟨by decide, by decide⟩) hS (fun H locs hP hS => ?_)
                refine lv_if_ne (tgt := 394) hx hb dL_metres_370 (by decide) (fun c117 => ?_) (fun c117 => ?_)
                · rw [if_neg c117] at h
                  refine lv_iconst (v := 0) hx hb dL_metres_394 rfl ?_
                  exact hy_zret (T := (C116, NM12, Mo)) hx hb hr hlocks hP hS (by decide) (by decide) (bI_nar false) (by rw [← (Option.some.inj h)] <;> rfl) dL_metres_395
                · rw [if_pos (c117)] at h
                  refine lv_aload_n hx hb dL_metres_373 rfl (lv_at hl 1 rfl) ?_
                  refine lv_iload hx hb dL_metres_374 (lv_at hl 9 rfl) ?_
                  obtain ⟨v118, hv118, h⟩ := hy_bind h
                  refine hy_ret (hy_rV0 (T := (C116, NM12, Mo)) (v := some (.int v118)) (T2 := (C116, NM12, Mo)) (As := [.int v1]) (rest := []) (n := 0) hx hb hml hown hts hX hP hS hl (c_Hp_distance hlt NM12 Mo v1 C116 (res := .inr v118) (rtb_some hv118)) m_Hp_distance q_962 (hy_recv hX hP 0 9 (by decide) rfl rfl) rfl rfl (Nat.le_of_ble_eq_true rfl) dL_metres_376 ⟨Nat.le_of_ble_eq_true rfl, Nat.le_of_ble_eq_true rfl⟩ ⟨by decide, by decide⟩) hS (fun H locs hP hS => ?_)
                  refine lv_iload hx hb dL_metres_379 (lv_at hl 10 rfl) ?_
                  refine lv_iload_n hx hb dL_metres_381 rfl (lv_at hl 3 rfl) ?_
                  have J150 : ∀ (H : Heap) (locs : List Loc) (ls : Array Slot) (u1 : Int32), u1 = ((if ((if a2 ≤ 0 then 2 else (if 9 ≤ a2 then 2 else a2)) : Int32) = a2 then y8 else (-1)) : Int32) → va_P G1.1 vwCl (wld G1 (C116, NM12, Mo)) H → va_S (hyA G1) s.heap H locs → lv_has ls 14 [(0, .ref (adr G1 0)), (1, .int a1), (2, .int a2), (3, .ref (adr G1 34)), (4, .ref (adr G1 30)), (5, .ref (adr G1 31)), (6, .int y8), (7, .int y9), (8, .int v1), (9, .int ((if a2 ≤ 0 then 2 else (if 9 ≤ a2 then 2 else a2)) : Int32)), (10, .ref (adr G1 35)), (11, .int (bI (decide (v107 = 0))))] → W p l e { frames := 8, cells := 2, slots := 6 * 2, locals := 163 } s m ([.ref (adr G 0), .int a1, .int a2, .ref (adr G 34), .ref (adr G 30), .ref (adr G 31)] : List Value).toArray below meth c H locs 1 9 (vx_MQ below (hyQ G1 (.inr (some (.int (bI res.1))), (res.2.1, res.2.2, Mo))) (hyXQ G1 (.inr (some (.int (bI res.1))), (res.2.1, res.2.2, Mo))) ([.ref (adr G 0), .int a1, .int a2, .ref (adr G 34), .ref (adr G 30), .ref (adr G 31)] : List Value).toArray s 2 (6 * 2) (hyA G1)) (F0 m 391 ls [.int u1, .int v118]) := by
                    intro H locs ls u1 eu1 hP hS hl
                    subst eu1
                    refine lv_icmp_eq (tgt := 396) hx hb dL_metres_391 (by decide) (fun c120 => ?_) (fun c120 => ?_)
                    · rw [if_pos c120] at h
                      refine lv_iconst (v := 0) hx hb dL_metres_396 rfl ?_
                      refine lv_istore (lv' := [(12, .int 0), (0, .ref (adr G1 0)), (1, .int a1), (2, .int a2), (3, .ref (adr G1 34)), (4, .ref (adr G1 30)), (5, .ref (adr G1 31)), (6, .int y8), (7, .int y9), (8, .int v1), (9, .int ((if a2 ≤ 0 then 2 else (if 9 ≤ a2 then 2 else a2)) : Int32)), (10, .ref (adr G1 35)), (11, .int (bI (decide (v107 = 0))))]) hx hb dL_metres_397 hl (by decide) rfl (fun ls hl => ?_)
                      have L128 : ∀ (f : Nat) (x121 : Int32) (qL : ((Bool × hyM × hyM) ⊕ (Int32))) (h : La_metres_L399 a2 v1 NM12 C116 f x121 = some qL) (hq : ∀ r9, qL = .inl r9 → res = r9) (H : Heap) (locs : List Loc) (ls : Array Slot) (hP : va_P G1.1 vwCl (wld G1 (C116, NM12, Mo)) H) (hS : va_S (hyA G1) s.heap H locs) (hl : lv_has ls 14 [(0, .ref (adr G1 0)), (1, .int a1), (2, .int a2), (3, .ref (adr G1 34)), (4, .ref (adr G1 30)), (5, .ref (adr G1 31)), (6, .int y8), (7, .int y9), (8, .int v1), (9, .int ((if a2 ≤ 0 then 2 else (if 9 ≤ a2 then 2 else a2)) : Int32)), (10, .ref (adr G1 35)), (11, .int (bI (decide (v107 = 0)))), (12, .int x121)]) (kk : ∀ (y121 : Int32), qL = .inr (y121) → ∀ (H : Heap) (locs : List Loc) (ls : Array Slot), va_P G1.1 vwCl (wld G1 (C116, NM12, Mo)) H → va_S (hyA G1) s.heap H locs → lv_has ls 14 [(0, .ref (adr G1 0)), (1, .int a1), (2, .int a2), (3, .ref (adr G1 34)), (4, .ref (adr G1 30)), (5, .ref (adr G1 31)), (6, .int y8), (7, .int y9), (8, .int v1), (9, .int ((if a2 ≤ 0 then 2 else (if 9 ≤ a2 then 2 else a2)) : Int32)), (10, .ref (adr G1 35)), (11, .int (bI (decide (v107 = 0)))), (12, .int y121)] → W p l e { frames := 8, cells := 2, slots := 6 * 2, locals := 163 } s m ([.ref (adr G 0), .int a1, .int a2, .ref (adr G 34), .ref (adr G 30), .ref (adr G 31)] : List Value).toArray below meth c H locs 1 9 (vx_MQ below (hyQ G1 (.inr (some (.int (bI res.1))), (res.2.1, res.2.2, Mo))) (hyXQ G1 (.inr (some (.int (bI res.1))), (res.2.1, res.2.2, Mo))) ([.ref (adr G 0), .int a1, .int a2, .ref (adr G 34), .ref (adr G 30), .ref (adr G 31)] : List Value).toArray s 2 (6 * 2) (hyA G1)) (F0 m 441 ls [])), W p l e { frames := 8, cells := 2, slots := 6 * 2, locals := 163 } s m ([.ref (adr G 0), .int a1, .int a2, .ref (adr G 34), .ref (adr G 30), .ref (adr G 31)] : List Value).toArray below meth c H locs 1 9 (vx_MQ below (hyQ G1 (.inr (some (.int (bI res.1))), (res.2.1, res.2.2, Mo))) (hyXQ G1 (.inr (some (.int (bI res.1))), (res.2.1, res.2.2, Mo))) ([.ref (adr G 0), .int a1, .int a2, .ref (adr G 34), .ref (adr G 30), .ref (adr G 31)] : List Value).toArray s 2 (6 * 2) (hyA G1)) (F0 m 399 ls []) := by
                        intro f
                        induction f with
                        | zero =>
                          intro x121 qL h hq H locs ls hP hS hl kk
                          rw [La_metres_L399] at h
                          cases h
                        | succ f ih =>
                          intro x121 qL h hq H locs ls hP hS hl kk
                          rw [La_metres_L399] at h
                          refine lv_iload hx hb dL_metres_399 (lv_at hl 12 rfl) ?_
                          refine lv_iload hx hb dL_metres_401 (lv_at hl 9 rfl) ?_
                          refine lv_icmp_gt (tgt := 441) hx hb dL_metres_403 (by decide) (fun c122 => ?_) (fun c122 => ?_)
                          · rw [if_pos c122] at h
                            exact kk x121 (Option.some.inj h).symm _ _ ls hP hS (lv_sub hl [0, 1, 2, 3, 4, 5, 6, 7, 8, 9, 10, 11, 12] rfl)
                          · rw [if_neg c122] at h
                            refine lv_aload_n hx hb dL_metres_406 rfl (lv_at hl 0 rfl) ?_
                            refine lv_iload hx hb dL_metres_407 (lv_at hl 8 rfl) ?_
                            refine lv_iload hx hb dL_metres_409 (lv_at hl 12 rfl) ?_
                            obtain ⟨v123, hv123, h⟩ := hy_bind h
                            refine hy_ret (hy_rV0 (T := (C116, NM12, Mo)) (v := some (.int v123)) (T2 := (C116, NM12, Mo)) (As := [.int v1, .int x121]) (rest := []) (n := 0) hx hb hml hown hts hX hP hS hl (c_Hp_metre hlt NM12 Mo v1 x121 C116 (res := .inr v123) (rt_some hv123)) m_Hp_metre q_966 (hy_recv hX hP 0 9 (by decide) rfl rfl) rfl rfl (Nat.le_of_ble_eq_true rfl) dL_metres_411 ⟨Nat.le_of_ble_eq_true rfl, Nat.le_of_ble_eq_true rfl⟩ ⟨by decide, by decide⟩) hS (fun H locs hP hS => ?_)
                            refine lv_iload hx hb dL_metres_414 (lv_at hl 12 rfl) ?_
                            refine lv_iload hx hb dL_metres_416 (lv_at hl 9 rfl) ?_
                            refine lv_icmp_ge (tgt := 429) hx hb dL_metres_418 (by decide) (fun c124 => ?_) (fun c124 => ?_)
                            · rw [if_pos c124] at h
                              refine lv_iconst (v := (-1)) hx hb dL_metres_429 rfl ?_
                              refine lv_icmp_eq (tgt := 435) hx hb dL_metres_430 (by decide) (fun c125 => ?_) (fun c125 => ?_)
                              · rw [if_pos c125] at h
                                refine lv_iinc (v := (x121 + 1)) (lv' := [(12, .int (x121 + 1)), (0, .ref (adr G1 0)), (1, .int a1), (2, .int a2), (3, .ref (adr G1 34)), (4, .ref (adr G1 30)), (5, .ref (adr G1 31)), (6, .int y8), (7, .int y9), (8, .int v1), (9, .int ((if a2 ≤ 0 then 2 else (if 9 ≤ a2 then 2 else a2)) : Int32)), (10, .ref (adr G1 35)), (11, .int (bI (decide (v107 = 0))))]) hx hb dL_metres_435 hl (k := 12) rfl rfl (by decide) rfl (fun ls hl => ?_)
                                refine lv_goto (tgt := 399) hx hb dL_metres_438 (by decide) ?_
                                exact ih (x121 + 1) _ h hq _ _ ls hP hS (lv_sub hl [1, 2, 3, 4, 5, 6, 7, 8, 9, 10, 11, 12, 0] rfl) kk
                              · rw [if_neg c125] at h
                                refine lv_iconst (v := 0) hx hb dL_metres_433 rfl ?_
                                exact hy_zret (T := (C116, NM12, Mo)) hx hb hr hlocks hP hS (by decide) (by decide) (bI_nar false) (by rw [← (hq _ (Option.some.inj h).symm).symm] <;> rfl) dL_metres_434
                            · rw [if_neg c124] at h
                              refine lv_aload hx hb dL_metres_421 (lv_at hl 10 rfl) ?_
                              refine lv_iload hx hb dL_metres_423 (lv_at hl 12 rfl) ?_
                              obtain ⟨v126, hv126, h⟩ := hy_bind h
                              obtain ⟨nv126, hv126⟩ := ldE_some hv126
                              refine hy_iald (T := (C116, NM12, Mo)) hx hb hX hP 35 9 (NM12.1 35) (by omega) rfl nv126 dL_metres_425 ?_
                              rw [hv126]
                              refine lv_goto (tgt := 430) hx hb dL_metres_426 (by decide) ?_
                              refine lv_icmp_eq (tgt := 435) hx hb dL_metres_430 (by decide) (fun c127 => ?_) (fun c127 => ?_)
                              · rw [if_pos c127] at h
                                refine lv_iinc (v := (x121 + 1)) (lv' := [(12, .int (x121 + 1)), (0, .ref (adr G1 0)), (1, .int a1), (2, .int a2), (3, .ref (adr G1 34)), (4, .ref (adr G1 30)), (5, .ref (adr G1 31)), (6, .int y8), (7, .int y9), (8, .int v1), (9, .int ((if a2 ≤ 0 then 2 else (if 9 ≤ a2 then 2 else a2)) : Int32)), (10, .ref (adr G1 35)), (11, .int (bI (decide (v107 = 0))))]) hx hb dL_metres_435 hl (k := 12) rfl rfl (by decide) rfl (fun ls hl => ?_)
                                refine lv_goto (tgt := 399) hx hb dL_metres_438 (by decide) ?_
                                exact ih (x121 + 1) _ h hq _ _ ls hP hS (lv_sub hl [1, 2, 3, 4, 5, 6, 7, 8, 9, 10, 11, 12, 0] rfl) kk
                              · rw [if_neg c127] at h
                                refine lv_iconst (v := 0) hx hb dL_metres_433 rfl ?_
                                exact hy_zret (T := (C116, NM12, Mo)) hx hb hr hlocks hP hS (by decide) (by decide) (bI_nar false) (by rw [← (hq _ (Option.some.inj h).symm).symm] <;> rfl) dL_metres_434
                      obtain ⟨q149, hq149, h⟩ := hy_bind h
                      refine L128 hyFu 0 q149 hq149 (fun r9 e9 => by subst e9; exact (Option.some.inj h).symm) _ _ ls hP hS (lv_sub hl [1, 2, 3, 4, 5, 6, 7, 8, 9, 10, 11, 12, 0] rfl) ?_
                      intro y121 e9 H locs ls hP hS hl
                      subst e9
                      try dsimp only at h
                      refine lv_iconst (v := (-1)) hx hb dL_metres_441 rfl ?_
                      refine lv_istore (lv' := [(12, .int (-1)), (0, .ref (adr G1 0)), (1, .int a1), (2, .int a2), (3, .ref (adr G1 34)), (4, .ref (adr G1 30)), (5, .ref (adr G1 31)), (6, .int y8), (7, .int y9), (8, .int v1), (9, .int ((if a2 ≤ 0 then 2 else (if 9 ≤ a2 then 2 else a2)) : Int32)), (10, .ref (adr G1 35)), (11, .int (bI (decide (v107 = 0))))]) hx hb dL_metres_442 hl (by decide) rfl (fun ls hl => ?_)
                      refine lv_iload hx hb dL_metres_444 (lv_at hl 9 rfl) ?_
                      refine lv_istore (lv' := [(13, .int v1), (12, .int (-1)), (0, .ref (adr G1 0)), (1, .int a1), (2, .int a2), (3, .ref (adr G1 34)), (4, .ref (adr G1 30)), (5, .ref (adr G1 31)), (6, .int y8), (7, .int y9), (8, .int v1), (9, .int ((if a2 ≤ 0 then 2 else (if 9 ≤ a2 then 2 else a2)) : Int32)), (10, .ref (adr G1 35)), (11, .int (bI (decide (v107 = 0))))]) hx hb dL_metres_446 hl (by decide) rfl (fun ls hl => ?_)
                      have L139 : ∀ (f : Nat) (x129 : Int32) (x130 : Int32) (qL : (Int32 × Int32)) (h : La_metres_L448 C116 f x129 x130 = some qL) (H : Heap) (locs : List Loc) (ls : Array Slot) (hP : va_P G1.1 vwCl (wld G1 (C116, NM12, Mo)) H) (hS : va_S (hyA G1) s.heap H locs) (hl : lv_has ls 14 [(0, .ref (adr G1 0)), (1, .int a1), (2, .int a2), (3, .ref (adr G1 34)), (4, .ref (adr G1 30)), (5, .ref (adr G1 31)), (6, .int y8), (7, .int y9), (8, .int v1), (9, .int ((if a2 ≤ 0 then 2 else (if 9 ≤ a2 then 2 else a2)) : Int32)), (10, .ref (adr G1 35)), (11, .int (bI (decide (v107 = 0)))), (12, .int x129), (13, .int x130)]) (kk : ∀ (y129 : Int32) (y130 : Int32), qL = (y129, y130) → ∀ (H : Heap) (locs : List Loc) (ls : Array Slot), va_P G1.1 vwCl (wld G1 (C116, NM12, Mo)) H → va_S (hyA G1) s.heap H locs → lv_has ls 14 [(0, .ref (adr G1 0)), (1, .int a1), (2, .int a2), (3, .ref (adr G1 34)), (4, .ref (adr G1 30)), (5, .ref (adr G1 31)), (6, .int y8), (7, .int y9), (8, .int v1), (9, .int ((if a2 ≤ 0 then 2 else (if 9 ≤ a2 then 2 else a2)) : Int32)), (10, .ref (adr G1 35)), (11, .int (bI (decide (v107 = 0)))), (12, .int y129), (13, .int y130)] → W p l e { frames := 8, cells := 2, slots := 6 * 2, locals := 163 } s m ([.ref (adr G 0), .int a1, .int a2, .ref (adr G 34), .ref (adr G 30), .ref (adr G 31)] : List Value).toArray below meth c H locs 1 9 (vx_MQ below (hyQ G1 (.inr (some (.int (bI res.1))), (res.2.1, res.2.2, Mo))) (hyXQ G1 (.inr (some (.int (bI res.1))), (res.2.1, res.2.2, Mo))) ([.ref (adr G 0), .int a1, .int a2, .ref (adr G 34), .ref (adr G 30), .ref (adr G 31)] : List Value).toArray s 2 (6 * 2) (hyA G1)) (F0 m 492 ls [])), W p l e { frames := 8, cells := 2, slots := 6 * 2, locals := 163 } s m ([.ref (adr G 0), .int a1, .int a2, .ref (adr G 34), .ref (adr G 30), .ref (adr G 31)] : List Value).toArray below meth c H locs 1 9 (vx_MQ below (hyQ G1 (.inr (some (.int (bI res.1))), (res.2.1, res.2.2, Mo))) (hyXQ G1 (.inr (some (.int (bI res.1))), (res.2.1, res.2.2, Mo))) ([.ref (adr G 0), .int a1, .int a2, .ref (adr G 34), .ref (adr G 30), .ref (adr G 31)] : List Value).toArray s 2 (6 * 2) (hyA G1)) (F0 m 448 ls []) := by
                        intro f
                        induction f with
                        | zero =>
                          intro x129 x130 qL h H locs ls hP hS hl kk
                          rw [La_metres_L448] at h
                          cases h
                        | succ f ih =>
                          intro x129 x130 qL h H locs ls hP hS hl kk
                          rw [La_metres_L448] at h
                          refine lv_iload hx hb dL_metres_448 (lv_at hl 13 rfl) ?_
                          refine lv_if_lt (tgt := 492) hx hb dL_metres_450 (by decide) (fun c131 => ?_) (fun c131 => ?_)
                          · rw [if_pos c131] at h
                            exact kk x129 x130 (Option.some.inj h).symm _ _ ls hP hS (lv_sub hl [0, 1, 2, 3, 4, 5, 6, 7, 8, 9, 10, 11, 12, 13] rfl)
                          · rw [if_neg c131] at h
                            refine lv_aload_n hx hb dL_metres_453 rfl (lv_at hl 0 rfl) ?_
                            refine lv_iload hx hb dL_metres_454 (lv_at hl 13 rfl) ?_
                            obtain ⟨v132, hv132, h⟩ := hy_bind h
                            refine hy_ret (hy_rV0 (T := (C116, NM12, Mo)) (v := some (.int v132)) (T2 := (C116, NM12, Mo)) (As := [.int x130]) (rest := []) (n := 0) hx hb hml hown hts hX hP hS hl (c_Hp_distance hlt NM12 Mo x130 C116 (res := .inr v132) (rtb_some hv132)) m_Hp_distance q_962 (hy_recv hX hP 0 9 (by decide) rfl rfl) rfl rfl (Nat.le_of_ble_eq_true rfl) dL_metres_456 ⟨Nat.le_of_ble_eq_true rfl, Nat.le_of_ble_eq_true rfl⟩ ⟨by decide, by decide⟩) hS (fun H locs hP hS => ?_)
                            refine lv_if_lt (tgt := 486) hx hb dL_metres_459 (by decide) (fun c133 => ?_) (fun c133 => ?_)
                            · rw [if_pos c133] at h
                              refine lv_iinc (v := (x130 + (-1))) (lv' := [(13, .int (x130 + (-1))), (0, .ref (adr G1 0)), (1, .int a1), (2, .int a2), (3, .ref (adr G1 34)), (4, .ref (adr G1 30)), (5, .ref (adr G1 31)), (6, .int y8), (7, .int y9), (8, .int v1), (9, .int ((if a2 ≤ 0 then 2 else (if 9 ≤ a2 then 2 else a2)) : Int32)), (10, .ref (adr G1 35)), (11, .int (bI (decide (v107 = 0)))), (12, .int x129)]) hx hb dL_metres_486 hl (k := 13) rfl rfl (by decide) rfl (fun ls hl => ?_)
                              refine lv_goto (tgt := 448) hx hb dL_metres_489 (by decide) ?_
                              exact ih x129 (x130 + (-1)) _ h  _ _ ls hP hS (lv_sub hl [1, 2, 3, 4, 5, 6, 7, 8, 9, 10, 11, 12, 13, 0] rfl) kk
                            · rw [if_neg c133] at h
                              refine lv_iload hx hb dL_metres_462 (lv_at hl 12 rfl) ?_
                              refine lv_if_lt (tgt := 482) hx hb dL_metres_464 (by decide) (fun c134 => ?_) (fun c134 => ?_)
                              · rw [if_pos c134] at h
                                refine lv_iload hx hb dL_metres_482 (lv_at hl 13 rfl) ?_
                                refine lv_istore (lv' := [(12, .int x130), (0, .ref (adr G1 0)), (1, .int a1), (2, .int a2), (3, .ref (adr G1 34)), (4, .ref (adr G1 30)), (5, .ref (adr G1 31)), (6, .int y8), (7, .int y9), (8, .int v1), (9, .int ((if a2 ≤ 0 then 2 else (if 9 ≤ a2 then 2 else a2)) : Int32)), (10, .ref (adr G1 35)), (11, .int (bI (decide (v107 = 0)))), (13, .int x130)]) hx hb dL_metres_484 hl (by decide) rfl (fun ls hl => ?_)
                                refine lv_iinc (v := (x130 + (-1))) (lv' := [(13, .int (x130 + (-1))), (12, .int x130), (0, .ref (adr G1 0)), (1, .int a1), (2, .int a2), (3, .ref (adr G1 34)), (4, .ref (adr G1 30)), (5, .ref (adr G1 31)), (6, .int y8), (7, .int y9), (8, .int v1), (9, .int ((if a2 ≤ 0 then 2 else (if 9 ≤ a2 then 2 else a2)) : Int32)), (10, .ref (adr G1 35)), (11, .int (bI (decide (v107 = 0))))]) hx hb dL_metres_486 hl (k := 13) rfl rfl (by decide) rfl (fun ls hl => ?_)
                                refine lv_goto (tgt := 448) hx hb dL_metres_489 (by decide) ?_
                                exact ih x130 (x130 + (-1)) _ h  _ _ ls hP hS (lv_sub hl [2, 3, 4, 5, 6, 7, 8, 9, 10, 11, 12, 13, 1, 0] rfl) kk
                              · rw [if_neg c134] at h
                                refine lv_aload_n hx hb dL_metres_467 rfl (lv_at hl 0 rfl) ?_
                                refine lv_iload hx hb dL_metres_468 (lv_at hl 13 rfl) ?_
                                obtain ⟨v135, hv135, h⟩ := hy_bind h
                                refine hy_ret (hy_rV0 (T := (C116, NM12, Mo)) (v := some (.int v135)) (T2 := (C116, NM12, Mo)) (As := [.int x130]) (rest := []) (n := 0) hx hb hml hown hts hX hP hS hl (c_Hp_distance hlt NM12 Mo x130 C116 (res := .inr v135) (rtb_some hv135)) m_Hp_distance q_962 (hy_recv hX hP 0 9 (by decide) rfl rfl) rfl rfl (Nat.le_of_ble_eq_true rfl) dL_metres_470 ⟨Nat.le_of_ble_eq_true rfl, Nat.le_of_ble_eq_true rfl⟩ ⟨by decide, by decide⟩) hS (fun H locs hP hS => ?_)
                                refine lv_aload_n hx hb dL_metres_473 rfl (lv_at hl 0 rfl) ?_
                                refine lv_iload hx hb dL_metres_474 (lv_at hl 12 rfl) ?_
                                obtain ⟨v136, hv136, h⟩ := hy_bind h
                                refine hy_ret (hy_rV0 (T := (C116, NM12, Mo)) (v := some (.int v136)) (T2 := (C116, NM12, Mo)) (As := [.int x129]) (rest := [.int v135]) (n := 0) hx hb hml hown hts hX hP hS hl (c_Hp_distance hlt NM12 Mo x129 C116 (res := .inr v136) (rtb_some hv136)) m_Hp_distance q_962 (hy_recv hX hP 0 9 (by decide) rfl rfl) rfl rfl (Nat.le_of_ble_eq_true rfl) dL_metres_476 ⟨Nat.le_of_ble_eq_true rfl, Nat.le_of_ble_eq_true rfl⟩ ⟨by decide, by decide⟩) hS (fun H locs hP hS => ?_)
                                have J138 : ∀ (H : Heap) (locs : List Loc) (ls : Array Slot) (u1 : Int32), u1 = ((if v136 < v135 then x129 else x130) : Int32) → va_P G1.1 vwCl (wld G1 (C116, NM12, Mo)) H → va_S (hyA G1) s.heap H locs → lv_has ls 14 [(0, .ref (adr G1 0)), (1, .int a1), (2, .int a2), (3, .ref (adr G1 34)), (4, .ref (adr G1 30)), (5, .ref (adr G1 31)), (6, .int y8), (7, .int y9), (8, .int v1), (9, .int ((if a2 ≤ 0 then 2 else (if 9 ≤ a2 then 2 else a2)) : Int32)), (10, .ref (adr G1 35)), (11, .int (bI (decide (v107 = 0)))), (12, .int u1), (13, .int x130)] → W p l e { frames := 8, cells := 2, slots := 6 * 2, locals := 163 } s m ([.ref (adr G 0), .int a1, .int a2, .ref (adr G 34), .ref (adr G 30), .ref (adr G 31)] : List Value).toArray below meth c H locs 1 9 (vx_MQ below (hyQ G1 (.inr (some (.int (bI res.1))), (res.2.1, res.2.2, Mo))) (hyXQ G1 (.inr (some (.int (bI res.1))), (res.2.1, res.2.2, Mo))) ([.ref (adr G 0), .int a1, .int a2, .ref (adr G 34), .ref (adr G 30), .ref (adr G 31)] : List Value).toArray s 2 (6 * 2) (hyA G1)) (F0 m 486 ls []) := by
                                  intro H locs ls u1 eu1 hP hS hl
                                  subst eu1
                                  refine lv_iinc (v := (x130 + (-1))) (lv' := [(13, .int (x130 + (-1))), (0, .ref (adr G1 0)), (1, .int a1), (2, .int a2), (3, .ref (adr G1 34)), (4, .ref (adr G1 30)), (5, .ref (adr G1 31)), (6, .int y8), (7, .int y9), (8, .int v1), (9, .int ((if a2 ≤ 0 then 2 else (if 9 ≤ a2 then 2 else a2)) : Int32)), (10, .ref (adr G1 35)), (11, .int (bI (decide (v107 = 0)))), (12, .int ((if v136 < v135 then x129 else x130) : Int32))]) hx hb dL_metres_486 hl (k := 13) rfl rfl (by decide) rfl (fun ls hl => ?_)
                                  refine lv_goto (tgt := 448) hx hb dL_metres_489 (by decide) ?_
                                  exact ih ((if v136 < v135 then x129 else x130) : Int32) (x130 + (-1)) _ h  _ _ ls hP hS (lv_sub hl [1, 2, 3, 4, 5, 6, 7, 8, 9, 10, 11, 12, 13, 0] rfl) kk
                                refine lv_icmp_gt (tgt := 486) hx hb dL_metres_479 (by decide) (fun c137 => ?_) (fun c137 => ?_)
                                · exact J138 _ _ ls x129 (by rw [if_pos c137] <;> rfl) hP hS (lv_sub hl [0, 1, 2, 3, 4, 5, 6, 7, 8, 9, 10, 11, 12, 13] rfl)
                                · refine lv_iload hx hb dL_metres_482 (lv_at hl 13 rfl) ?_
                                  refine lv_istore (lv' := [(12, .int x130), (0, .ref (adr G1 0)), (1, .int a1), (2, .int a2), (3, .ref (adr G1 34)), (4, .ref (adr G1 30)), (5, .ref (adr G1 31)), (6, .int y8), (7, .int y9), (8, .int v1), (9, .int ((if a2 ≤ 0 then 2 else (if 9 ≤ a2 then 2 else a2)) : Int32)), (10, .ref (adr G1 35)), (11, .int (bI (decide (v107 = 0)))), (13, .int x130)]) hx hb dL_metres_484 hl (by decide) rfl (fun ls hl => ?_)
                                  exact J138 _ _ ls x130 (by rw [if_neg c137] <;> rfl) hP hS (lv_sub hl [1, 2, 3, 4, 5, 6, 7, 8, 9, 10, 11, 12, 0, 13] rfl)
                      obtain ⟨q148, hq148, h⟩ := hy_bind h
                      refine L139 hyFu (-1) v1 q148 hq148 _ _ ls hP hS (lv_sub hl [2, 3, 4, 5, 6, 7, 8, 9, 10, 11, 12, 13, 1, 0] rfl) ?_
                      intro y129 y130 e9 H locs ls hP hS hl
                      subst e9
                      try dsimp only at h
                      refine lv_aload_n hx hb dL_metres_492 rfl (lv_at hl 0 rfl) ?_
                      obtain ⟨v140, hv140, h⟩ := hy_bind h
                      refine hy_ret (hy_rV0 (T := (C116, NM12, Mo)) (v := some (.int v140)) (T2 := (C116, NM12, Mo)) (As := []) (rest := []) (n := 0) hx hb hml hown hts hX hP hS hl (c_Hp_nearest NM12 Mo C116 hv140) m_Hp_nearest q_552 (hy_recv hX hP 0 9 (by decide) rfl rfl) rfl rfl (Nat.le_of_ble_eq_true rfl) dL_metres_493 ⟨Nat.le_of_ble_eq_true rfl, Nat.le_of_ble_eq_true rfl⟩ ⟨by decide, by decide⟩) hS (fun H locs hP hS => ?_)
                      refine lv_iload hx hb dL_metres_496 (lv_at hl 12 rfl) ?_
                      refine lv_icmp_ne (tgt := 526) hx hb dL_metres_498 (by decide) (fun c141 => ?_) (fun c141 => ?_)
                      · rw [if_neg c141] at h
                        refine lv_iconst (v := 0) hx hb dL_metres_526 rfl ?_
                        exact hy_zret (T := (C116, NM12, Mo)) hx hb hr hlocks hP hS (by decide) (by decide) (bI_nar false) (by rw [← (Option.some.inj h)] <;> rfl) dL_metres_527
                      · rw [if_pos (c141)] at h
                        refine lv_iload_n hx hb dL_metres_501 rfl (lv_at hl 1 rfl) ?_
                        refine lv_iconst (v := 4) hx hb dL_metres_502 rfl ?_
                        refine lv_ishr hx hb dL_metres_503 ?_
                        refine lv_iconst (v := 3) hx hb dL_metres_504 rfl ?_
                        obtain ⟨v142, hv142, h⟩ := hy_bind h
                        refine hy_ret (hy_rS0 (T := (C116, NM12, Mo)) (v := some (.int v142)) (T2 := (C116, NM12, Mo)) (As := [.int (a1 >>> (4 &&& 31)), .int 3]) (rest := []) (n := 0) hx hb hml hown hts hX hP hS hl (c_La_at C116 Mo (a1 >>> (4 &&& 31)) 3 NM12 hv142) m_La_at q_641 rfl rfl (Nat.le_of_ble_eq_true rfl) dL_metres_505 ⟨Nat.le_of_ble_eq_true rfl, Nat.le_of_ble_eq_true rfl⟩ ⟨by decide, by decide⟩) hS (fun H locs hP hS => ?_)
                        refine lv_if_gt (tgt := 522) hx hb dL_metres_508 (by decide) (fun c143 => ?_) (fun c143 => ?_)
                        · rw [if_pos c143] at h
                          refine lv_iconst (v := 1) hx hb dL_metres_522 rfl ?_
                          refine lv_goto (tgt := 527) hx hb dL_metres_523 (by decide) ?_
                          exact hy_zret (T := (C116, NM12, Mo)) hx hb hr hlocks hP hS (by decide) (by decide) (bI_nar true) (by rw [← (Option.some.inj h)] <;> rfl) dL_metres_527
                        · rw [if_neg c143] at h
                          refine lv_aload_n hx hb dL_metres_511 rfl (lv_at hl 0 rfl) ?_
                          refine lv_iload hx hb dL_metres_512 (lv_at hl 8 rfl) ?_
                          obtain ⟨⟨v144, C145⟩, hv144, h⟩ := hy_bind h
                          try dsimp only at h
                          refine hy_ret (hy_rV0 (T := (C116, NM12, Mo)) (v := some (.int v144)) (T2 := (C145, NM12, Mo)) (As := [.int v1]) (rest := []) (n := 0) hx hb hml hown hts hX hP hS hl (c_Hp_dropMetre hlt NM12 Mo v1 C116 (res := (.inr v144, C145)) (rtMb_some hv144)) m_Hp_dropMetre q_970 (hy_recv hX hP 0 9 (by decide) rfl rfl) rfl rfl (Nat.le_of_ble_eq_true rfl) dL_metres_514 ⟨Nat.le_of_ble_eq_true rfl, Nat.le_of_ble_eq_true rfl⟩ ⟨by decide, by decide⟩) hS (fun H locs hP hS => ?_)
                          refine lv_iload hx hb dL_metres_517 (lv_at hl 8 rfl) ?_
                          have J147 : ∀ (H : Heap) (locs : List Loc) (ls : Array Slot) (u1 : Int32), u1 = (bI (decide (v144 = v1))) → va_P G1.1 vwCl (wld G1 (C145, NM12, Mo)) H → va_S (hyA G1) s.heap H locs → lv_has ls 14 [(0, .ref (adr G1 0)), (1, .int a1), (2, .int a2), (3, .ref (adr G1 34)), (4, .ref (adr G1 30)), (5, .ref (adr G1 31)), (6, .int y8), (7, .int y9), (8, .int v1), (9, .int ((if a2 ≤ 0 then 2 else (if 9 ≤ a2 then 2 else a2)) : Int32)), (10, .ref (adr G1 35)), (11, .int (bI (decide (v107 = 0)))), (12, .int y129), (13, .int y130)] → W p l e { frames := 8, cells := 2, slots := 6 * 2, locals := 163 } s m ([.ref (adr G 0), .int a1, .int a2, .ref (adr G 34), .ref (adr G 30), .ref (adr G 31)] : List Value).toArray below meth c H locs 1 9 (vx_MQ below (hyQ G1 (.inr (some (.int (bI res.1))), (res.2.1, res.2.2, Mo))) (hyXQ G1 (.inr (some (.int (bI res.1))), (res.2.1, res.2.2, Mo))) ([.ref (adr G 0), .int a1, .int a2, .ref (adr G 34), .ref (adr G 30), .ref (adr G 31)] : List Value).toArray s 2 (6 * 2) (hyA G1)) (F0 m 527 ls [.int u1]) := by
                            intro H locs ls u1 eu1 hP hS hl
                            subst eu1
                            exact hy_zret (T := (C145, NM12, Mo)) hx hb hr hlocks hP hS (by decide) (by decide) (bI_nar (decide (v144 = v1))) (by rw [← (Option.some.inj h)] <;> rfl) dL_metres_527
                          refine lv_icmp_ne (tgt := 526) hx hb dL_metres_519 (by decide) (fun c146 => ?_) (fun c146 => ?_)
                          · refine lv_iconst (v := 0) hx hb dL_metres_526 rfl ?_
                            exact J147 _ _ ls 0 (by rw [decide_eq_false c146] <;> rfl) hP hS (lv_sub hl [0, 1, 2, 3, 4, 5, 6, 7, 8, 9, 10, 11, 12, 13] rfl)
                          · refine lv_iconst (v := 1) hx hb dL_metres_522 rfl ?_
                            refine lv_goto (tgt := 527) hx hb dL_metres_523 (by decide) ?_
                            exact J147 _ _ ls 1 (by rw [decide_eq_true c146] <;> rfl) hP hS (lv_sub hl [0, 1, 2, 3, 4, 5, 6, 7, 8, 9, 10, 11, 12, 13] rfl)
                    · rw [if_neg c120] at h
                      refine lv_iconst (v := 0) hx hb dL_metres_394 rfl ?_
                      exact hy_zret (T := (C116, NM12, Mo)) hx hb hr hlocks hP hS (by decide) (by decide) (bI_nar false) (by rw [← (Option.some.inj h)] <;> rfl) dL_metres_395
                  refine lv_icmp_ne (tgt := 390) hx hb dL_metres_382 (by decide) (fun c119 => ?_) (fun c119 => ?_)
                  · refine lv_iconst (v := (-1)) hx hb dL_metres_390 rfl ?_
                    exact J150 _ _ ls (-1) (by rw [if_neg c119] <;> rfl) hP hS (lv_sub hl [1, 2, 3, 4, 5, 6, 7, 8, 9, 10, 11, 0] rfl)
                  · refine lv_iload hx hb dL_metres_385 (lv_at hl 7 rfl) ?_
                    refine lv_goto (tgt := 391) hx hb dL_metres_387 (by decide) ?_
                    exact J150 _ _ ls y8 (by rw [if_pos c119] <;> rfl) hP hS (lv_sub hl [1, 2, 3, 4, 5, 6, 7, 8, 9, 10, 11, 0] rfl)
            · rw [if_pos (c111)] at h
              refine lv_aload_n hx hb dL_metres_342 rfl (lv_at hl 1 rfl) ?_
              obtain ⟨⟨v151, C152⟩, hv151, h⟩ := hy_bind h
              try dsimp only at h
              refine hy_ret (hy_rV0 (T := (NC11, NM12, Mo)) (v := some (.int v151)) (T2 := (C152, NM12, Mo)) (As := []) (rest := []) (n := 0) hx hb hml hown hts hX hP hS hl (c_Hp_clearInput NM12 Mo NC11 (Option.some.inj hv151)) m_Hp_clearInput q_875 (hy_recv hX hP 0 9 (by decide) rfl rfl) rfl rfl (Nat.le_of_ble_eq_true rfl) dL_metres_343 ⟨Nat.le_of_ble_eq_true rfl, Nat.le_of_ble_eq_true rfl⟩ ⟨by decide, by decide⟩) hS (fun H locs hP hS => ?_)
              refine lv_iload hx hb dL_metres_346 (lv_at hl 8 rfl) ?_
              have J154 : ∀ (H : Heap) (locs : List Loc) (ls : Array Slot) (u1 : Int32), u1 = (bI (decide (v151 = y9))) → va_P G1.1 vwCl (wld G1 (C152, NM12, Mo)) H → va_S (hyA G1) s.heap H locs → lv_has ls 14 [(0, .ref (adr G1 0)), (1, .int a1), (2, .int a2), (3, .ref (adr G1 34)), (4, .ref (adr G1 30)), (5, .ref (adr G1 31)), (6, .int y8), (7, .int y9), (8, .int v1), (9, .int ((if a2 ≤ 0 then 2 else (if 9 ≤ a2 then 2 else a2)) : Int32)), (10, .ref (adr G1 35)), (11, .int (bI (decide (v107 = 0))))] → W p l e { frames := 8, cells := 2, slots := 6 * 2, locals := 163 } s m ([.ref (adr G 0), .int a1, .int a2, .ref (adr G 34), .ref (adr G 30), .ref (adr G 31)] : List Value).toArray below meth c H locs 1 9 (vx_MQ below (hyQ G1 (.inr (some (.int (bI res.1))), (res.2.1, res.2.2, Mo))) (hyXQ G1 (.inr (some (.int (bI res.1))), (res.2.1, res.2.2, Mo))) ([.ref (adr G 0), .int a1, .int a2, .ref (adr G 34), .ref (adr G 30), .ref (adr G 31)] : List Value).toArray s 2 (6 * 2) (hyA G1)) (F0 m 356 ls [.int u1]) := by
                intro H locs ls u1 eu1 hP hS hl
                subst eu1
                exact hy_zret (T := (C152, NM12, Mo)) hx hb hr hlocks hP hS (by decide) (by decide) (bI_nar (decide (v151 = y9))) (by rw [← (Option.some.inj h)] <;> rfl) dL_metres_356
              refine lv_icmp_ne (tgt := 355) hx hb dL_metres_348 (by decide) (fun c153 => ?_) (fun c153 => ?_)
              · refine lv_iconst (v := 0) hx hb dL_metres_355 rfl ?_
                exact J154 _ _ ls 0 (by rw [decide_eq_false c153] <;> rfl) hP hS (lv_sub hl [1, 2, 3, 4, 5, 6, 7, 8, 9, 10, 11, 0] rfl)
              · refine lv_iconst (v := 1) hx hb dL_metres_351 rfl ?_
                refine lv_goto (tgt := 356) hx hb dL_metres_352 (by decide) ?_
                exact J154 _ _ ls 1 (by rw [decide_eq_true c153] <;> rfl) hP hS (lv_sub hl [1, 2, 3, 4, 5, 6, 7, 8, 9, 10, 11, 0] rfl)
          · rw [if_pos (bI_1 c110)] at h
            refine lv_aload_n hx hb dL_metres_318 rfl (lv_at hl 1 rfl) ?_
            obtain ⟨⟨v155, C156⟩, hv155, h⟩ := hy_bind h
            try dsimp only at h
            refine hy_ret (hy_rV0 (T := (NC11, NM12, Mo)) (v := some (.int v155)) (T2 := (C156, NM12, Mo)) (As := []) (rest := []) (n := 0) hx hb hml hown hts hX hP hS hl (c_Hp_clearInput NM12 Mo NC11 (Option.some.inj hv155)) m_Hp_clearInput q_875 (hy_recv hX hP 0 9 (by decide) rfl rfl) rfl rfl (Nat.le_of_ble_eq_true rfl) dL_metres_319 ⟨Nat.le_of_ble_eq_true rfl, Nat.le_of_ble_eq_true rfl⟩ ⟨by decide, by decide⟩) hS (fun H locs hP hS => ?_)
            refine lv_iload hx hb dL_metres_322 (lv_at hl 8 rfl) ?_
            refine lv_iconst (v := 1) hx hb dL_metres_324 rfl ?_
            refine lv_iadd hx hb dL_metres_325 ?_
            have J158 : ∀ (H : Heap) (locs : List Loc) (ls : Array Slot) (u1 : Int32), u1 = (bI (decide (v155 = (y9 + 1)))) → va_P G1.1 vwCl (wld G1 (C156, NM12, Mo)) H → va_S (hyA G1) s.heap H locs → lv_has ls 14 [(0, .ref (adr G1 0)), (1, .int a1), (2, .int a2), (3, .ref (adr G1 34)), (4, .ref (adr G1 30)), (5, .ref (adr G1 31)), (6, .int y8), (7, .int y9), (8, .int v1), (9, .int ((if a2 ≤ 0 then 2 else (if 9 ≤ a2 then 2 else a2)) : Int32)), (10, .ref (adr G1 35)), (11, .int (bI (decide (v107 = 0))))] → W p l e { frames := 8, cells := 2, slots := 6 * 2, locals := 163 } s m ([.ref (adr G 0), .int a1, .int a2, .ref (adr G 34), .ref (adr G 30), .ref (adr G 31)] : List Value).toArray below meth c H locs 1 9 (vx_MQ below (hyQ G1 (.inr (some (.int (bI res.1))), (res.2.1, res.2.2, Mo))) (hyXQ G1 (.inr (some (.int (bI res.1))), (res.2.1, res.2.2, Mo))) ([.ref (adr G 0), .int a1, .int a2, .ref (adr G 34), .ref (adr G 30), .ref (adr G 31)] : List Value).toArray s 2 (6 * 2) (hyA G1)) (F0 m 334 ls [.int u1]) := by
              intro H locs ls u1 eu1 hP hS hl
              subst eu1
              exact hy_zret (T := (C156, NM12, Mo)) hx hb hr hlocks hP hS (by decide) (by decide) (bI_nar (decide (v155 = (y9 + 1)))) (by rw [← (Option.some.inj h)] <;> rfl) dL_metres_334
            refine lv_icmp_ne (tgt := 333) hx hb dL_metres_326 (by decide) (fun c157 => ?_) (fun c157 => ?_)
            · refine lv_iconst (v := 0) hx hb dL_metres_333 rfl ?_
              exact J158 _ _ ls 0 (by rw [decide_eq_false c157] <;> rfl) hP hS (lv_sub hl [1, 2, 3, 4, 5, 6, 7, 8, 9, 10, 11, 0] rfl)
            · refine lv_iconst (v := 1) hx hb dL_metres_329 rfl ?_
              refine lv_goto (tgt := 334) hx hb dL_metres_330 (by decide) ?_
              exact J158 _ _ ls 1 (by rw [decide_eq_true c157] <;> rfl) hP hS (lv_sub hl [1, 2, 3, 4, 5, 6, 7, 8, 9, 10, 11, 0] rfl)
        · rw [if_pos (bI_1 c109)] at h
          refine lv_aload_n hx hb dL_metres_250 rfl (lv_at hl 1 rfl) ?_
          refine lv_bipush (v := 46) hx hb dL_metres_251 rfl ?_
          obtain ⟨⟨v159, C160⟩, hv159, h⟩ := hy_bind h
          try dsimp only at h
          refine hy_ret (hy_rV0 (T := (NC11, NM12, Mo)) (v := some (.int v159)) (T2 := (C160, NM12, Mo)) (As := [.int 46]) (rest := []) (n := 0) hx hb hml hown hts hX hP hS hl (c_Hp_append hlt NM12 Mo 46 NC11 (res := (.inr v159, C160)) (rtM_some hv159)) m_Hp_append q_879 (hy_recv hX hP 0 9 (by decide) rfl rfl) rfl rfl (Nat.le_of_ble_eq_true rfl) dL_metres_253 ⟨Nat.le_of_ble_eq_true rfl, Nat.le_of_ble_eq_true rfl⟩ ⟨by decide, by decide⟩) hS (fun H locs hP hS => ?_)
          refine lv_iinc (v := (y9 + 1)) (lv' := [(7, .int (y9 + 1)), (11, .int (bI (decide (v107 = 0)))), (0, .ref (adr G1 0)), (1, .int a1), (2, .int a2), (3, .ref (adr G1 34)), (4, .ref (adr G1 30)), (5, .ref (adr G1 31)), (6, .int y8), (8, .int v1), (9, .int ((if a2 ≤ 0 then 2 else (if 9 ≤ a2 then 2 else a2)) : Int32)), (10, .ref (adr G1 35))]) hx hb dL_metres_256 hl (k := 8) rfl rfl (by decide) rfl (fun ls hl => ?_)
          refine lv_iload hx hb dL_metres_259 (lv_at hl 0 rfl) ?_
          refine lv_icmp_ne (tgt := 311) hx hb dL_metres_261 (by decide) (fun c161 => ?_) (fun c161 => ?_)
          · rw [if_neg c161] at h
            refine lv_iconst (v := 0) hx hb dL_metres_311 rfl ?_
            exact hy_zret (T := (C160, NM12, Mo)) hx hb hr hlocks hP hS (by decide) (by decide) (bI_nar false) (by rw [← (Option.some.inj h)] <;> rfl) dL_metres_312
          · rw [if_pos (c161)] at h
            refine lv_aload_n hx hb dL_metres_264 rfl (lv_at hl 2 rfl) ?_
            refine lv_bipush (v := 68) hx hb dL_metres_265 rfl ?_
            obtain ⟨⟨v162, C163⟩, hv162, h⟩ := hy_bind h
            try dsimp only at h
            refine hy_ret (hy_rV0 (T := (C160, NM12, Mo)) (v := some (.int v162)) (T2 := (C163, NM12, Mo)) (As := [.int 68]) (rest := []) (n := 0) hx hb hml hown hts hX hP hS hl (c_Hp_append hlt NM12 Mo 68 C160 (res := (.inr v162, C163)) (rtM_some hv162)) m_Hp_append q_879 (hy_recv hX hP 0 9 (by decide) rfl rfl) rfl rfl (Nat.le_of_ble_eq_true rfl) dL_metres_267 ⟨Nat.le_of_ble_eq_true rfl, Nat.le_of_ble_eq_true rfl⟩ ⟨by decide, by decide⟩) hS (fun H locs hP hS => ?_)
            refine lv_iinc (v := ((y9 + 1) + 1)) (lv' := [(7, .int ((y9 + 1) + 1)), (11, .int (bI (decide (v107 = 0)))), (0, .ref (adr G1 0)), (1, .int a1), (2, .int a2), (3, .ref (adr G1 34)), (4, .ref (adr G1 30)), (5, .ref (adr G1 31)), (6, .int y8), (8, .int v1), (9, .int ((if a2 ≤ 0 then 2 else (if 9 ≤ a2 then 2 else a2)) : Int32)), (10, .ref (adr G1 35))]) hx hb dL_metres_270 hl (k := 0) rfl rfl (by decide) rfl (fun ls hl => ?_)
            refine lv_iload hx hb dL_metres_273 (lv_at hl 0 rfl) ?_
            refine lv_icmp_ne (tgt := 311) hx hb dL_metres_275 (by decide) (fun c164 => ?_) (fun c164 => ?_)
            · rw [if_neg c164] at h
              refine lv_iconst (v := 0) hx hb dL_metres_311 rfl ?_
              exact hy_zret (T := (C163, NM12, Mo)) hx hb hr hlocks hP hS (by decide) (by decide) (bI_nar false) (by rw [← (Option.some.inj h)] <;> rfl) dL_metres_312
            · rw [if_pos (c164)] at h
              refine lv_aload_n hx hb dL_metres_278 rfl (lv_at hl 2 rfl) ?_
              refine lv_iconst (v := 1) hx hb dL_metres_279 rfl ?_
              obtain ⟨v165, hv165, h⟩ := hy_bind h
              refine hy_ret (hy_rV0 (T := (C163, NM12, Mo)) (v := some (.int v165)) (T2 := (C163, NM12, Mo)) (As := [.int 1]) (rest := []) (n := 0) hx hb hml hown hts hX hP hS hl (c_Hp_firstError NM12 Mo true C163 hv165) m_Hp_firstError q_904 (hy_recv hX hP 0 9 (by decide) rfl rfl) rfl rfl (Nat.le_of_ble_eq_true rfl) dL_metres_280 ⟨Nat.le_of_ble_eq_true rfl, Nat.le_of_ble_eq_true rfl⟩ ⟨by decide, by decide⟩) hS (fun H locs hP hS => ?_)
              refine lv_iload hx hb dL_metres_283 (lv_at hl 0 rfl) ?_
              refine lv_icmp_ne (tgt := 311) hx hb dL_metres_285 (by decide) (fun c166 => ?_) (fun c166 => ?_)
              · rw [if_neg c166] at h
                refine lv_iconst (v := 0) hx hb dL_metres_311 rfl ?_
                exact hy_zret (T := (C163, NM12, Mo)) hx hb hr hlocks hP hS (by decide) (by decide) (bI_nar false) (by rw [← (Option.some.inj h)] <;> rfl) dL_metres_312
              · rw [if_pos (c166)] at h
                refine lv_aload_n hx hb dL_metres_288 rfl (lv_at hl 2 rfl) ?_
                refine lv_bipush (v := 49) hx hb dL_metres_289 rfl ?_
                obtain ⟨⟨v167, C168⟩, hv167, h⟩ := hy_bind h
                try dsimp only at h
                refine hy_ret (hy_rV0 (T := (C163, NM12, Mo)) (v := some (.int v167)) (T2 := (C168, NM12, Mo)) (As := [.int 49]) (rest := []) (n := 0) hx hb hml hown hts hX hP hS hl (c_Hp_append hlt NM12 Mo 49 C163 (res := (.inr v167, C168)) (rtM_some hv167)) m_Hp_append q_879 (hy_recv hX hP 0 9 (by decide) rfl rfl) rfl rfl (Nat.le_of_ble_eq_true rfl) dL_metres_291 ⟨Nat.le_of_ble_eq_true rfl, Nat.le_of_ble_eq_true rfl⟩ ⟨by decide, by decide⟩) hS (fun H locs hP hS => ?_)
                refine lv_iload hx hb dL_metres_294 (lv_at hl 0 rfl) ?_
                refine lv_iconst (v := 1) hx hb dL_metres_296 rfl ?_
                refine lv_iadd hx hb dL_metres_297 ?_
                refine lv_icmp_ne (tgt := 311) hx hb dL_metres_298 (by decide) (fun c169 => ?_) (fun c169 => ?_)
                · rw [if_neg c169] at h
                  refine lv_iconst (v := 0) hx hb dL_metres_311 rfl ?_
                  exact hy_zret (T := (C168, NM12, Mo)) hx hb hr hlocks hP hS (by decide) (by decide) (bI_nar false) (by rw [← (Option.some.inj h)] <;> rfl) dL_metres_312
                · rw [if_pos (c169)] at h
                  refine lv_aload_n hx hb dL_metres_301 rfl (lv_at hl 2 rfl) ?_
                  refine lv_iconst (v := 1) hx hb dL_metres_302 rfl ?_
                  obtain ⟨v170, hv170, h⟩ := hy_bind h
                  refine hy_ret (hy_rV0 (T := (C168, NM12, Mo)) (v := some (.int v170)) (T2 := (C168, NM12, Mo)) (As := [.int 1]) (rest := []) (n := 0) hx hb hml hown hts hX hP hS hl (c_Hp_firstError NM12 Mo true C168 hv170) m_Hp_firstError q_904 (hy_recv hX hP 0 9 (by decide) rfl rfl) rfl rfl (Nat.le_of_ble_eq_true rfl) dL_metres_303 ⟨Nat.le_of_ble_eq_true rfl, Nat.le_of_ble_eq_true rfl⟩ ⟨by decide, by decide⟩) hS (fun H locs hP hS => ?_)
                  refine lv_iload hx hb dL_metres_306 (lv_at hl 0 rfl) ?_
                  refine lv_icmp_eq (tgt := 313) hx hb dL_metres_308 (by decide) (fun c171 => ?_) (fun c171 => ?_)
                  · rw [if_pos c171] at h
                    refine lv_iload hx hb dL_metres_313 (lv_at hl 1 rfl) ?_
                    refine lv_if_eq (tgt := 335) hx hb dL_metres_315 (by decide) (fun c172 => ?_) (fun c172 => ?_)
                    · rw [if_neg (bI_0 c172)] at h
                      refine lv_iload hx hb dL_metres_335 (lv_at hl 9 rfl) ?_
                      refine lv_bipush (v := 8) hx hb dL_metres_337 rfl ?_
                      refine lv_icmp_ne (tgt := 357) hx hb dL_metres_339 (by decide) (fun c173 => ?_) (fun c173 => ?_)
                      · rw [if_neg c173] at h
                        refine lv_aload_n hx hb dL_metres_357 rfl (lv_at hl 2 rfl) ?_
                        obtain ⟨⟨v174, C175⟩, hv174, h⟩ := hy_bind h
                        try dsimp only at h
                        refine hy_ret (hy_rV0 (T := (C168, NM12, Mo)) (v := some (.int v174)) (T2 := (C175, NM12, Mo)) (As := []) (rest := []) (n := 0) hx hb hml hown hts hX hP hS hl (c_Hp_addMetre hlt NM12 Mo C168 (res := (.inr v174, C175)) (rtMb_some hv174)) m_Hp_addMetre q_934 (hy_recv hX hP 0 9 (by decide) rfl rfl) rfl rfl (Nat.le_of_ble_eq_true rfl) dL_metres_358 ⟨Nat.le_of_ble_eq_true rfl, Nat.le_of_ble_eq_true rfl⟩ ⟨by decide, by decide⟩) hS (fun H locs hP hS => ?_)
                        refine lv_iload hx hb dL_metres_361 (lv_at hl 9 rfl) ?_
                        refine lv_icmp_ne (tgt := 394) hx hb dL_metres_363 (by decide) (fun c176 => ?_) (fun c176 => ?_)
                        · rw [if_neg c176] at h
                          refine lv_iconst (v := 0) hx hb dL_metres_394 rfl ?_
                          exact hy_zret (T := (C175, NM12, Mo)) hx hb hr hlocks hP hS (by decide) (by decide) (bI_nar false) (by rw [← (Option.some.inj h)] <;> rfl) dL_metres_395
                        · rw [if_pos (c176)] at h
                          refine lv_aload_n hx hb dL_metres_366 rfl (lv_at hl 2 rfl) ?_
                          obtain ⟨⟨v177, C178⟩, hv177, h⟩ := hy_bind h
                          try dsimp only at h
                          refine hy_ret (hy_rV0 (T := (C175, NM12, Mo)) (v := some (.int v177)) (T2 := (C178, NM12, Mo)) (As := []) (rest := []) (n := 0) hx hb hml hown hts hX hP hS hl (c_Hp_clearInput NM12 Mo C175 (Option.some.inj hv177)) m_Hp_clearInput q_875 (hy_recv hX hP 0 9 (by decide) rfl rfl) rfl rfl (Nat.le_of_ble_eq_true rfl) dL_metres_367 ⟨Nat.le_of_ble_eq_true rfl, Nat.le_of_ble_eq_true rfl⟩ ⟨by decide, by decide⟩) hS (fun H locs hP hS => ?_)
                          refine lv_if_ne (tgt := 394) hx hb dL_metres_370 (by decide) (fun c179 => ?_) (fun c179 => ?_)
                          · rw [if_neg c179] at h
                            refine lv_iconst (v := 0) hx hb dL_metres_394 rfl ?_
                            exact hy_zret (T := (C178, NM12, Mo)) hx hb hr hlocks hP hS (by decide) (by decide) (bI_nar false) (by rw [← (Option.some.inj h)] <;> rfl) dL_metres_395
                          · rw [if_pos (c179)] at h
                            refine lv_aload_n hx hb dL_metres_373 rfl (lv_at hl 2 rfl) ?_
                            refine lv_iload hx hb dL_metres_374 (lv_at hl 9 rfl) ?_
                            obtain ⟨v180, hv180, h⟩ := hy_bind h
                            refine hy_ret (hy_rV0 (T := (C178, NM12, Mo)) (v := some (.int v180)) (T2 := (C178, NM12, Mo)) (As := [.int v1]) (rest := []) (n := 0) hx hb hml hown hts hX hP hS hl (c_Hp_distance hlt NM12 Mo v1 C178 (res := .inr v180) (rtb_some hv180)) m_Hp_distance q_962 (hy_recv hX hP 0 9 (by decide) rfl rfl) rfl rfl (Nat.le_of_ble_eq_true rfl) dL_metres_376 ⟨Nat.le_of_ble_eq_true rfl, Nat.le_of_ble_eq_true rfl⟩ ⟨by decide, by decide⟩) hS (fun H locs hP hS => ?_)
                            refine lv_iload hx hb dL_metres_379 (lv_at hl 10 rfl) ?_
                            refine lv_iload_n hx hb dL_metres_381 rfl (lv_at hl 4 rfl) ?_
                            have J212 : ∀ (H : Heap) (locs : List Loc) (ls : Array Slot) (u1 : Int32), u1 = ((if ((if a2 ≤ 0 then 2 else (if 9 ≤ a2 then 2 else a2)) : Int32) = a2 then y8 else (-1)) : Int32) → va_P G1.1 vwCl (wld G1 (C178, NM12, Mo)) H → va_S (hyA G1) s.heap H locs → lv_has ls 14 [(0, .ref (adr G1 0)), (1, .int a1), (2, .int a2), (3, .ref (adr G1 34)), (4, .ref (adr G1 30)), (5, .ref (adr G1 31)), (6, .int y8), (7, .int ((y9 + 1) + 1)), (8, .int v1), (9, .int ((if a2 ≤ 0 then 2 else (if 9 ≤ a2 then 2 else a2)) : Int32)), (10, .ref (adr G1 35)), (11, .int (bI (decide (v107 = 0))))] → W p l e { frames := 8, cells := 2, slots := 6 * 2, locals := 163 } s m ([.ref (adr G 0), .int a1, .int a2, .ref (adr G 34), .ref (adr G 30), .ref (adr G 31)] : List Value).toArray below meth c H locs 1 9 (vx_MQ below (hyQ G1 (.inr (some (.int (bI res.1))), (res.2.1, res.2.2, Mo))) (hyXQ G1 (.inr (some (.int (bI res.1))), (res.2.1, res.2.2, Mo))) ([.ref (adr G 0), .int a1, .int a2, .ref (adr G 34), .ref (adr G 30), .ref (adr G 31)] : List Value).toArray s 2 (6 * 2) (hyA G1)) (F0 m 391 ls [.int u1, .int v180]) := by
                              intro H locs ls u1 eu1 hP hS hl
                              subst eu1
                              refine lv_icmp_eq (tgt := 396) hx hb dL_metres_391 (by decide) (fun c182 => ?_) (fun c182 => ?_)
                              · rw [if_pos c182] at h
                                refine lv_iconst (v := 0) hx hb dL_metres_396 rfl ?_
                                refine lv_istore (lv' := [(12, .int 0), (0, .ref (adr G1 0)), (1, .int a1), (2, .int a2), (3, .ref (adr G1 34)), (4, .ref (adr G1 30)), (5, .ref (adr G1 31)), (6, .int y8), (7, .int ((y9 + 1) + 1)), (8, .int v1), (9, .int ((if a2 ≤ 0 then 2 else (if 9 ≤ a2 then 2 else a2)) : Int32)), (10, .ref (adr G1 35)), (11, .int (bI (decide (v107 = 0))))]) hx hb dL_metres_397 hl (by decide) rfl (fun ls hl => ?_)
                                have L190 : ∀ (f : Nat) (x183 : Int32) (qL : ((Bool × hyM × hyM) ⊕ (Int32))) (h : La_metres_L399b a2 v1 NM12 C178 f x183 = some qL) (hq : ∀ r9, qL = .inl r9 → res = r9) (H : Heap) (locs : List Loc) (ls : Array Slot) (hP : va_P G1.1 vwCl (wld G1 (C178, NM12, Mo)) H) (hS : va_S (hyA G1) s.heap H locs) (hl : lv_has ls 14 [(0, .ref (adr G1 0)), (1, .int a1), (2, .int a2), (3, .ref (adr G1 34)), (4, .ref (adr G1 30)), (5, .ref (adr G1 31)), (6, .int y8), (7, .int ((y9 + 1) + 1)), (8, .int v1), (9, .int ((if a2 ≤ 0 then 2 else (if 9 ≤ a2 then 2 else a2)) : Int32)), (10, .ref (adr G1 35)), (11, .int (bI (decide (v107 = 0)))), (12, .int x183)]) (kk : ∀ (y183 : Int32), qL = .inr (y183) → ∀ (H : Heap) (locs : List Loc) (ls : Array Slot), va_P G1.1 vwCl (wld G1 (C178, NM12, Mo)) H → va_S (hyA G1) s.heap H locs → lv_has ls 14 [(0, .ref (adr G1 0)), (1, .int a1), (2, .int a2), (3, .ref (adr G1 34)), (4, .ref (adr G1 30)), (5, .ref (adr G1 31)), (6, .int y8), (7, .int ((y9 + 1) + 1)), (8, .int v1), (9, .int ((if a2 ≤ 0 then 2 else (if 9 ≤ a2 then 2 else a2)) : Int32)), (10, .ref (adr G1 35)), (11, .int (bI (decide (v107 = 0)))), (12, .int y183)] → W p l e { frames := 8, cells := 2, slots := 6 * 2, locals := 163 } s m ([.ref (adr G 0), .int a1, .int a2, .ref (adr G 34), .ref (adr G 30), .ref (adr G 31)] : List Value).toArray below meth c H locs 1 9 (vx_MQ below (hyQ G1 (.inr (some (.int (bI res.1))), (res.2.1, res.2.2, Mo))) (hyXQ G1 (.inr (some (.int (bI res.1))), (res.2.1, res.2.2, Mo))) ([.ref (adr G 0), .int a1, .int a2, .ref (adr G 34), .ref (adr G 30), .ref (adr G 31)] : List Value).toArray s 2 (6 * 2) (hyA G1)) (F0 m 441 ls [])), W p l e { frames := 8, cells := 2, slots := 6 * 2, locals := 163 } s m ([.ref (adr G 0), .int a1, .int a2, .ref (adr G 34), .ref (adr G 30), .ref (adr G 31)] : List Value).toArray below meth c H locs 1 9 (vx_MQ below (hyQ G1 (.inr (some (.int (bI res.1))), (res.2.1, res.2.2, Mo))) (hyXQ G1 (.inr (some (.int (bI res.1))), (res.2.1, res.2.2, Mo))) ([.ref (adr G 0), .int a1, .int a2, .ref (adr G 34), .ref (adr G 30), .ref (adr G 31)] : List Value).toArray s 2 (6 * 2) (hyA G1)) (F0 m 399 ls []) := by
                                  intro f
                                  induction f with
                                  | zero =>
                                    intro x183 qL h hq H locs ls hP hS hl kk
                                    rw [La_metres_L399b] at h
                                    cases h
                                  | succ f ih =>
                                    intro x183 qL h hq H locs ls hP hS hl kk
                                    rw [La_metres_L399b] at h
                                    refine lv_iload hx hb dL_metres_399 (lv_at hl 12 rfl) ?_
                                    refine lv_iload hx hb dL_metres_401 (lv_at hl 9 rfl) ?_
                                    refine lv_icmp_gt (tgt := 441) hx hb dL_metres_403 (by decide) (fun c184 => ?_) (fun c184 => ?_)
                                    · rw [if_pos c184] at h
                                      exact kk x183 (Option.some.inj h).symm _ _ ls hP hS (lv_sub hl [0, 1, 2, 3, 4, 5, 6, 7, 8, 9, 10, 11, 12] rfl)
                                    · rw [if_neg c184] at h
                                      refine lv_aload_n hx hb dL_metres_406 rfl (lv_at hl 0 rfl) ?_
                                      refine lv_iload hx hb dL_metres_407 (lv_at hl 8 rfl) ?_
                                      refine lv_iload hx hb dL_metres_409 (lv_at hl 12 rfl) ?_
                                      obtain ⟨v185, hv185, h⟩ := hy_bind h
                                      refine hy_ret (hy_rV0 (T := (C178, NM12, Mo)) (v := some (.int v185)) (T2 := (C178, NM12, Mo)) (As := [.int v1, .int x183]) (rest := []) (n := 0) hx hb hml hown hts hX hP hS hl (c_Hp_metre hlt NM12 Mo v1 x183 C178 (res := .inr v185) (rt_some hv185)) m_Hp_metre q_966 (hy_recv hX hP 0 9 (by decide) rfl rfl) rfl rfl (Nat.le_of_ble_eq_true rfl) dL_metres_411 ⟨Nat.le_of_ble_eq_true rfl, Nat.le_of_ble_eq_true rfl⟩ ⟨by decide, by decide⟩) hS (fun H locs hP hS => ?_)
                                      refine lv_iload hx hb dL_metres_414 (lv_at hl 12 rfl) ?_
                                      refine lv_iload hx hb dL_metres_416 (lv_at hl 9 rfl) ?_
                                      refine lv_icmp_ge (tgt := 429) hx hb dL_metres_418 (by decide) (fun c186 => ?_) (fun c186 => ?_)
                                      · rw [if_pos c186] at h
                                        refine lv_iconst (v := (-1)) hx hb dL_metres_429 rfl ?_
                                        refine lv_icmp_eq (tgt := 435) hx hb dL_metres_430 (by decide) (fun c187 => ?_) (fun c187 => ?_)
                                        · rw [if_pos c187] at h
                                          refine lv_iinc (v := (x183 + 1)) (lv' := [(12, .int (x183 + 1)), (0, .ref (adr G1 0)), (1, .int a1), (2, .int a2), (3, .ref (adr G1 34)), (4, .ref (adr G1 30)), (5, .ref (adr G1 31)), (6, .int y8), (7, .int ((y9 + 1) + 1)), (8, .int v1), (9, .int ((if a2 ≤ 0 then 2 else (if 9 ≤ a2 then 2 else a2)) : Int32)), (10, .ref (adr G1 35)), (11, .int (bI (decide (v107 = 0))))]) hx hb dL_metres_435 hl (k := 12) rfl rfl (by decide) rfl (fun ls hl => ?_)
                                          refine lv_goto (tgt := 399) hx hb dL_metres_438 (by decide) ?_
                                          exact ih (x183 + 1) _ h hq _ _ ls hP hS (lv_sub hl [1, 2, 3, 4, 5, 6, 7, 8, 9, 10, 11, 12, 0] rfl) kk
                                        · rw [if_neg c187] at h
                                          refine lv_iconst (v := 0) hx hb dL_metres_433 rfl ?_
                                          exact hy_zret (T := (C178, NM12, Mo)) hx hb hr hlocks hP hS (by decide) (by decide) (bI_nar false) (by rw [← (hq _ (Option.some.inj h).symm).symm] <;> rfl) dL_metres_434
                                      · rw [if_neg c186] at h
                                        refine lv_aload hx hb dL_metres_421 (lv_at hl 10 rfl) ?_
                                        refine lv_iload hx hb dL_metres_423 (lv_at hl 12 rfl) ?_
                                        obtain ⟨v188, hv188, h⟩ := hy_bind h
                                        obtain ⟨nv188, hv188⟩ := ldE_some hv188
                                        refine hy_iald (T := (C178, NM12, Mo)) hx hb hX hP 35 9 (NM12.1 35) (by omega) rfl nv188 dL_metres_425 ?_
                                        rw [hv188]
                                        refine lv_goto (tgt := 430) hx hb dL_metres_426 (by decide) ?_
                                        refine lv_icmp_eq (tgt := 435) hx hb dL_metres_430 (by decide) (fun c189 => ?_) (fun c189 => ?_)
                                        · rw [if_pos c189] at h
                                          refine lv_iinc (v := (x183 + 1)) (lv' := [(12, .int (x183 + 1)), (0, .ref (adr G1 0)), (1, .int a1), (2, .int a2), (3, .ref (adr G1 34)), (4, .ref (adr G1 30)), (5, .ref (adr G1 31)), (6, .int y8), (7, .int ((y9 + 1) + 1)), (8, .int v1), (9, .int ((if a2 ≤ 0 then 2 else (if 9 ≤ a2 then 2 else a2)) : Int32)), (10, .ref (adr G1 35)), (11, .int (bI (decide (v107 = 0))))]) hx hb dL_metres_435 hl (k := 12) rfl rfl (by decide) rfl (fun ls hl => ?_)
                                          refine lv_goto (tgt := 399) hx hb dL_metres_438 (by decide) ?_
                                          exact ih (x183 + 1) _ h hq _ _ ls hP hS (lv_sub hl [1, 2, 3, 4, 5, 6, 7, 8, 9, 10, 11, 12, 0] rfl) kk
                                        · rw [if_neg c189] at h
                                          refine lv_iconst (v := 0) hx hb dL_metres_433 rfl ?_
                                          exact hy_zret (T := (C178, NM12, Mo)) hx hb hr hlocks hP hS (by decide) (by decide) (bI_nar false) (by rw [← (hq _ (Option.some.inj h).symm).symm] <;> rfl) dL_metres_434
                                obtain ⟨q211, hq211, h⟩ := hy_bind h
                                refine L190 hyFu 0 q211 hq211 (fun r9 e9 => by subst e9; exact (Option.some.inj h).symm) _ _ ls hP hS (lv_sub hl [1, 2, 3, 4, 5, 6, 7, 8, 9, 10, 11, 12, 0] rfl) ?_
                                intro y183 e9 H locs ls hP hS hl
                                subst e9
                                try dsimp only at h
                                refine lv_iconst (v := (-1)) hx hb dL_metres_441 rfl ?_
                                refine lv_istore (lv' := [(12, .int (-1)), (0, .ref (adr G1 0)), (1, .int a1), (2, .int a2), (3, .ref (adr G1 34)), (4, .ref (adr G1 30)), (5, .ref (adr G1 31)), (6, .int y8), (7, .int ((y9 + 1) + 1)), (8, .int v1), (9, .int ((if a2 ≤ 0 then 2 else (if 9 ≤ a2 then 2 else a2)) : Int32)), (10, .ref (adr G1 35)), (11, .int (bI (decide (v107 = 0))))]) hx hb dL_metres_442 hl (by decide) rfl (fun ls hl => ?_)
                                refine lv_iload hx hb dL_metres_444 (lv_at hl 9 rfl) ?_
                                refine lv_istore (lv' := [(13, .int v1), (12, .int (-1)), (0, .ref (adr G1 0)), (1, .int a1), (2, .int a2), (3, .ref (adr G1 34)), (4, .ref (adr G1 30)), (5, .ref (adr G1 31)), (6, .int y8), (7, .int ((y9 + 1) + 1)), (8, .int v1), (9, .int ((if a2 ≤ 0 then 2 else (if 9 ≤ a2 then 2 else a2)) : Int32)), (10, .ref (adr G1 35)), (11, .int (bI (decide (v107 = 0))))]) hx hb dL_metres_446 hl (by decide) rfl (fun ls hl => ?_)
                                have L201 : ∀ (f : Nat) (x191 : Int32) (x192 : Int32) (qL : (Int32 × Int32)) (h : La_metres_L448b C178 f x191 x192 = some qL) (H : Heap) (locs : List Loc) (ls : Array Slot) (hP : va_P G1.1 vwCl (wld G1 (C178, NM12, Mo)) H) (hS : va_S (hyA G1) s.heap H locs) (hl : lv_has ls 14 [(0, .ref (adr G1 0)), (1, .int a1), (2, .int a2), (3, .ref (adr G1 34)), (4, .ref (adr G1 30)), (5, .ref (adr G1 31)), (6, .int y8), (7, .int ((y9 + 1) + 1)), (8, .int v1), (9, .int ((if a2 ≤ 0 then 2 else (if 9 ≤ a2 then 2 else a2)) : Int32)), (10, .ref (adr G1 35)), (11, .int (bI (decide (v107 = 0)))), (12, .int x191), (13, .int x192)]) (kk : ∀ (y191 : Int32) (y192 : Int32), qL = (y191, y192) → ∀ (H : Heap) (locs : List Loc) (ls : Array Slot), va_P G1.1 vwCl (wld G1 (C178, NM12, Mo)) H → va_S (hyA G1) s.heap H locs → lv_has ls 14 [(0, .ref (adr G1 0)), (1, .int a1), (2, .int a2), (3, .ref (adr G1 34)), (4, .ref (adr G1 30)), (5, .ref (adr G1 31)), (6, .int y8), (7, .int ((y9 + 1) + 1)), (8, .int v1), (9, .int ((if a2 ≤ 0 then 2 else (if 9 ≤ a2 then 2 else a2)) : Int32)), (10, .ref (adr G1 35)), (11, .int (bI (decide (v107 = 0)))), (12, .int y191), (13, .int y192)] → W p l e { frames := 8, cells := 2, slots := 6 * 2, locals := 163 } s m ([.ref (adr G 0), .int a1, .int a2, .ref (adr G 34), .ref (adr G 30), .ref (adr G 31)] : List Value).toArray below meth c H locs 1 9 (vx_MQ below (hyQ G1 (.inr (some (.int (bI res.1))), (res.2.1, res.2.2, Mo))) (hyXQ G1 (.inr (some (.int (bI res.1))), (res.2.1, res.2.2, Mo))) ([.ref (adr G 0), .int a1, .int a2, .ref (adr G 34), .ref (adr G 30), .ref (adr G 31)] : List Value).toArray s 2 (6 * 2) (hyA G1)) (F0 m 492 ls [])), W p l e { frames := 8, cells := 2, slots := 6 * 2, locals := 163 } s m ([.ref (adr G 0), .int a1, .int a2, .ref (adr G 34), .ref (adr G 30), .ref (adr G 31)] : List Value).toArray below meth c H locs 1 9 (vx_MQ below (hyQ G1 (.inr (some (.int (bI res.1))), (res.2.1, res.2.2, Mo))) (hyXQ G1 (.inr (some (.int (bI res.1))), (res.2.1, res.2.2, Mo))) ([.ref (adr G 0), .int a1, .int a2, .ref (adr G 34), .ref (adr G 30), .ref (adr G 31)] : List Value).toArray s 2 (6 * 2) (hyA G1)) (F0 m 448 ls []) := by
                                  intro f
                                  induction f with
                                  | zero =>
                                    intro x191 x192 qL h H locs ls hP hS hl kk
                                    rw [La_metres_L448b] at h
                                    cases h
                                  | succ f ih =>
                                    intro x191 x192 qL h H locs ls hP hS hl kk
                                    rw [La_metres_L448b] at h
                                    refine lv_iload hx hb dL_metres_448 (lv_at hl 13 rfl) ?_
                                    refine lv_if_lt (tgt := 492) hx hb dL_metres_450 (by decide) (fun c193 => ?_) (fun c193 => ?_)
                                    · rw [if_pos c193] at h
                                      exact kk x191 x192 (Option.some.inj h).symm _ _ ls hP hS (lv_sub hl [0, 1, 2, 3, 4, 5, 6, 7, 8, 9, 10, 11, 12, 13] rfl)
                                    · rw [if_neg c193] at h
                                      refine lv_aload_n hx hb dL_metres_453 rfl (lv_at hl 0 rfl) ?_
                                      refine lv_iload hx hb dL_metres_454 (lv_at hl 13 rfl) ?_
                                      obtain ⟨v194, hv194, h⟩ := hy_bind h
                                      refine hy_ret (hy_rV0 (T := (C178, NM12, Mo)) (v := some (.int v194)) (T2 := (C178, NM12, Mo)) (As := [.int x192]) (rest := []) (n := 0) hx hb hml hown hts hX hP hS hl (c_Hp_distance hlt NM12 Mo x192 C178 (res := .inr v194) (rtb_some hv194)) m_Hp_distance q_962 (hy_recv hX hP 0 9 (by decide) rfl rfl) rfl rfl (Nat.le_of_ble_eq_true rfl) dL_metres_456 ⟨Nat.le_of_ble_eq_true rfl, Nat.le_of_ble_eq_true rfl⟩ ⟨by decide, by decide⟩) hS (fun H locs hP hS => ?_)
                                      refine lv_if_lt (tgt := 486) hx hb dL_metres_459 (by decide) (fun c195 => ?_) (fun c195 => ?_)
                                      · rw [if_pos c195] at h
                                        refine lv_iinc (v := (x192 + (-1))) (lv' := [(13, .int (x192 + (-1))), (0, .ref (adr G1 0)), (1, .int a1), (2, .int a2), (3, .ref (adr G1 34)), (4, .ref (adr G1 30)), (5, .ref (adr G1 31)), (6, .int y8), (7, .int ((y9 + 1) + 1)), (8, .int v1), (9, .int ((if a2 ≤ 0 then 2 else (if 9 ≤ a2 then 2 else a2)) : Int32)), (10, .ref (adr G1 35)), (11, .int (bI (decide (v107 = 0)))), (12, .int x191)]) hx hb dL_metres_486 hl (k := 13) rfl rfl (by decide) rfl (fun ls hl => ?_)
                                        refine lv_goto (tgt := 448) hx hb dL_metres_489 (by decide) ?_
                                        exact ih x191 (x192 + (-1)) _ h  _ _ ls hP hS (lv_sub hl [1, 2, 3, 4, 5, 6, 7, 8, 9, 10, 11, 12, 13, 0] rfl) kk
                                      · rw [if_neg c195] at h
                                        refine lv_iload hx hb dL_metres_462 (lv_at hl 12 rfl) ?_
                                        refine lv_if_lt (tgt := 482) hx hb dL_metres_464 (by decide) (fun c196 => ?_) (fun c196 => ?_)
                                        · rw [if_pos c196] at h
                                          refine lv_iload hx hb dL_metres_482 (lv_at hl 13 rfl) ?_
                                          refine lv_istore (lv' := [(12, .int x192), (0, .ref (adr G1 0)), (1, .int a1), (2, .int a2), (3, .ref (adr G1 34)), (4, .ref (adr G1 30)), (5, .ref (adr G1 31)), (6, .int y8), (7, .int ((y9 + 1) + 1)), (8, .int v1), (9, .int ((if a2 ≤ 0 then 2 else (if 9 ≤ a2 then 2 else a2)) : Int32)), (10, .ref (adr G1 35)), (11, .int (bI (decide (v107 = 0)))), (13, .int x192)]) hx hb dL_metres_484 hl (by decide) rfl (fun ls hl => ?_)
                                          refine lv_iinc (v := (x192 + (-1))) (lv' := [(13, .int (x192 + (-1))), (12, .int x192), (0, .ref (adr G1 0)), (1, .int a1), (2, .int a2), (3, .ref (adr G1 34)), (4, .ref (adr G1 30)), (5, .ref (adr G1 31)), (6, .int y8), (7, .int ((y9 + 1) + 1)), (8, .int v1), (9, .int ((if a2 ≤ 0 then 2 else (if 9 ≤ a2 then 2 else a2)) : Int32)), (10, .ref (adr G1 35)), (11, .int (bI (decide (v107 = 0))))]) hx hb dL_metres_486 hl (k := 13) rfl rfl (by decide) rfl (fun ls hl => ?_)
                                          refine lv_goto (tgt := 448) hx hb dL_metres_489 (by decide) ?_
                                          exact ih x192 (x192 + (-1)) _ h  _ _ ls hP hS (lv_sub hl [2, 3, 4, 5, 6, 7, 8, 9, 10, 11, 12, 13, 1, 0] rfl) kk
                                        · rw [if_neg c196] at h
                                          refine lv_aload_n hx hb dL_metres_467 rfl (lv_at hl 0 rfl) ?_
                                          refine lv_iload hx hb dL_metres_468 (lv_at hl 13 rfl) ?_
                                          obtain ⟨v197, hv197, h⟩ := hy_bind h
                                          refine hy_ret (hy_rV0 (T := (C178, NM12, Mo)) (v := some (.int v197)) (T2 := (C178, NM12, Mo)) (As := [.int x192]) (rest := []) (n := 0) hx hb hml hown hts hX hP hS hl (c_Hp_distance hlt NM12 Mo x192 C178 (res := .inr v197) (rtb_some hv197)) m_Hp_distance q_962 (hy_recv hX hP 0 9 (by decide) rfl rfl) rfl rfl (Nat.le_of_ble_eq_true rfl) dL_metres_470 ⟨Nat.le_of_ble_eq_true rfl, Nat.le_of_ble_eq_true rfl⟩ ⟨by decide, by decide⟩) hS (fun H locs hP hS => ?_)
                                          refine lv_aload_n hx hb dL_metres_473 rfl (lv_at hl 0 rfl) ?_
                                          refine lv_iload hx hb dL_metres_474 (lv_at hl 12 rfl) ?_
                                          obtain ⟨v198, hv198, h⟩ := hy_bind h
                                          refine hy_ret (hy_rV0 (T := (C178, NM12, Mo)) (v := some (.int v198)) (T2 := (C178, NM12, Mo)) (As := [.int x191]) (rest := [.int v197]) (n := 0) hx hb hml hown hts hX hP hS hl (c_Hp_distance hlt NM12 Mo x191 C178 (res := .inr v198) (rtb_some hv198)) m_Hp_distance q_962 (hy_recv hX hP 0 9 (by decide) rfl rfl) rfl rfl (Nat.le_of_ble_eq_true rfl) dL_metres_476 ⟨Nat.le_of_ble_eq_true rfl, Nat.le_of_ble_eq_true rfl⟩ ⟨by decide, by decide⟩) hS (fun H locs hP hS => ?_)
                                          have J200 : ∀ (H : Heap) (locs : List Loc) (ls : Array Slot) (u1 : Int32), u1 = ((if v198 < v197 then x191 else x192) : Int32) → va_P G1.1 vwCl (wld G1 (C178, NM12, Mo)) H → va_S (hyA G1) s.heap H locs → lv_has ls 14 [(0, .ref (adr G1 0)), (1, .int a1), (2, .int a2), (3, .ref (adr G1 34)), (4, .ref (adr G1 30)), (5, .ref (adr G1 31)), (6, .int y8), (7, .int ((y9 + 1) + 1)), (8, .int v1), (9, .int ((if a2 ≤ 0 then 2 else (if 9 ≤ a2 then 2 else a2)) : Int32)), (10, .ref (adr G1 35)), (11, .int (bI (decide (v107 = 0)))), (12, .int u1), (13, .int x192)] → W p l e { frames := 8, cells := 2, slots := 6 * 2, locals := 163 } s m ([.ref (adr G 0), .int a1, .int a2, .ref (adr G 34), .ref (adr G 30), .ref (adr G 31)] : List Value).toArray below meth c H locs 1 9 (vx_MQ below (hyQ G1 (.inr (some (.int (bI res.1))), (res.2.1, res.2.2, Mo))) (hyXQ G1 (.inr (some (.int (bI res.1))), (res.2.1, res.2.2, Mo))) ([.ref (adr G 0), .int a1, .int a2, .ref (adr G 34), .ref (adr G 30), .ref (adr G 31)] : List Value).toArray s 2 (6 * 2) (hyA G1)) (F0 m 486 ls []) := by
                                            intro H locs ls u1 eu1 hP hS hl
                                            subst eu1
                                            refine lv_iinc (v := (x192 + (-1))) (lv' := [(13, .int (x192 + (-1))), (0, .ref (adr G1 0)), (1, .int a1), (2, .int a2), (3, .ref (adr G1 34)), (4, .ref (adr G1 30)), (5, .ref (adr G1 31)), (6, .int y8), (7, .int ((y9 + 1) + 1)), (8, .int v1), (9, .int ((if a2 ≤ 0 then 2 else (if 9 ≤ a2 then 2 else a2)) : Int32)), (10, .ref (adr G1 35)), (11, .int (bI (decide (v107 = 0)))), (12, .int ((if v198 < v197 then x191 else x192) : Int32))]) hx hb dL_metres_486 hl (k := 13) rfl rfl (by decide) rfl (fun ls hl => ?_)
                                            refine lv_goto (tgt := 448) hx hb dL_metres_489 (by decide) ?_
                                            exact ih ((if v198 < v197 then x191 else x192) : Int32) (x192 + (-1)) _ h  _ _ ls hP hS (lv_sub hl [1, 2, 3, 4, 5, 6, 7, 8, 9, 10, 11, 12, 13, 0] rfl) kk
                                          refine lv_icmp_gt (tgt := 486) hx hb dL_metres_479 (by decide) (fun c199 => ?_) (fun c199 => ?_)
                                          · exact J200 _ _ ls x191 (by rw [if_pos c199] <;> rfl) hP hS (lv_sub hl [0, 1, 2, 3, 4, 5, 6, 7, 8, 9, 10, 11, 12, 13] rfl)
                                          · refine lv_iload hx hb dL_metres_482 (lv_at hl 13 rfl) ?_
                                            refine lv_istore (lv' := [(12, .int x192), (0, .ref (adr G1 0)), (1, .int a1), (2, .int a2), (3, .ref (adr G1 34)), (4, .ref (adr G1 30)), (5, .ref (adr G1 31)), (6, .int y8), (7, .int ((y9 + 1) + 1)), (8, .int v1), (9, .int ((if a2 ≤ 0 then 2 else (if 9 ≤ a2 then 2 else a2)) : Int32)), (10, .ref (adr G1 35)), (11, .int (bI (decide (v107 = 0)))), (13, .int x192)]) hx hb dL_metres_484 hl (by decide) rfl (fun ls hl => ?_)
                                            exact J200 _ _ ls x192 (by rw [if_neg c199] <;> rfl) hP hS (lv_sub hl [1, 2, 3, 4, 5, 6, 7, 8, 9, 10, 11, 12, 0, 13] rfl)
                                obtain ⟨q210, hq210, h⟩ := hy_bind h
                                refine L201 hyFu (-1) v1 q210 hq210 _ _ ls hP hS (lv_sub hl [2, 3, 4, 5, 6, 7, 8, 9, 10, 11, 12, 13, 1, 0] rfl) ?_
                                intro y191 y192 e9 H locs ls hP hS hl
                                subst e9
                                try dsimp only at h
                                refine lv_aload_n hx hb dL_metres_492 rfl (lv_at hl 0 rfl) ?_
                                obtain ⟨v202, hv202, h⟩ := hy_bind h
                                refine hy_ret (hy_rV0 (T := (C178, NM12, Mo)) (v := some (.int v202)) (T2 := (C178, NM12, Mo)) (As := []) (rest := []) (n := 0) hx hb hml hown hts hX hP hS hl (c_Hp_nearest NM12 Mo C178 hv202) m_Hp_nearest q_552 (hy_recv hX hP 0 9 (by decide) rfl rfl) rfl rfl (Nat.le_of_ble_eq_true rfl) dL_metres_493 ⟨Nat.le_of_ble_eq_true rfl, Nat.le_of_ble_eq_true rfl⟩ ⟨by decide, by decide⟩) hS (fun H locs hP hS => ?_)
                                refine lv_iload hx hb dL_metres_496 (lv_at hl 12 rfl) ?_
                                refine lv_icmp_ne (tgt := 526) hx hb dL_metres_498 (by decide) (fun c203 => ?_) (fun c203 => ?_)
                                · rw [if_neg c203] at h
                                  refine lv_iconst (v := 0) hx hb dL_metres_526 rfl ?_
                                  exact hy_zret (T := (C178, NM12, Mo)) hx hb hr hlocks hP hS (by decide) (by decide) (bI_nar false) (by rw [← (Option.some.inj h)] <;> rfl) dL_metres_527
                                · rw [if_pos (c203)] at h
                                  refine lv_iload_n hx hb dL_metres_501 rfl (lv_at hl 1 rfl) ?_
                                  refine lv_iconst (v := 4) hx hb dL_metres_502 rfl ?_
                                  refine lv_ishr hx hb dL_metres_503 ?_
                                  refine lv_iconst (v := 3) hx hb dL_metres_504 rfl ?_
                                  obtain ⟨v204, hv204, h⟩ := hy_bind h
                                  refine hy_ret (hy_rS0 (T := (C178, NM12, Mo)) (v := some (.int v204)) (T2 := (C178, NM12, Mo)) (As := [.int (a1 >>> (4 &&& 31)), .int 3]) (rest := []) (n := 0) hx hb hml hown hts hX hP hS hl (c_La_at C178 Mo (a1 >>> (4 &&& 31)) 3 NM12 hv204) m_La_at q_641 rfl rfl (Nat.le_of_ble_eq_true rfl) dL_metres_505 ⟨Nat.le_of_ble_eq_true rfl, Nat.le_of_ble_eq_true rfl⟩ ⟨by decide, by decide⟩) hS (fun H locs hP hS => ?_)
                                  refine lv_if_gt (tgt := 522) hx hb dL_metres_508 (by decide) (fun c205 => ?_) (fun c205 => ?_)
                                  · rw [if_pos c205] at h
                                    refine lv_iconst (v := 1) hx hb dL_metres_522 rfl ?_
                                    refine lv_goto (tgt := 527) hx hb dL_metres_523 (by decide) ?_
                                    exact hy_zret (T := (C178, NM12, Mo)) hx hb hr hlocks hP hS (by decide) (by decide) (bI_nar true) (by rw [← (Option.some.inj h)] <;> rfl) dL_metres_527
                                  · rw [if_neg c205] at h
                                    refine lv_aload_n hx hb dL_metres_511 rfl (lv_at hl 0 rfl) ?_
                                    refine lv_iload hx hb dL_metres_512 (lv_at hl 8 rfl) ?_
                                    obtain ⟨⟨v206, C207⟩, hv206, h⟩ := hy_bind h
                                    try dsimp only at h
                                    refine hy_ret (hy_rV0 (T := (C178, NM12, Mo)) (v := some (.int v206)) (T2 := (C207, NM12, Mo)) (As := [.int v1]) (rest := []) (n := 0) hx hb hml hown hts hX hP hS hl (c_Hp_dropMetre hlt NM12 Mo v1 C178 (res := (.inr v206, C207)) (rtMb_some hv206)) m_Hp_dropMetre q_970 (hy_recv hX hP 0 9 (by decide) rfl rfl) rfl rfl (Nat.le_of_ble_eq_true rfl) dL_metres_514 ⟨Nat.le_of_ble_eq_true rfl, Nat.le_of_ble_eq_true rfl⟩ ⟨by decide, by decide⟩) hS (fun H locs hP hS => ?_)
                                    refine lv_iload hx hb dL_metres_517 (lv_at hl 8 rfl) ?_
                                    have J209 : ∀ (H : Heap) (locs : List Loc) (ls : Array Slot) (u1 : Int32), u1 = (bI (decide (v206 = v1))) → va_P G1.1 vwCl (wld G1 (C207, NM12, Mo)) H → va_S (hyA G1) s.heap H locs → lv_has ls 14 [(0, .ref (adr G1 0)), (1, .int a1), (2, .int a2), (3, .ref (adr G1 34)), (4, .ref (adr G1 30)), (5, .ref (adr G1 31)), (6, .int y8), (7, .int ((y9 + 1) + 1)), (8, .int v1), (9, .int ((if a2 ≤ 0 then 2 else (if 9 ≤ a2 then 2 else a2)) : Int32)), (10, .ref (adr G1 35)), (11, .int (bI (decide (v107 = 0)))), (12, .int y191), (13, .int y192)] → W p l e { frames := 8, cells := 2, slots := 6 * 2, locals := 163 } s m ([.ref (adr G 0), .int a1, .int a2, .ref (adr G 34), .ref (adr G 30), .ref (adr G 31)] : List Value).toArray below meth c H locs 1 9 (vx_MQ below (hyQ G1 (.inr (some (.int (bI res.1))), (res.2.1, res.2.2, Mo))) (hyXQ G1 (.inr (some (.int (bI res.1))), (res.2.1, res.2.2, Mo))) ([.ref (adr G 0), .int a1, .int a2, .ref (adr G 34), .ref (adr G 30), .ref (adr G 31)] : List Value).toArray s 2 (6 * 2) (hyA G1)) (F0 m 527 ls [.int u1]) := by
                                      intro H locs ls u1 eu1 hP hS hl
                                      subst eu1
                                      exact hy_zret (T := (C207, NM12, Mo)) hx hb hr hlocks hP hS (by decide) (by decide) (bI_nar (decide (v206 = v1))) (by rw [← (Option.some.inj h)] <;> rfl) dL_metres_527
                                    refine lv_icmp_ne (tgt := 526) hx hb dL_metres_519 (by decide) (fun c208 => ?_) (fun c208 => ?_)
                                    · refine lv_iconst (v := 0) hx hb dL_metres_526 rfl ?_
                                      exact J209 _ _ ls 0 (by rw [decide_eq_false c208] <;> rfl) hP hS (lv_sub hl [0, 1, 2, 3, 4, 5, 6, 7, 8, 9, 10, 11, 12, 13] rfl)
                                    · refine lv_iconst (v := 1) hx hb dL_metres_522 rfl ?_
                                      refine lv_goto (tgt := 527) hx hb dL_metres_523 (by decide) ?_
                                      exact J209 _ _ ls 1 (by rw [decide_eq_true c208] <;> rfl) hP hS (lv_sub hl [0, 1, 2, 3, 4, 5, 6, 7, 8, 9, 10, 11, 12, 13] rfl)
                              · rw [if_neg c182] at h
                                refine lv_iconst (v := 0) hx hb dL_metres_394 rfl ?_
                                exact hy_zret (T := (C178, NM12, Mo)) hx hb hr hlocks hP hS (by decide) (by decide) (bI_nar false) (by rw [← (Option.some.inj h)] <;> rfl) dL_metres_395
                            refine lv_icmp_ne (tgt := 390) hx hb dL_metres_382 (by decide) (fun c181 => ?_) (fun c181 => ?_)
                            · refine lv_iconst (v := (-1)) hx hb dL_metres_390 rfl ?_
                              exact J212 _ _ ls (-1) (by rw [if_neg c181] <;> rfl) hP hS (lv_sub hl [2, 3, 4, 5, 6, 7, 8, 0, 9, 10, 11, 1] rfl)
                            · refine lv_iload hx hb dL_metres_385 (lv_at hl 8 rfl) ?_
                              refine lv_goto (tgt := 391) hx hb dL_metres_387 (by decide) ?_
                              exact J212 _ _ ls y8 (by rw [if_pos c181] <;> rfl) hP hS (lv_sub hl [2, 3, 4, 5, 6, 7, 8, 0, 9, 10, 11, 1] rfl)
                      · rw [if_pos (c173)] at h
                        refine lv_aload_n hx hb dL_metres_342 rfl (lv_at hl 2 rfl) ?_
                        obtain ⟨⟨v213, C214⟩, hv213, h⟩ := hy_bind h
                        try dsimp only at h
                        refine hy_ret (hy_rV0 (T := (C168, NM12, Mo)) (v := some (.int v213)) (T2 := (C214, NM12, Mo)) (As := []) (rest := []) (n := 0) hx hb hml hown hts hX hP hS hl (c_Hp_clearInput NM12 Mo C168 (Option.some.inj hv213)) m_Hp_clearInput q_875 (hy_recv hX hP 0 9 (by decide) rfl rfl) rfl rfl (Nat.le_of_ble_eq_true rfl) dL_metres_343 ⟨Nat.le_of_ble_eq_true rfl, Nat.le_of_ble_eq_true rfl⟩ ⟨by decide, by decide⟩) hS (fun H locs hP hS => ?_)
                        refine lv_iload hx hb dL_metres_346 (lv_at hl 0 rfl) ?_
                        have J216 : ∀ (H : Heap) (locs : List Loc) (ls : Array Slot) (u1 : Int32), u1 = (bI (decide (v213 = ((y9 + 1) + 1)))) → va_P G1.1 vwCl (wld G1 (C214, NM12, Mo)) H → va_S (hyA G1) s.heap H locs → lv_has ls 14 [(0, .ref (adr G1 0)), (1, .int a1), (2, .int a2), (3, .ref (adr G1 34)), (4, .ref (adr G1 30)), (5, .ref (adr G1 31)), (6, .int y8), (7, .int ((y9 + 1) + 1)), (8, .int v1), (9, .int ((if a2 ≤ 0 then 2 else (if 9 ≤ a2 then 2 else a2)) : Int32)), (10, .ref (adr G1 35)), (11, .int (bI (decide (v107 = 0))))] → W p l e { frames := 8, cells := 2, slots := 6 * 2, locals := 163 } s m ([.ref (adr G 0), .int a1, .int a2, .ref (adr G 34), .ref (adr G 30), .ref (adr G 31)] : List Value).toArray below meth c H locs 1 9 (vx_MQ below (hyQ G1 (.inr (some (.int (bI res.1))), (res.2.1, res.2.2, Mo))) (hyXQ G1 (.inr (some (.int (bI res.1))), (res.2.1, res.2.2, Mo))) ([.ref (adr G 0), .int a1, .int a2, .ref (adr G 34), .ref (adr G 30), .ref (adr G 31)] : List Value).toArray s 2 (6 * 2) (hyA G1)) (F0 m 356 ls [.int u1]) := by
                          intro H locs ls u1 eu1 hP hS hl
                          subst eu1
                          exact hy_zret (T := (C214, NM12, Mo)) hx hb hr hlocks hP hS (by decide) (by decide) (bI_nar (decide (v213 = ((y9 + 1) + 1)))) (by rw [← (Option.some.inj h)] <;> rfl) dL_metres_356
                        refine lv_icmp_ne (tgt := 355) hx hb dL_metres_348 (by decide) (fun c215 => ?_) (fun c215 => ?_)
                        · refine lv_iconst (v := 0) hx hb dL_metres_355 rfl ?_
                          exact J216 _ _ ls 0 (by rw [decide_eq_false c215] <;> rfl) hP hS (lv_sub hl [2, 3, 4, 5, 6, 7, 8, 0, 9, 10, 11, 1] rfl)
                        · refine lv_iconst (v := 1) hx hb dL_metres_351 rfl ?_
                          refine lv_goto (tgt := 356) hx hb dL_metres_352 (by decide) ?_
                          exact J216 _ _ ls 1 (by rw [decide_eq_true c215] <;> rfl) hP hS (lv_sub hl [2, 3, 4, 5, 6, 7, 8, 0, 9, 10, 11, 1] rfl)
                    · rw [if_pos (bI_1 c172)] at h
                      refine lv_aload_n hx hb dL_metres_318 rfl (lv_at hl 2 rfl) ?_
                      obtain ⟨⟨v217, C218⟩, hv217, h⟩ := hy_bind h
                      try dsimp only at h
                      refine hy_ret (hy_rV0 (T := (C168, NM12, Mo)) (v := some (.int v217)) (T2 := (C218, NM12, Mo)) (As := []) (rest := []) (n := 0) hx hb hml hown hts hX hP hS hl (c_Hp_clearInput NM12 Mo C168 (Option.some.inj hv217)) m_Hp_clearInput q_875 (hy_recv hX hP 0 9 (by decide) rfl rfl) rfl rfl (Nat.le_of_ble_eq_true rfl) dL_metres_319 ⟨Nat.le_of_ble_eq_true rfl, Nat.le_of_ble_eq_true rfl⟩ ⟨by decide, by decide⟩) hS (fun H locs hP hS => ?_)
                      refine lv_iload hx hb dL_metres_322 (lv_at hl 0 rfl) ?_
                      refine lv_iconst (v := 1) hx hb dL_metres_324 rfl ?_
                      refine lv_iadd hx hb dL_metres_325 ?_
                      have J220 : ∀ (H : Heap) (locs : List Loc) (ls : Array Slot) (u1 : Int32), u1 = (bI (decide (v217 = (((y9 + 1) + 1) + 1)))) → va_P G1.1 vwCl (wld G1 (C218, NM12, Mo)) H → va_S (hyA G1) s.heap H locs → lv_has ls 14 [(0, .ref (adr G1 0)), (1, .int a1), (2, .int a2), (3, .ref (adr G1 34)), (4, .ref (adr G1 30)), (5, .ref (adr G1 31)), (6, .int y8), (7, .int ((y9 + 1) + 1)), (8, .int v1), (9, .int ((if a2 ≤ 0 then 2 else (if 9 ≤ a2 then 2 else a2)) : Int32)), (10, .ref (adr G1 35)), (11, .int (bI (decide (v107 = 0))))] → W p l e { frames := 8, cells := 2, slots := 6 * 2, locals := 163 } s m ([.ref (adr G 0), .int a1, .int a2, .ref (adr G 34), .ref (adr G 30), .ref (adr G 31)] : List Value).toArray below meth c H locs 1 9 (vx_MQ below (hyQ G1 (.inr (some (.int (bI res.1))), (res.2.1, res.2.2, Mo))) (hyXQ G1 (.inr (some (.int (bI res.1))), (res.2.1, res.2.2, Mo))) ([.ref (adr G 0), .int a1, .int a2, .ref (adr G 34), .ref (adr G 30), .ref (adr G 31)] : List Value).toArray s 2 (6 * 2) (hyA G1)) (F0 m 334 ls [.int u1]) := by
                        intro H locs ls u1 eu1 hP hS hl
                        subst eu1
                        exact hy_zret (T := (C218, NM12, Mo)) hx hb hr hlocks hP hS (by decide) (by decide) (bI_nar (decide (v217 = (((y9 + 1) + 1) + 1)))) (by rw [← (Option.some.inj h)] <;> rfl) dL_metres_334
                      refine lv_icmp_ne (tgt := 333) hx hb dL_metres_326 (by decide) (fun c219 => ?_) (fun c219 => ?_)
                      · refine lv_iconst (v := 0) hx hb dL_metres_333 rfl ?_
                        exact J220 _ _ ls 0 (by rw [decide_eq_false c219] <;> rfl) hP hS (lv_sub hl [2, 3, 4, 5, 6, 7, 8, 0, 9, 10, 11, 1] rfl)
                      · refine lv_iconst (v := 1) hx hb dL_metres_329 rfl ?_
                        refine lv_goto (tgt := 334) hx hb dL_metres_330 (by decide) ?_
                        exact J220 _ _ ls 1 (by rw [decide_eq_true c219] <;> rfl) hP hS (lv_sub hl [2, 3, 4, 5, 6, 7, 8, 0, 9, 10, 11, 1] rfl)
                  · rw [if_neg c171] at h
                    refine lv_iconst (v := 0) hx hb dL_metres_311 rfl ?_
                    exact hy_zret (T := (C168, NM12, Mo)) hx hb hr hlocks hP hS (by decide) (by decide) (bI_nar false) (by rw [← (Option.some.inj h)] <;> rfl) dL_metres_312
      refine lv_if_ne (tgt := 242) hx hb dL_metres_235 (by decide) (fun c108 => ?_) (fun c108 => ?_)
      · refine lv_iconst (v := 0) hx hb dL_metres_242 rfl ?_
        exact J221 _ _ ls 0 (by rw [decide_eq_false c108] <;> rfl) hP hS (lv_sub hl [0, 1, 2, 3, 4, 5, 6, 7, 8, 9, 10, 11] rfl)
      · refine lv_iconst (v := 1) hx hb dL_metres_238 rfl ?_
        refine lv_goto (tgt := 243) hx hb dL_metres_239 (by decide) ?_
        exact J221 _ _ ls 1 (by rw [decide_eq_true c108] <;> rfl) hP hS (lv_sub hl [0, 1, 2, 3, 4, 5, 6, 7, 8, 9, 10, 11] rfl)
    · rw [if_neg c5] at h
      refine lv_iconst (v := 1) hx hb dL_metres_45 rfl ?_
      exact hy_zret (T := (C, (zM M 35), Mo)) hx hb hr hlocks hP hS (by decide) (by decide) (bI_nar true) (by rw [← (Option.some.inj h)] <;> rfl) dL_metres_46
  refine lv_if_le (tgt := 28) hx hb dL_metres_15 (by decide) (fun c2 => ?_) (fun c2 => ?_)
  · refine lv_iconst (v := 2) hx hb dL_metres_28 rfl ?_
    exact J223 _ _ ls 2 (by rw [if_pos c2] <;> rfl) hP hS (lv_sub hl [3, 4, 5, 6, 7, 8, 2, 1, 0] rfl)
  · refine lv_iload_n hx hb dL_metres_18 rfl (lv_at hl 5 rfl) ?_
    refine lv_bipush (v := 9) hx hb dL_metres_19 rfl ?_
    refine lv_icmp_ge (tgt := 28) hx hb dL_metres_21 (by decide) (fun c3 => ?_) (fun c3 => ?_)
    · refine lv_iconst (v := 2) hx hb dL_metres_28 rfl ?_
      exact J223 _ _ ls 2 (by rw [if_neg c2, if_pos c3] <;> rfl) hP hS (lv_sub hl [3, 4, 5, 6, 7, 8, 2, 1, 0] rfl)
    · refine lv_iload_n hx hb dL_metres_24 rfl (lv_at hl 5 rfl) ?_
      refine lv_goto (tgt := 29) hx hb dL_metres_25 (by decide) ?_
      exact J223 _ _ ls a2 (by rw [if_neg c2, if_neg c3] <;> rfl) hP hS (lv_sub hl [3, 4, 5, 6, 7, 8, 2, 1, 0] rfl)
