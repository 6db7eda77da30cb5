set_option maxHeartbeats 1000000 in
set_option maxRecDepth 100000 in
theorem c_La_told {l : Launch} {G : hyG} (hlt : l.stackTraces = false) (hex : exn G = 0) (Mo : hyM) (a1 : Int32) (C : hyM) (M : hyM) {res : (Bool × hyM × hyM)} (h : La_told a1 C M = some res) : hyC l yL_told (.code yL_told cL_told 22 (some .boolean)) 9 196 (8) G [.ref (adr G 0), .int a1, .ref (adr G 30), .ref (adr G 31), .ref (adr G 32), .ref (adr G 33)] (C, M, Mo) (.inr (some (.int (bI res.1))), (res.2.1, res.2.2, Mo)) := by
  refine hy_of (by decide +kernel) (Nat.le_of_ble_eq_true rfl) ?_
  intro p e s m below meth c hx hb hml hown hts hr hlocks ht hX hP hS ls hl
  have hl : lv_has ls 22 [(0, .ref (adr G 0)), (1, .int a1), (2, .ref (adr G 30)), (3, .ref (adr G 31)), (4, .ref (adr G 32)), (5, .ref (adr G 33))] := hl
  rw [La_told] at h
  refine lv_bipush (v := 30) hx hb dL_told_0 rfl ?_
  refine hy_newG (T := (C, M, Mo)) (T2 := (C, (zM M 34), Mo)) (N := 30) hx hb hX hP hS (hts _ q_142) 0 hex (fun _ _ _ => rfl) rfl (by decide) (by decide) (by decide) (by decide) (by decide) (by decide) dL_told_2 (fun G1 H hGa hex hX hP hS => ?_)
  have hl : lv_has ls 22 [(0, .ref (adr G1 0)), (1, .int a1), (2, .ref (adr G1 30)), (3, .ref (adr G1 31)), (4, .ref (adr G1 32)), (5, .ref (adr G1 33))] := by rw [hGa 0 (by decide), hGa 30 (by decide), hGa 31 (by decide), hGa 32 (by decide), hGa 33 (by decide)]; exact hl
  refine lv_astore (lv' := [(6, .ref (adr G1 34)), (0, .ref (adr G1 0)), (1, .int a1), (2, .ref (adr G1 30)), (3, .ref (adr G1 31)), (4, .ref (adr G1 32)), (5, .ref (adr G1 33))]) hx hb dL_told_4 hl (by decide) rfl (fun ls hl => ?_)
  refine lv_aload_n hx hb dL_told_6 rfl (lv_at hl 3 rfl) ?_
  refine lv_aload_n hx hb dL_told_7 rfl (lv_at hl 4 rfl) ?_
  refine lv_aload hx hb dL_told_8 (lv_at hl 5 rfl) ?_
  refine lv_aload hx hb dL_told_10 (lv_at hl 0 rfl) ?_
  obtain ⟨⟨v2, M1⟩, hM1, h⟩ := hy_bind h
  try dsimp only at h
  refine hy_ret (hy_rS0 (T := (C, (zM M 34), Mo)) (v := some (.int v2)) (T2 := (C, M1, Mo)) (As := [.ref (adr G1 30), .ref (adr G1 31), .ref (adr G1 32), .ref (adr G1 34)]) (rest := []) (n := 0) hx hb hml hown hts hX hP hS hl (c_La_sung (by omega) C Mo (zM M 34) hM1) m_La_sung q_647 rfl rfl (Nat.le_of_ble_eq_true rfl) dL_told_12 ⟨Nat.le_of_ble_eq_true rfl, Nat.le_of_ble_eq_true rfl⟩ ⟨by decide, by decide⟩) hS (fun H locs hP hS => ?_)
  refine lv_istore (lv' := [(7, .int v2), (6, .ref (adr G1 34)), (0, .ref (adr G1 0)), (1, .int a1), (2, .ref (adr G1 30)), (3, .ref (adr G1 31)), (4, .ref (adr G1 32)), (5, .ref (adr G1 33))]) hx hb dL_told_15 hl (by decide) rfl (fun ls hl => ?_)
  refine lv_aload_n hx hb dL_told_17 rfl (lv_at hl 4 rfl) ?_
  refine lv_aload_n hx hb dL_told_18 rfl (lv_at hl 5 rfl) ?_
  obtain ⟨v3, hv3, h⟩ := hy_bind h
  refine hy_ret (hy_rS0 (T := (C, M1, Mo)) (v := some (.int v3)) (T2 := (C, M1, Mo)) (As := [.ref (adr G1 30), .ref (adr G1 31)]) (rest := []) (n := 0) hx hb hml hown hts hX hP hS hl (c_La_phrases C Mo M1 hv3) m_La_phrases q_650 rfl rfl (Nat.le_of_ble_eq_true rfl) dL_told_19 ⟨Nat.le_of_ble_eq_true rfl, Nat.le_of_ble_eq_true rfl⟩ ⟨by decide, by decide⟩) hS (fun H locs hP hS => ?_)
  refine lv_istore (lv' := [(8, .int v3), (7, .int v2), (6, .ref (adr G1 34)), (0, .ref (adr G1 0)), (1, .int a1), (2, .ref (adr G1 30)), (3, .ref (adr G1 31)), (4, .ref (adr G1 32)), (5, .ref (adr G1 33))]) hx hb dL_told_22 hl (by decide) rfl (fun ls hl => ?_)
  refine lv_iconst (v := 0) hx hb dL_told_24 rfl ?_
  refine lv_istore (lv' := [(9, .int 0), (8, .int v3), (7, .int v2), (6, .ref (adr G1 34)), (0, .ref (adr G1 0)), (1, .int a1), (2, .ref (adr G1 30)), (3, .ref (adr G1 31)), (4, .ref (adr G1 32)), (5, .ref (adr G1 33))]) hx hb dL_told_25 hl (by decide) rfl (fun ls hl => ?_)
  refine lv_iconst (v := 0) hx hb dL_told_27 rfl ?_
  refine lv_istore (lv' := [(10, .int 0), (9, .int 0), (8, .int v3), (7, .int v2), (6, .ref (adr G1 34)), (0, .ref (adr G1 0)), (1, .int a1), (2, .ref (adr G1 30)), (3, .ref (adr G1 31)), (4, .ref (adr G1 32)), (5, .ref (adr G1 33))]) hx hb dL_told_28 hl (by decide) rfl (fun ls hl => ?_)
  refine lv_iconst (v := 0) hx hb dL_told_30 rfl ?_
  refine lv_istore (lv' := [(11, .int 0), (10, .int 0), (9, .int 0), (8, .int v3), (7, .int v2), (6, .ref (adr G1 34)), (0, .ref (adr G1 0)), (1, .int a1), (2, .ref (adr G1 30)), (3, .ref (adr G1 31)), (4, .ref (adr G1 32)), (5, .ref (adr G1 33))]) hx hb dL_told_31 hl (by decide) rfl (fun ls hl => ?_)
  refine lv_iconst (v := (-1)) hx hb dL_told_33 rfl ?_
  refine lv_istore (lv' := [(12, .int (-1)), (11, .int 0), (10, .int 0), (9, .int 0), (8, .int v3), (7, .int v2), (6, .ref (adr G1 34)), (0, .ref (adr G1 0)), (1, .int a1), (2, .ref (adr G1 30)), (3, .ref (adr G1 31)), (4, .ref (adr G1 32)), (5, .ref (adr G1 33))]) hx hb dL_told_34 hl (by decide) rfl (fun ls hl => ?_)
  refine lv_iconst (v := 0) hx hb dL_told_36 rfl ?_
  refine lv_istore (lv' := [(13, .int 0), (12, .int (-1)), (11, .int 0), (10, .int 0), (9, .int 0), (8, .int v3), (7, .int v2), (6, .ref (adr G1 34)), (0, .ref (adr G1 0)), (1, .int a1), (2, .ref (adr G1 30)), (3, .ref (adr G1 31)), (4, .ref (adr G1 32)), (5, .ref (adr G1 33))]) hx hb dL_told_37 hl (by decide) rfl (fun ls hl => ?_)
  refine lv_iconst (v := 0) hx hb dL_told_39 rfl ?_
  refine lv_istore (lv' := [(14, .int 0), (13, .int 0), (12, .int (-1)), (11, .int 0), (10, .int 0), (9, .int 0), (8, .int v3), (7, .int v2), (6, .ref (adr G1 34)), (0, .ref (adr G1 0)), (1, .int a1), (2, .ref (adr G1 30)), (3, .ref (adr G1 31)), (4, .ref (adr G1 32)), (5, .ref (adr G1 33))]) hx hb dL_told_40 hl (by decide) rfl (fun ls hl => ?_)
  refine lv_iconst (v := 0) hx hb dL_told_42 rfl ?_
  refine lv_istore (lv' := [(15, .int 0), (14, .int 0), (13, .int 0), (12, .int (-1)), (11, .int 0), (10, .int 0), (9, .int 0), (8, .int v3), (7, .int v2), (6, .ref (adr G1 34)), (0, .ref (adr G1 0)), (1, .int a1), (2, .ref (adr G1 30)), (3, .ref (adr G1 31)), (4, .ref (adr G1 32)), (5, .ref (adr G1 33))]) hx hb dL_told_43 hl (by decide) rfl (fun ls hl => ?_)
  have L19 : ∀ (f : Nat) (x4 : Int32) (x5 : Int32) (x6 : Int32) (C7 : hyM) (M8 : hyM) (qL : ((Bool × hyM × hyM) ⊕ (Int32 × Int32 × Int32 × hyM × hyM))) (h : La_told_L45 v2 f x4 x5 x6 C7 M8 = some qL) (hq : ∀ r9, qL = .inl r9 → res = r9) (H : Heap) (locs : List Loc) (ls : Array Slot) (hP : va_P G1.1 vwCl (wld G1 (C7, M8, Mo)) H) (hS : va_S (hyA G1) s.heap H locs) (hl : lv_has ls 22 [(0, .ref (adr G1 0)), (1, .int a1), (2, .ref (adr G1 30)), (3, .ref (adr G1 31)), (4, .ref (adr G1 32)), (5, .ref (adr G1 33)), (6, .ref (adr G1 34)), (7, .int v2), (8, .int v3), (9, .int x4), (10, .int 0), (11, .int x5), (12, .int (-1)), (13, .int 0), (14, .int 0), (15, .int x6)]) (kk : ∀ (y4 : Int32) (y5 : Int32) (y6 : Int32) (NC7 : hyM) (NM8 : hyM), qL = .inr (y4, y5, y6, NC7, NM8) → ∀ (H : Heap) (locs : List Loc) (ls : Array Slot), va_P G1.1 vwCl (wld G1 (NC7, NM8, Mo)) H → va_S (hyA G1) s.heap H locs → lv_has ls 22 [(0, .ref (adr G1 0)), (1, .int a1), (2, .ref (adr G1 30)), (3, .ref (adr G1 31)), (4, .ref (adr G1 32)), (5, .ref (adr G1 33)), (6, .ref (adr G1 34)), (7, .int v2), (8, .int v3), (9, .int y4), (10, .int 0), (11, .int y5), (12, .int (-1)), (13, .int 0), (14, .int 0), (15, .int y6)] → W p l e { frames := 9, cells := 8, slots := 6 * 8, locals := 196 } s m ([.ref (adr G 0), .int a1, .ref (adr G 30), .ref (adr G 31), .ref (adr G 32), .ref (adr G 33)] : List Value).toArray below meth c H locs 1 30 (vx_MQ below (hyQ G1 (.inr (some (.int (bI res.1))), (res.2.1, res.2.2, Mo))) (hyXQ G1 (.inr (some (.int (bI res.1))), (res.2.1, res.2.2, Mo))) ([.ref (adr G 0), .int a1, .ref (adr G 30), .ref (adr G 31), .ref (adr G 32), .ref (adr G 33)] : List Value).toArray s 8 (6 * 8) (hyA G1)) (F0 m 110 ls [])), W p l e { frames := 9, cells := 8, slots := 6 * 8, locals := 196 } s m ([.ref (adr G 0), .int a1, .ref (adr G 30), .ref (adr G 31), .ref (adr G 32), .ref (adr G 33)] : List Value).toArray below meth c H locs 1 30 (vx_MQ below (hyQ G1 (.inr (some (.int (bI res.1))), (res.2.1, res.2.2, Mo))) (hyXQ G1 (.inr (some (.int (bI res.1))), (res.2.1, res.2.2, Mo))) ([.ref (adr G 0), .int a1, .ref (adr G 30), .ref (adr G 31), .ref (adr G 32), .ref (adr G 33)] : List Value).toArray s 8 (6 * 8) (hyA G1)) (F0 m 45 ls []) := by
    intro f
    induction f with
    | zero =>
      intro x4 x5 x6 C7 M8 qL h hq H locs ls hP hS hl kk
      rw [La_told_L45] at h
      cases h
    | succ f ih =>
      intro x4 x5 x6 C7 M8 qL h hq H locs ls hP hS hl kk
      rw [La_told_L45] at h
      refine lv_iload hx hb dL_told_45 (lv_at hl 15 rfl) ?_
      refine lv_aload_n hx hb dL_told_47 rfl (lv_at hl 2 rfl) ?_
      refine lv_iconst (v := 1) hx hb dL_told_48 rfl ?_
      obtain ⟨v9, hv9, h⟩ := hy_bind h
      obtain ⟨nv9, hv9⟩ := ldE_some hv9
      refine hy_iald (T := (C7, M8, Mo)) hx hb hX hP 30 6 (M8.1 30) (hy34 G1 (by decide)) rfl nv9 dL_told_49 ?_
      rw [hv9]
      refine lv_icmp_ge (tgt := 110) hx hb dL_told_50 (by decide) (fun c10 => ?_) (fun c10 => ?_)
      · rw [if_pos c10] at h
        exact kk x4 x5 x6 C7 M8 (Option.some.inj h).symm _ _ ls hP hS (lv_sub hl [0, 1, 2, 3, 4, 5, 6, 7, 8, 9, 10, 11, 12, 13, 14, 15] rfl)
      · rw [if_neg c10] at h
        refine lv_aload_n hx hb dL_told_53 rfl (lv_at hl 0 rfl) ?_
        refine lv_iload hx hb dL_told_54 (lv_at hl 15 rfl) ?_
        refine lv_iload hx hb dL_told_56 (lv_at hl 7 rfl) ?_
        refine lv_aload hx hb dL_told_58 (lv_at hl 6 rfl) ?_
        refine lv_aload_n hx hb dL_told_60 rfl (lv_at hl 2 rfl) ?_
        refine lv_aload_n hx hb dL_told_61 rfl (lv_at hl 3 rfl) ?_
        refine lv_aload hx hb dL_told_62 (lv_at hl 5 rfl) ?_
        obtain ⟨⟨v11, C12, M13⟩, hv11, h⟩ := hy_bind h
        try dsimp only at h
        refine hy_ret (hy_rS0 (T := (C7, M8, Mo)) (v := some (.int (bI v11))) (T2 := (C12, M13, Mo)) (As := [.ref (adr G1 0), .int x6, .int v2, .ref (adr G1 34), .ref (adr G1 30), .ref (adr G1 31), .ref (adr G1 33)]) (rest := []) (n := 0) hx hb hml hown hts hX hP hS hl (c_La_note hlt (by omega) Mo x6 v2 C7 M8 hv11) m_La_note q_659 rfl rfl (Nat.le_of_ble_eq_true rfl) dL_told_64 ⟨Nat.le_of_ble_eq_true rfl, Nat.le_of_ble_eq_true rfl⟩ ⟨by decide, by decide⟩) hS (fun H locs hP hS => ?_)
        refine lv_if_ne (tgt := 72) hx hb dL_told_67 (by decide) (fun c14 => ?_) (fun c14 => ?_)
        · rw [if_pos (bI_1 c14)] at h
          refine lv_iload hx hb dL_told_72 (lv_at hl 9 rfl) ?_
          refine lv_aload_n hx hb dL_told_74 rfl (lv_at hl 3 rfl) ?_
          refine lv_iconst (v := 5) hx hb dL_told_75 rfl ?_
          refine lv_iload hx hb dL_told_76 (lv_at hl 15 rfl) ?_
          refine lv_imul hx hb dL_told_78 ?_
          obtain ⟨v15, hv15, h⟩ := hy_bind h
          obtain ⟨nv15, hv15⟩ := ldE_some hv15
          refine hy_iald (T := (C12, M13, Mo)) hx hb hX hP 31 60 (M13.1 31) (hy34 G1 (by decide)) rfl nv15 dL_told_79 ?_
          rw [hv15]
          refine lv_iconst (v := 2) hx hb dL_told_80 rfl ?_
          refine lv_ishr hx hb dL_told_81 ?_
          refine lv_iadd hx hb dL_told_82 ?_
          refine lv_istore (lv' := [(9, .int (x4 + (v15 >>> (2 &&& 31)))), (0, .ref (adr G1 0)), (1, .int a1), (2, .ref (adr G1 30)), (3, .ref (adr G1 31)), (4, .ref (adr G1 32)), (5, .ref (adr G1 33)), (6, .ref (adr G1 34)), (7, .int v2), (8, .int v3), (10, .int 0), (11, .int x5), (12, .int (-1)), (13, .int 0), (14, .int 0), (15, .int x6)]) hx hb dL_told_83 hl (by decide) rfl (fun ls hl => ?_)
          refine lv_iload hx hb dL_told_85 (lv_at hl 11 rfl) ?_
          refine lv_iload hx hb dL_told_87 (lv_at hl 15 rfl) ?_
          refine lv_aload_n hx hb dL_told_89 rfl (lv_at hl 4 rfl) ?_
          obtain ⟨v16, hv16, h⟩ := hy_bind h
          refine hy_ret (hy_rS0 (T := (C12, M13, Mo)) (v := some (.int v16)) (T2 := (C12, M13, Mo)) (As := [.int x6, .ref (adr G1 31)]) (rest := [.int x5]) (n := 0) hx hb hml hown hts hX hP hS hl (c_La_parallels C12 Mo x6 M13 hv16) m_La_parallels q_729 rfl rfl (Nat.le_of_ble_eq_true rfl) dL_told_90 ⟨Nat.le_of_ble_eq_true rfl, Nat.le_of_ble_eq_true rfl⟩ ⟨by decide, by decide⟩) hS (fun H locs hP hS => ?_)
          have J18 : ∀ (H : Heap) (locs : List Loc) (ls : Array Slot) (u1 : Int32), u1 = (bI (!decide (v16 ≤ 0))) → va_P G1.1 vwCl (wld G1 (C12, M13, Mo)) H → va_S (hyA G1) s.heap H locs → lv_has ls 22 [(0, .ref (adr G1 0)), (1, .int a1), (2, .ref (adr G1 30)), (3, .ref (adr G1 31)), (4, .ref (adr G1 32)), (5, .ref (adr G1 33)), (6, .ref (adr G1 34)), (7, .int v2), (8, .int v3), (9, .int (x4 + (v15 >>> (2 &&& 31)))), (10, .int 0), (11, .int x5), (12, .int (-1)), (13, .int 0), (14, .int 0), (15, .int x6)] → W p l e { frames := 9, cells := 8, slots := 6 * 8, locals := 196 } s m ([.ref (adr G 0), .int a1, .ref (adr G 30), .ref (adr G 31), .ref (adr G 32), .ref (adr G 33)] : List Value).toArray below meth c H locs 1 30 (vx_MQ below (hyQ G1 (.inr (some (.int (bI res.1))), (res.2.1, res.2.2, Mo))) (hyXQ G1 (.inr (some (.int (bI res.1))), (res.2.1, res.2.2, Mo))) ([.ref (adr G 0), .int a1, .ref (adr G 30), .ref (adr G 31), .ref (adr G 32), .ref (adr G 33)] : List Value).toArray s 8 (6 * 8) (hyA G1)) (F0 m 101 ls [.int u1, .int x5]) := by
            intro H locs ls u1 eu1 hP hS hl
            subst eu1
            refine lv_iadd hx hb dL_told_101 ?_
            refine lv_istore (lv' := [(11, .int (x5 + (bI (!decide (v16 ≤ 0))))), (0, .ref (adr G1 0)), (1, .int a1), (2, .ref (adr G1 30)), (3, .ref (adr G1 31)), (4, .ref (adr G1 32)), (5, .ref (adr G1 33)), (6, .ref (adr G1 34)), (7, .int v2), (8, .int v3), (9, .int (x4 + (v15 >>> (2 &&& 31)))), (10, .int 0), (12, .int (-1)), (13, .int 0), (14, .int 0), (15, .int x6)]) hx hb dL_told_102 hl (by decide) rfl (fun ls hl => ?_)
            refine lv_iinc (v := (x6 + 1)) (lv' := [(15, .int (x6 + 1)), (11, .int (x5 + (bI (!decide (v16 ≤ 0))))), (0, .ref (adr G1 0)), (1, .int a1), (2, .ref (adr G1 30)), (3, .ref (adr G1 31)), (4, .ref (adr G1 32)), (5, .ref (adr G1 33)), (6, .ref (adr G1 34)), (7, .int v2), (8, .int v3), (9, .int (x4 + (v15 >>> (2 &&& 31)))), (10, .int 0), (12, .int (-1)), (13, .int 0), (14, .int 0)]) hx hb dL_told_104 hl (k := 15) rfl rfl (by decide) rfl (fun ls hl => ?_)
            refine lv_goto (tgt := 45) hx hb dL_told_107 (by decide) ?_
            exact ih (x4 + (v15 >>> (2 &&& 31))) (x5 + (bI (!decide (v16 ≤ 0)))) (x6 + 1) C12 M13 _ h hq _ _ ls hP hS (lv_sub hl [2, 3, 4, 5, 6, 7, 8, 9, 10, 11, 12, 1, 13, 14, 15, 0] rfl) kk
          refine lv_if_le (tgt := 100) hx hb dL_told_93 (by decide) (fun c17 => ?_) (fun c17 => ?_)
          · refine lv_iconst (v := 0) hx hb dL_told_100 rfl ?_
            exact J18 _ _ ls 0 (by rw [decide_eq_true c17] <;> rfl) hP hS (lv_sub hl [1, 2, 3, 4, 5, 6, 7, 8, 9, 0, 10, 11, 12, 13, 14, 15] rfl)
          · refine lv_iconst (v := 1) hx hb dL_told_96 rfl ?_
            refine lv_goto (tgt := 101) hx hb dL_told_97 (by decide) ?_
            exact J18 _ _ ls 1 (by rw [decide_eq_false c17] <;> rfl) hP hS (lv_sub hl [1, 2, 3, 4, 5, 6, 7, 8, 9, 0, 10, 11, 12, 13, 14, 15] rfl)
        · rw [if_neg (bI_0 c14)] at h
          refine lv_iconst (v := 0) hx hb dL_told_70 rfl ?_
          exact hy_zret (T := (C12, M13, Mo)) hx hb hr hlocks hP hS (by decide) (by decide) (bI_nar false) (by rw [← (hq _ (Option.some.inj h).symm).symm] <;> rfl) dL_told_71
  obtain ⟨q226, hq226, h⟩ := hy_bind h
  refine L19 hyFu 0 0 0 C M1 q226 hq226 (fun r9 e9 => by subst e9; exact (Option.some.inj h).symm) _ _ ls hP hS (lv_sub hl [10, 11, 12, 13, 14, 15, 9, 8, 7, 6, 5, 4, 3, 2, 1, 0] rfl) ?_
  intro y4 y5 y6 NC7 NM8 e9 H locs ls hP hS hl
  subst e9
  try dsimp only at h
  refine lv_iconst (v := 0) hx hb dL_told_110 rfl ?_
  refine lv_istore (lv' := [(15, .int 0), (0, .ref (adr G1 0)), (1, .int a1), (2, .ref (adr G1 30)), (3, .ref (adr G1 31)), (4, .ref (adr G1 32)), (5, .ref (adr G1 33)), (6, .ref (adr G1 34)), (7, .int v2), (8, .int v3), (9, .int y4), (10, .int 0), (11, .int y5), (12, .int (-1)), (13, .int 0), (14, .int 0)]) hx hb dL_told_111 hl (by decide) rfl (fun ls hl => ?_)
  have L79 : ∀ (f : Nat) (x20 : Int32) (x21 : Int32) (x22 : Int32) (x23 : Int32) (qL : ((Bool × hyM × hyM) ⊕ (Int32 × Int32 × Int32 × Int32))) (h : La_told_L113 v2 v3 NC7 NM8 f x20 x21 x22 x23 = some qL) (hq : ∀ r9, qL = .inl r9 → res = r9) (H : Heap) (locs : List Loc) (ls : Array Slot) (hP : va_P G1.1 vwCl (wld G1 (NC7, NM8, Mo)) H) (hS : va_S (hyA G1) s.heap H locs) (hl : lv_has ls 22 [(0, .ref (adr G1 0)), (1, .int a1), (2, .ref (adr G1 30)), (3, .ref (adr G1 31)), (4, .ref (adr G1 32)), (5, .ref (adr G1 33)), (6, .ref (adr G1 34)), (7, .int v2), (8, .int v3), (9, .int y4), (10, .int x20), (11, .int y5), (12, .int x21), (13, .int x22), (14, .int 0), (15, .int x23)]) (kk : ∀ (y20 : Int32) (y21 : Int32) (y22 : Int32) (y23 : Int32), qL = .inr (y20, y21, y22, y23) → ∀ (H : Heap) (locs : List Loc) (ls : Array Slot), va_P G1.1 vwCl (wld G1 (NC7, NM8, Mo)) H → va_S (hyA G1) s.heap H locs → lv_has ls 22 [(0, .ref (adr G1 0)), (1, .int a1), (2, .ref (adr G1 30)), (3, .ref (adr G1 31)), (4, .ref (adr G1 32)), (5, .ref (adr G1 33)), (6, .ref (adr G1 34)), (7, .int v2), (8, .int v3), (9, .int y4), (10, .int y20), (11, .int y5), (12, .int y21), (13, .int y22), (14, .int 0), (15, .int y23)] → W p l e { frames := 9, cells := 8, slots := 6 * 8, locals := 196 } s m ([.ref (adr G 0), .int a1, .ref (adr G 30), .ref (adr G 31), .ref (adr G 32), .ref (adr G 33)] : List Value).toArray below meth c H locs 1 30 (vx_MQ below (hyQ G1 (.inr (some (.int (bI res.1))), (res.2.1, res.2.2, Mo))) (hyXQ G1 (.inr (some (.int (bI res.1))), (res.2.1, res.2.2, Mo))) ([.ref (adr G 0), .int a1, .ref (adr G 30), .ref (adr G 31), .ref (adr G 32), .ref (adr G 33)] : List Value).toArray s 8 (6 * 8) (hyA G1)) (F0 m 350 ls [])), W p l e { frames := 9, cells := 8, slots := 6 * 8, locals := 196 } s m ([.ref (adr G 0), .int a1, .ref (adr G 30), .ref (adr G 31), .ref (adr G 32), .ref (adr G 33)] : List Value).toArray below meth c H locs 1 30 (vx_MQ below (hyQ G1 (.inr (some (.int (bI res.1))), (res.2.1, res.2.2, Mo))) (hyXQ G1 (.inr (some (.int (bI res.1))), (res.2.1, res.2.2, Mo))) ([.ref (adr G 0), .int a1, .ref (adr G 30), .ref (adr G 31), .ref (adr G 32), .ref (adr G 33)] : List Value).toArray s 8 (6 * 8) (hyA G1)) (F0 m 113 ls []) := by
    intro f
    induction f with
    | zero =>
      intro x20 x21 x22 x23 qL h hq H locs ls hP hS hl kk
      rw [La_told_L113] at h
      cases h
    | succ f ih =>
      intro x20 x21 x22 x23 qL h hq H locs ls hP hS hl kk
      rw [La_told_L113] at h
      refine lv_iload hx hb dL_told_113 (lv_at hl 15 rfl) ?_
      refine lv_iload hx hb dL_told_115 (lv_at hl 8 rfl) ?_
      refine lv_icmp_ge (tgt := 350) hx hb dL_told_117 (by decide) (fun c24 => ?_) (fun c24 => ?_)
      · rw [if_pos c24] at h
        exact kk x20 x21 x22 x23 (Option.some.inj h).symm _ _ ls hP hS (lv_sub hl [0, 1, 2, 3, 4, 5, 6, 7, 8, 9, 10, 11, 12, 13, 14, 15] rfl)
      · rw [if_neg c24] at h
        refine lv_iconst (v := 0) hx hb dL_told_120 rfl ?_
        refine lv_istore (lv' := [(16, .int 0), (0, .ref (adr G1 0)), (1, .int a1), (2, .ref (adr G1 30)), (3, .ref (adr G1 31)), (4, .ref (adr G1 32)), (5, .ref (adr G1 33)), (6, .ref (adr G1 34)), (7, .int v2), (8, .int v3), (9, .int y4), (10, .int x20), (11, .int y5), (12, .int x21), (13, .int x22), (14, .int 0), (15, .int x23)]) hx hb dL_told_121 hl (by decide) rfl (fun ls hl => ?_)
        refine lv_iconst (v := 0) hx hb dL_told_123 rfl ?_
        refine lv_istore (lv' := [(17, .int 0), (16, .int 0), (0, .ref (adr G1 0)), (1, .int a1), (2, .ref (adr G1 30)), (3, .ref (adr G1 31)), (4, .ref (adr G1 32)), (5, .ref (adr G1 33)), (6, .ref (adr G1 34)), (7, .int v2), (8, .int v3), (9, .int y4), (10, .int x20), (11, .int y5), (12, .int x21), (13, .int x22), (14, .int 0), (15, .int x23)]) hx hb dL_told_124 hl (by decide) rfl (fun ls hl => ?_)
        refine lv_iload hx hb dL_told_126 (lv_at hl 17 rfl) ?_
        refine lv_aload_n hx hb dL_told_128 rfl (lv_at hl 4 rfl) ?_
        refine lv_aload_n hx hb dL_told_129 rfl (lv_at hl 5 rfl) ?_
        obtain ⟨v25, hv25, h⟩ := hy_bind h
        refine hy_ret (hy_rS0 (T := (NC7, NM8, Mo)) (v := some (.int v25)) (T2 := (NC7, NM8, Mo)) (As := [.int x23, .ref (adr G1 30), .ref (adr G1 31)]) (rest := []) (n := 0) hx hb hml hown hts hX hP hS hl (c_La_first NC7 Mo x23 NM8 hv25) m_La_first q_714 rfl rfl (Nat.le_of_ble_eq_true rfl) dL_told_130 ⟨Nat.le_of_ble_eq_true rfl, Nat.le_of_ble_eq_true rfl⟩ ⟨by decide, by decide⟩) hS (fun H locs hP hS => ?_)
        refine lv_istore (lv' := [(18, .int v25), (17, .int 0), (16, .int 0), (0, .ref (adr G1 0)), (1, .int a1), (2, .ref (adr G1 30)), (3, .ref (adr G1 31)), (4, .ref (adr G1 32)), (5, .ref (adr G1 33)), (6, .ref (adr G1 34)), (7, .int v2), (8, .int v3), (9, .int y4), (10, .int x20), (11, .int y5), (12, .int x21), (13, .int x22), (14, .int 0), (15, .int x23)]) hx hb dL_told_133 hl (by decide) rfl (fun ls hl => ?_)
        have L31 : ∀ (f : Nat) (x26 : Int32) (x27 : Int32) (qL : (Int32 × Int32)) (h : La_told_L135 v2 NM8 x23 f x26 x27 = some qL) (H : Heap) (locs : List Loc) (ls : Array Slot) (hP : va_P G1.1 vwCl (wld G1 (NC7, NM8, Mo)) H) (hS : va_S (hyA G1) s.heap H locs) (hl : lv_has ls 22 [(0, .ref (adr G1 0)), (1, .int a1), (2, .ref (adr G1 30)), (3, .ref (adr G1 31)), (4, .ref (adr G1 32)), (5, .ref (adr G1 33)), (6, .ref (adr G1 34)), (7, .int v2), (8, .int v3), (9, .int y4), (10, .int x20), (11, .int y5), (12, .int x21), (13, .int x22), (14, .int 0), (15, .int x23), (16, .int x26), (17, .int 0), (18, .int x27)]) (kk : ∀ (y26 : Int32) (y27 : Int32), qL = (y26, y27) → ∀ (H : Heap) (locs : List Loc) (ls : Array Slot), va_P G1.1 vwCl (wld G1 (NC7, NM8, Mo)) H → va_S (hyA G1) s.heap H locs → lv_has ls 22 [(0, .ref (adr G1 0)), (1, .int a1), (2, .ref (adr G1 30)), (3, .ref (adr G1 31)), (4, .ref (adr G1 32)), (5, .ref (adr G1 33)), (6, .ref (adr G1 34)), (7, .int v2), (8, .int v3), (9, .int y4), (10, .int x20), (11, .int y5), (12, .int x21), (13, .int x22), (14, .int 0), (15, .int x23), (16, .int y26), (17, .int 0), (18, .int y27)] → W p l e { frames := 9, cells := 8, slots := 6 * 8, locals := 196 } s m ([.ref (adr G 0), .int a1, .ref (adr G 30), .ref (adr G 31), .ref (adr G 32), .ref (adr G 33)] : List Value).toArray below meth c H locs 1 30 (vx_MQ below (hyQ G1 (.inr (some (.int (bI res.1))), (res.2.1, res.2.2, Mo))) (hyXQ G1 (.inr (some (.int (bI res.1))), (res.2.1, res.2.2, Mo))) ([.ref (adr G 0), .int a1, .ref (adr G 30), .ref (adr G 31), .ref (adr G 32), .ref (adr G 33)] : List Value).toArray s 8 (6 * 8) (hyA G1)) (F0 m 171 ls [])), W p l e { frames := 9, cells := 8, slots := 6 * 8, locals := 196 } s m ([.ref (adr G 0), .int a1, .ref (adr G 30), .ref (adr G 31), .ref (adr G 32), .ref (adr G 33)] : List Value).toArray below meth c H locs 1 30 (vx_MQ below (hyQ G1 (.inr (some (.int (bI res.1))), (res.2.1, res.2.2, Mo))) (hyXQ G1 (.inr (some (.int (bI res.1))), (res.2.1, res.2.2, Mo))) ([.ref (adr G 0), .int a1, .ref (adr G 30), .ref (adr G 31), .ref (adr G 32), .ref (adr G 33)] : List Value).toArray s 8 (6 * 8) (hyA G1)) (F0 m 135 ls []) := by
          intro f
          induction f with
          | zero =>
            intro x26 x27 qL h H locs ls hP hS hl kk
            rw [La_told_L135] at h
            cases h
          | succ f ih =>
            intro x26 x27 qL h H locs ls hP hS hl kk
            rw [La_told_L135] at h
            refine lv_iload hx hb dL_told_135 (lv_at hl 18 rfl) ?_
            refine lv_iload hx hb dL_told_137 (lv_at hl 15 rfl) ?_
            refine lv_aload_n hx hb dL_told_139 rfl (lv_at hl 2 rfl) ?_
            refine lv_aload_n hx hb dL_told_140 rfl (lv_at hl 3 rfl) ?_
            obtain ⟨v28, hv28, h⟩ := hy_bind h
            refine hy_ret (hy_rS0 (T := (NC7, NM8, Mo)) (v := some (.int v28)) (T2 := (NC7, NM8, Mo)) (As := [.int x23, .ref (adr G1 30), .ref (adr G1 31)]) (rest := [.int x27]) (n := 0) hx hb hml hown hts hX hP hS hl (c_La_last NC7 Mo x23 NM8 hv28) m_La_last q_799 rfl rfl (Nat.le_of_ble_eq_true rfl) dL_told_141 ⟨Nat.le_of_ble_eq_true rfl, Nat.le_of_ble_eq_true rfl⟩ ⟨by decide, by decide⟩) hS (fun H locs hP hS => ?_)
            refine lv_icmp_gt (tgt := 171) hx hb dL_told_144 (by decide) (fun c29 => ?_) (fun c29 => ?_)
            · rw [if_pos c29] at h
              exact kk x26 x27 (Option.some.inj h).symm _ _ ls hP hS (lv_sub hl [0, 1, 2, 3, 4, 5, 6, 7, 8, 9, 10, 11, 12, 13, 14, 15, 16, 17, 18] rfl)
            · rw [if_neg c29] at h
              refine lv_iload hx hb dL_told_147 (lv_at hl 16 rfl) ?_
              refine lv_iload hx hb dL_told_149 (lv_at hl 18 rfl) ?_
              refine lv_iload hx hb dL_told_151 (lv_at hl 7 rfl) ?_
              refine lv_aload hx hb dL_told_153 (lv_at hl 6 rfl) ?_
              refine lv_aload_n hx hb dL_told_155 rfl (lv_at hl 2 rfl) ?_
              refine lv_aload_n hx hb dL_told_156 rfl (lv_at hl 3 rfl) ?_
              refine lv_aload hx hb dL_told_157 (lv_at hl 5 rfl) ?_
              obtain ⟨v30, hv30, h⟩ := hy_bind h
              refine hy_ret (hy_rS0 (T := (NC7, NM8, Mo)) (v := some (.int v30)) (T2 := (NC7, NM8, Mo)) (As := [.int x27, .int v2, .ref (adr G1 34), .ref (adr G1 30), .ref (adr G1 31), .ref (adr G1 33)]) (rest := [.int x26]) (n := 0) hx hb hml hown hts hX hP hS hl (c_La_column (by omega) NC7 Mo x27 v2 NM8 hv30) m_La_column q_717 rfl rfl (Nat.le_of_ble_eq_true rfl) dL_told_159 ⟨Nat.le_of_ble_eq_true rfl, Nat.le_of_ble_eq_true rfl⟩ ⟨by decide, by decide⟩) hS (fun H locs hP hS => ?_)
              refine lv_iadd hx hb dL_told_162 ?_
              refine lv_istore (lv' := [(16, .int (x26 + v30)), (0, .ref (adr G1 0)), (1, .int a1), (2, .ref (adr G1 30)), (3, .ref (adr G1 31)), (4, .ref (adr G1 32)), (5, .ref (adr G1 33)), (6, .ref (adr G1 34)), (7, .int v2), (8, .int v3), (9, .int y4), (10, .int x20), (11, .int y5), (12, .int x21), (13, .int x22), (14, .int 0), (15, .int x23), (17, .int 0), (18, .int x27)]) hx hb dL_told_163 hl (by decide) rfl (fun ls hl => ?_)
              refine lv_iinc (v := (x27 + 1)) (lv' := [(18, .int (x27 + 1)), (16, .int (x26 + v30)), (0, .ref (adr G1 0)), (1, .int a1), (2, .ref (adr G1 30)), (3, .ref (adr G1 31)), (4, .ref (adr G1 32)), (5, .ref (adr G1 33)), (6, .ref (adr G1 34)), (7, .int v2), (8, .int v3), (9, .int y4), (10, .int x20), (11, .int y5), (12, .int x21), (13, .int x22), (14, .int 0), (15, .int x23), (17, .int 0)]) hx hb dL_told_165 hl (k := 18) rfl rfl (by decide) rfl (fun ls hl => ?_)
              refine lv_goto (tgt := 135) hx hb dL_told_168 (by decide) ?_
              exact ih (x26 + v30) (x27 + 1) _ h  _ _ ls hP hS (lv_sub hl [2, 3, 4, 5, 6, 7, 8, 9, 10, 11, 12, 13, 14, 15, 16, 17, 1, 18, 0] rfl) kk
        obtain ⟨q78, hq78, h⟩ := hy_bind h
        refine L31 hyFu 0 v25 q78 hq78 _ _ ls hP hS (lv_sub hl [3, 4, 5, 6, 7, 8, 9, 10, 11, 12, 13, 14, 15, 16, 17, 18, 2, 1, 0] rfl) ?_
        intro y26 y27 e9 H locs ls hP hS hl
        subst e9
        try dsimp only at h
        refine lv_iconst (v := 0) hx hb dL_told_171 rfl ?_
        refine lv_istore (lv' := [(18, .int 0), (0, .ref (adr G1 0)), (1, .int a1), (2, .ref (adr G1 30)), (3, .ref (adr G1 31)), (4, .ref (adr G1 32)), (5, .ref (adr G1 33)), (6, .ref (adr G1 34)), (7, .int v2), (8, .int v3), (9, .int y4), (10, .int x20), (11, .int y5), (12, .int x21), (13, .int x22), (14, .int 0), (15, .int x23), (16, .int y26), (17, .int 0)]) hx hb dL_told_172 hl (by decide) rfl (fun ls hl => ?_)
        have L38 : ∀ (f : Nat) (x32 : Int32) (x33 : Int32) (qL : (Int32 × Int32)) (h : La_told_L174 v2 NM8 x23 f x32 x33 = some qL) (H : Heap) (locs : List Loc) (ls : Array Slot) (hP : va_P G1.1 vwCl (wld G1 (NC7, NM8, Mo)) H) (hS : va_S (hyA G1) s.heap H locs) (hl : lv_has ls 22 [(0, .ref (adr G1 0)), (1, .int a1), (2, .ref (adr G1 30)), (3, .ref (adr G1 31)), (4, .ref (adr G1 32)), (5, .ref (adr G1 33)), (6, .ref (adr G1 34)), (7, .int v2), (8, .int v3), (9, .int y4), (10, .int x20), (11, .int y5), (12, .int x21), (13, .int x22), (14, .int 0), (15, .int x23), (16, .int y26), (17, .int x32), (18, .int x33)]) (kk : ∀ (y32 : Int32) (y33 : Int32), qL = (y32, y33) → ∀ (H : Heap) (locs : List Loc) (ls : Array Slot), va_P G1.1 vwCl (wld G1 (NC7, NM8, Mo)) H → va_S (hyA G1) s.heap H locs → lv_has ls 22 [(0, .ref (adr G1 0)), (1, .int a1), (2, .ref (adr G1 30)), (3, .ref (adr G1 31)), (4, .ref (adr G1 32)), (5, .ref (adr G1 33)), (6, .ref (adr G1 34)), (7, .int v2), (8, .int v3), (9, .int y4), (10, .int x20), (11, .int y5), (12, .int x21), (13, .int x22), (14, .int 0), (15, .int x23), (16, .int y26), (17, .int y32), (18, .int y33)] → W p l e { frames := 9, cells := 8, slots := 6 * 8, locals := 196 } s m ([.ref (adr G 0), .int a1, .ref (adr G 30), .ref (adr G 31), .ref (adr G 32), .ref (adr G 33)] : List Value).toArray below meth c H locs 1 30 (vx_MQ below (hyQ G1 (.inr (some (.int (bI res.1))), (res.2.1, res.2.2, Mo))) (hyXQ G1 (.inr (some (.int (bI res.1))), (res.2.1, res.2.2, Mo))) ([.ref (adr G 0), .int a1, .ref (adr G 30), .ref (adr G 31), .ref (adr G 32), .ref (adr G 33)] : List Value).toArray s 8 (6 * 8) (hyA G1)) (F0 m 207 ls [])), W p l e { frames := 9, cells := 8, slots := 6 * 8, locals := 196 } s m ([.ref (adr G 0), .int a1, .ref (adr G 30), .ref (adr G 31), .ref (adr G 32), .ref (adr G 33)] : List Value).toArray below meth c H locs 1 30 (vx_MQ below (hyQ G1 (.inr (some (.int (bI res.1))), (res.2.1, res.2.2, Mo))) (hyXQ G1 (.inr (some (.int (bI res.1))), (res.2.1, res.2.2, Mo))) ([.ref (adr G 0), .int a1, .ref (adr G 30), .ref (adr G 31), .ref (adr G 32), .ref (adr G 33)] : List Value).toArray s 8 (6 * 8) (hyA G1)) (F0 m 174 ls []) := by
          intro f
          induction f with
          | zero =>
            intro x32 x33 qL h H locs ls hP hS hl kk
            rw [La_told_L174] at h
            cases h
          | succ f ih =>
            intro x32 x33 qL h H locs ls hP hS hl kk
            rw [La_told_L174] at h
            refine lv_iload hx hb dL_told_174 (lv_at hl 18 rfl) ?_
            refine lv_iload hx hb dL_told_176 (lv_at hl 7 rfl) ?_
            refine lv_icmp_ge (tgt := 207) hx hb dL_told_178 (by decide) (fun c34 => ?_) (fun c34 => ?_)
            · rw [if_pos c34] at h
              exact kk x32 x33 (Option.some.inj h).symm _ _ ls hP hS (lv_sub hl [0, 1, 2, 3, 4, 5, 6, 7, 8, 9, 10, 11, 12, 13, 14, 15, 16, 17, 18] rfl)
            · rw [if_neg c34] at h
              refine lv_iload hx hb dL_told_181 (lv_at hl 17 rfl) ?_
              refine lv_aload hx hb dL_told_183 (lv_at hl 6 rfl) ?_
              refine lv_iload hx hb dL_told_185 (lv_at hl 18 rfl) ?_
              obtain ⟨v35, hv35, h⟩ := hy_bind h
              obtain ⟨nv35, hv35⟩ := ldE_some hv35
              refine hy_iald (T := (NC7, NM8, Mo)) hx hb hX hP 34 30 (NM8.1 34) (by omega) rfl nv35 dL_told_187 ?_
              rw [hv35]
              refine lv_iload hx hb dL_told_188 (lv_at hl 15 rfl) ?_
              have J37 : ∀ (H : Heap) (locs : List Loc) (ls : Array Slot) (u1 : Int32), u1 = (bI (decide (v35 = x23))) → va_P G1.1 vwCl (wld G1 (NC7, NM8, Mo)) H → va_S (hyA G1) s.heap H locs → lv_has ls 22 [(0, .ref (adr G1 0)), (1, .int a1), (2, .ref (adr G1 30)), (3, .ref (adr G1 31)), (4, .ref (adr G1 32)), (5, .ref (adr G1 33)), (6, .ref (adr G1 34)), (7, .int v2), (8, .int v3), (9, .int y4), (10, .int x20), (11, .int y5), (12, .int x21), (13, .int x22), (14, .int 0), (15, .int x23), (16, .int y26), (17, .int x32), (18, .int x33)] → W p l e { frames := 9, cells := 8, slots := 6 * 8, locals := 196 } s m ([.ref (adr G 0), .int a1, .ref (adr G 30), .ref (adr G 31), .ref (adr G 32), .ref (adr G 33)] : List Value).toArray below meth c H locs 1 30 (vx_MQ below (hyQ G1 (.inr (some (.int (bI res.1))), (res.2.1, res.2.2, Mo))) (hyXQ G1 (.inr (some (.int (bI res.1))), (res.2.1, res.2.2, Mo))) ([.ref (adr G 0), .int a1, .ref (adr G 30), .ref (adr G 31), .ref (adr G 32), .ref (adr G 33)] : List Value).toArray s 8 (6 * 8) (hyA G1)) (F0 m 198 ls [.int u1, .int x32]) := by
                intro H locs ls u1 eu1 hP hS hl
                subst eu1
                refine lv_iadd hx hb dL_told_198 ?_
                refine lv_istore (lv' := [(17, .int (x32 + (bI (decide (v35 = x23))))), (0, .ref (adr G1 0)), (1, .int a1), (2, .ref (adr G1 30)), (3, .ref (adr G1 31)), (4, .ref (adr G1 32)), (5, .ref (adr G1 33)), (6, .ref (adr G1 34)), (7, .int v2), (8, .int v3), (9, .int y4), (10, .int x20), (11, .int y5), (12, .int x21), (13, .int x22), (14, .int 0), (15, .int x23), (16, .int y26), (18, .int x33)]) hx hb dL_told_199 hl (by decide) rfl (fun ls hl => ?_)
                refine lv_iinc (v := (x33 + 1)) (lv' := [(18, .int (x33 + 1)), (17, .int (x32 + (bI (decide (v35 = x23))))), (0, .ref (adr G1 0)), (1, .int a1), (2, .ref (adr G1 30)), (3, .ref (adr G1 31)), (4, .ref (adr G1 32)), (5, .ref (adr G1 33)), (6, .ref (adr G1 34)), (7, .int v2), (8, .int v3), (9, .int y4), (10, .int x20), (11, .int y5), (12, .int x21), (13, .int x22), (14, .int 0), (15, .int x23), (16, .int y26)]) hx hb dL_told_201 hl (k := 18) rfl rfl (by decide) rfl (fun ls hl => ?_)
                refine lv_goto (tgt := 174) hx hb dL_told_204 (by decide) ?_
                exact ih (x32 + (bI (decide (v35 = x23)))) (x33 + 1) _ h  _ _ ls hP hS (lv_sub hl [2, 3, 4, 5, 6, 7, 8, 9, 10, 11, 12, 13, 14, 15, 16, 17, 18, 1, 0] rfl) kk
              refine lv_icmp_ne (tgt := 197) hx hb dL_told_190 (by decide) (fun c36 => ?_) (fun c36 => ?_)
              · refine lv_iconst (v := 0) hx hb dL_told_197 rfl ?_
                exact J37 _ _ ls 0 (by rw [decide_eq_false c36] <;> rfl) hP hS (lv_sub hl [0, 1, 2, 3, 4, 5, 6, 7, 8, 9, 10, 11, 12, 13, 14, 15, 16, 17, 18] rfl)
              · refine lv_iconst (v := 1) hx hb dL_told_193 rfl ?_
                refine lv_goto (tgt := 198) hx hb dL_told_194 (by decide) ?_
                exact J37 _ _ ls 1 (by rw [decide_eq_true c36] <;> rfl) hP hS (lv_sub hl [0, 1, 2, 3, 4, 5, 6, 7, 8, 9, 10, 11, 12, 13, 14, 15, 16, 17, 18] rfl)
        obtain ⟨q77, hq77, h⟩ := hy_bind h
        refine L38 hyFu 0 0 q77 hq77 _ _ ls hP hS (lv_sub hl [1, 2, 3, 4, 5, 6, 7, 8, 9, 10, 11, 12, 13, 14, 15, 16, 17, 18, 0] rfl) ?_
        intro y32 y33 e9 H locs ls hP hS hl
        subst e9
        try dsimp only at h
        refine lv_iload hx hb dL_told_207 (lv_at hl 10 rfl) ?_
        refine lv_iload hx hb dL_told_209 (lv_at hl 16 rfl) ?_
        refine lv_iadd hx hb dL_told_211 ?_
        refine lv_istore (lv' := [(10, .int (x20 + y26)), (0, .ref (adr G1 0)), (1, .int a1), (2, .ref (adr G1 30)), (3, .ref (adr G1 31)), (4, .ref (adr G1 32)), (5, .ref (adr G1 33)), (6, .ref (adr G1 34)), (7, .int v2), (8, .int v3), (9, .int y4), (11, .int y5), (12, .int x21), (13, .int x22), (14, .int 0), (15, .int x23), (16, .int y26), (17, .int y32), (18, .int y33)]) hx hb dL_told_212 hl (by decide) rfl (fun ls hl => ?_)
        refine lv_iload hx hb dL_told_214 (lv_at hl 12 rfl) ?_
        refine lv_if_lt (tgt := 230) hx hb dL_told_216 (by decide) (fun c39 => ?_) (fun c39 => ?_)
        · rw [if_pos c39] at h
          refine lv_iinc (v := (x21 + 1)) (lv' := [(12, .int (x21 + 1)), (10, .int (x20 + y26)), (0, .ref (adr G1 0)), (1, .int a1), (2, .ref (adr G1 30)), (3, .ref (adr G1 31)), (4, .ref (adr G1 32)), (5, .ref (adr G1 33)), (6, .ref (adr G1 34)), (7, .int v2), (8, .int v3), (9, .int y4), (11, .int y5), (13, .int x22), (14, .int 0), (15, .int x23), (16, .int y26), (17, .int y32), (18, .int y33)]) hx hb dL_told_230 hl (k := 12) rfl rfl (by decide) rfl (fun ls hl => ?_)
          refine lv_iconst (v := 0) hx hb dL_told_233 rfl ?_
          refine lv_istore (lv' := [(13, .int 0), (12, .int (x21 + 1)), (10, .int (x20 + y26)), (0, .ref (adr G1 0)), (1, .int a1), (2, .ref (adr G1 30)), (3, .ref (adr G1 31)), (4, .ref (adr G1 32)), (5, .ref (adr G1 33)), (6, .ref (adr G1 34)), (7, .int v2), (8, .int v3), (9, .int y4), (11, .int y5), (14, .int 0), (15, .int x23), (16, .int y26), (17, .int y32), (18, .int y33)]) hx hb dL_told_234 hl (by decide) rfl (fun ls hl => ?_)
          refine lv_iload hx hb dL_told_236 (lv_at hl 0 rfl) ?_
          refine lv_iload hx hb dL_told_238 (lv_at hl 16 rfl) ?_
          refine lv_iadd hx hb dL_told_240 ?_
          refine lv_istore (lv' := [(13, .int (0 + y26)), (12, .int (x21 + 1)), (10, .int (x20 + y26)), (0, .ref (adr G1 0)), (1, .int a1), (2, .ref (adr G1 30)), (3, .ref (adr G1 31)), (4, .ref (adr G1 32)), (5, .ref (adr G1 33)), (6, .ref (adr G1 34)), (7, .int v2), (8, .int v3), (9, .int y4), (11, .int y5), (14, .int 0), (15, .int x23), (16, .int y26), (17, .int y32), (18, .int y33)]) hx hb dL_told_241 hl (by decide) rfl (fun ls hl => ?_)
          refine lv_aload_n hx hb dL_told_243 rfl (lv_at hl 3 rfl) ?_
          refine lv_iload hx hb dL_told_244 (lv_at hl 15 rfl) ?_
          refine lv_iconst (v := 0) hx hb dL_told_246 rfl ?_
          obtain ⟨v40, hv40, h⟩ := hy_bind h
          refine hy_ret (hy_rV0 (T := (NC7, NM8, Mo)) (v := some (.int v40)) (T2 := (NC7, NM8, Mo)) (As := [.int x23, .int 0]) (rest := []) (n := 0) hx hb hml hown hts hX hP hS hl (c_Hp_phrase hlt NM8 Mo x23 0 NC7 (res := .inr v40) (rt_some hv40)) m_Hp_phrase q_802 (hy_recv hX hP 0 9 (by decide) rfl rfl) rfl rfl (Nat.le_of_ble_eq_true rfl) dL_told_247 ⟨Nat.le_of_ble_eq_true rfl, Nat.le_of_ble_eq_true rfl⟩ ⟨by decide, by decide⟩) hS (fun H locs hP hS => ?_)
          refine lv_iload hx hb dL_told_250 (lv_at hl 15 rfl) ?_
          refine lv_aload_n hx hb dL_told_252 rfl (lv_at hl 5 rfl) ?_
          refine lv_aload_n hx hb dL_told_253 rfl (lv_at hl 6 rfl) ?_
          obtain ⟨v41, hv41, h⟩ := hy_bind h
          refine hy_ret (hy_rS0 (T := (NC7, NM8, Mo)) (v := some (.int v41)) (T2 := (NC7, NM8, Mo)) (As := [.int x23, .ref (adr G1 30), .ref (adr G1 31)]) (rest := [.int v40]) (n := 0) hx hb hml hown hts hX hP hS hl (c_La_first NC7 Mo x23 NM8 hv41) m_La_first q_714 rfl rfl (Nat.le_of_ble_eq_true rfl) dL_told_254 ⟨Nat.le_of_ble_eq_true rfl, Nat.le_of_ble_eq_true rfl⟩ ⟨by decide, by decide⟩) hS (fun H locs hP hS => ?_)
          refine lv_icmp_ne (tgt := 342) hx hb dL_told_257 (by decide) (fun c42 => ?_) (fun c42 => ?_)
          · rw [if_neg c42] at h
            refine lv_iconst (v := 0) hx hb dL_told_342 rfl ?_
            exact hy_zret (T := (NC7, NM8, Mo)) hx hb hr hlocks hP hS (by decide) (by decide) (bI_nar false) (by rw [← (hq _ (Option.some.inj h).symm).symm] <;> rfl) dL_told_343
          · rw [if_pos (c42)] at h
            refine lv_aload_n hx hb dL_told_260 rfl (lv_at hl 3 rfl) ?_
            refine lv_iload hx hb dL_told_261 (lv_at hl 15 rfl) ?_
            refine lv_iconst (v := 1) hx hb dL_told_263 rfl ?_
            obtain ⟨v43, hv43, h⟩ := hy_bind h
            refine hy_ret (hy_rV0 (T := (NC7, NM8, Mo)) (v := some (.int v43)) (T2 := (NC7, NM8, Mo)) (As := [.int x23, .int 1]) (rest := []) (n := 0) hx hb hml hown hts hX hP hS hl (c_Hp_phrase hlt NM8 Mo x23 1 NC7 (res := .inr v43) (rt_some hv43)) m_Hp_phrase q_802 (hy_recv hX hP 0 9 (by decide) rfl rfl) rfl rfl (Nat.le_of_ble_eq_true rfl) dL_told_264 ⟨Nat.le_of_ble_eq_true rfl, Nat.le_of_ble_eq_true rfl⟩ ⟨by decide, by decide⟩) hS (fun H locs hP hS => ?_)
            refine lv_iload hx hb dL_told_267 (lv_at hl 15 rfl) ?_
            refine lv_aload_n hx hb dL_told_269 rfl (lv_at hl 5 rfl) ?_
            refine lv_aload_n hx hb dL_told_270 rfl (lv_at hl 6 rfl) ?_
            obtain ⟨v44, hv44, h⟩ := hy_bind h
            refine hy_ret (hy_rS0 (T := (NC7, NM8, Mo)) (v := some (.int v44)) (T2 := (NC7, NM8, Mo)) (As := [.int x23, .ref (adr G1 30), .ref (adr G1 31)]) (rest := [.int v43]) (n := 0) hx hb hml hown hts hX hP hS hl (c_La_last NC7 Mo x23 NM8 hv44) m_La_last q_799 rfl rfl (Nat.le_of_ble_eq_true rfl) dL_told_271 ⟨Nat.le_of_ble_eq_true rfl, Nat.le_of_ble_eq_true rfl⟩ ⟨by decide, by decide⟩) hS (fun H locs hP hS => ?_)
            refine lv_icmp_ne (tgt := 342) hx hb dL_told_274 (by decide) (fun c45 => ?_) (fun c45 => ?_)
            · rw [if_neg c45] at h
              refine lv_iconst (v := 0) hx hb dL_told_342 rfl ?_
              exact hy_zret (T := (NC7, NM8, Mo)) hx hb hr hlocks hP hS (by decide) (by decide) (bI_nar false) (by rw [← (hq _ (Option.some.inj h).symm).symm] <;> rfl) dL_told_343
            · rw [if_pos (c45)] at h
              refine lv_aload_n hx hb dL_told_277 rfl (lv_at hl 3 rfl) ?_
              refine lv_iload hx hb dL_told_278 (lv_at hl 15 rfl) ?_
              refine lv_iconst (v := 2) hx hb dL_told_280 rfl ?_
              obtain ⟨v46, hv46, h⟩ := hy_bind h
              refine hy_ret (hy_rV0 (T := (NC7, NM8, Mo)) (v := some (.int v46)) (T2 := (NC7, NM8, Mo)) (As := [.int x23, .int 2]) (rest := []) (n := 0) hx hb hml hown hts hX hP hS hl (c_Hp_phrase hlt NM8 Mo x23 2 NC7 (res := .inr v46) (rt_some hv46)) m_Hp_phrase q_802 (hy_recv hX hP 0 9 (by decide) rfl rfl) rfl rfl (Nat.le_of_ble_eq_true rfl) dL_told_281 ⟨Nat.le_of_ble_eq_true rfl, Nat.le_of_ble_eq_true rfl⟩ ⟨by decide, by decide⟩) hS (fun H locs hP hS => ?_)
              refine lv_iload hx hb dL_told_284 (lv_at hl 15 rfl) ?_
              refine lv_aload_n hx hb dL_told_286 rfl (lv_at hl 5 rfl) ?_
              refine lv_aload_n hx hb dL_told_287 rfl (lv_at hl 6 rfl) ?_
              obtain ⟨v47, hv47, h⟩ := hy_bind h
              refine hy_ret (hy_rS0 (T := (NC7, NM8, Mo)) (v := some (.int v47)) (T2 := (NC7, NM8, Mo)) (As := [.int x23, .ref (adr G1 30), .ref (adr G1 31)]) (rest := [.int v46]) (n := 0) hx hb hml hown hts hX hP hS hl (c_La_first NC7 Mo x23 NM8 hv47) m_La_first q_714 rfl rfl (Nat.le_of_ble_eq_true rfl) dL_told_288 ⟨Nat.le_of_ble_eq_true rfl, Nat.le_of_ble_eq_true rfl⟩ ⟨by decide, by decide⟩) hS (fun H locs hP hS => ?_)
              refine lv_iload hx hb dL_told_291 (lv_at hl 15 rfl) ?_
              refine lv_aload_n hx hb dL_told_293 rfl (lv_at hl 5 rfl) ?_
              refine lv_aload_n hx hb dL_told_294 rfl (lv_at hl 6 rfl) ?_
              obtain ⟨v48, hv48, h⟩ := hy_bind h
              refine hy_ret (hy_rS0 (T := (NC7, NM8, Mo)) (v := some (.int v48)) (T2 := (NC7, NM8, Mo)) (As := [.int x23, .ref (adr G1 30), .ref (adr G1 31)]) (rest := [.int v47, .int v46]) (n := 0) hx hb hml hown hts hX hP hS hl (c_La_last NC7 Mo x23 NM8 hv48) m_La_last q_799 rfl rfl (Nat.le_of_ble_eq_true rfl) dL_told_295 ⟨Nat.le_of_ble_eq_true rfl, Nat.le_of_ble_eq_true rfl⟩ ⟨by decide, by decide⟩) hS (fun H locs hP hS => ?_)
              refine lv_aload_n hx hb dL_told_298 rfl (lv_at hl 5 rfl) ?_
              refine lv_aload_n hx hb dL_told_299 rfl (lv_at hl 6 rfl) ?_
              obtain ⟨v49, hv49, h⟩ := hy_bind h
              refine hy_ret (hy_rS0 (T := (NC7, NM8, Mo)) (v := some (.int v49)) (T2 := (NC7, NM8, Mo)) (As := [.int v47, .int v48, .ref (adr G1 30), .ref (adr G1 31)]) (rest := [.int v46]) (n := 0) hx hb hml hown hts hX hP hS hl (c_La_syllables NC7 Mo v47 v48 NM8 hv49) m_La_syllables q_723 rfl rfl (Nat.le_of_ble_eq_true rfl) dL_told_300 ⟨Nat.le_of_ble_eq_true rfl, Nat.le_of_ble_eq_true rfl⟩ ⟨by decide, by decide⟩) hS (fun H locs hP hS => ?_)
              refine lv_icmp_ne (tgt := 342) hx hb dL_told_303 (by decide) (fun c50 => ?_) (fun c50 => ?_)
              · rw [if_neg c50] at h
                refine lv_iconst (v := 0) hx hb dL_told_342 rfl ?_
                exact hy_zret (T := (NC7, NM8, Mo)) hx hb hr hlocks hP hS (by decide) (by decide) (bI_nar false) (by rw [← (hq _ (Option.some.inj h).symm).symm] <;> rfl) dL_told_343
              · rw [if_pos (c50)] at h
                refine lv_aload_n hx hb dL_told_306 rfl (lv_at hl 3 rfl) ?_
                refine lv_iload hx hb dL_told_307 (lv_at hl 15 rfl) ?_
                refine lv_iconst (v := 3) hx hb dL_told_309 rfl ?_
                obtain ⟨v51, hv51, h⟩ := hy_bind h
                refine hy_ret (hy_rV0 (T := (NC7, NM8, Mo)) (v := some (.int v51)) (T2 := (NC7, NM8, Mo)) (As := [.int x23, .int 3]) (rest := []) (n := 0) hx hb hml hown hts hX hP hS hl (c_Hp_phrase hlt NM8 Mo x23 3 NC7 (res := .inr v51) (rt_some hv51)) m_Hp_phrase q_802 (hy_recv hX hP 0 9 (by decide) rfl rfl) rfl rfl (Nat.le_of_ble_eq_true rfl) dL_told_310 ⟨Nat.le_of_ble_eq_true rfl, Nat.le_of_ble_eq_true rfl⟩ ⟨by decide, by decide⟩) hS (fun H locs hP hS => ?_)
                refine lv_iload hx hb dL_told_313 (lv_at hl 16 rfl) ?_
                refine lv_icmp_ne (tgt := 342) hx hb dL_told_315 (by decide) (fun c52 => ?_) (fun c52 => ?_)
                · rw [if_neg c52] at h
                  refine lv_iconst (v := 0) hx hb dL_told_342 rfl ?_
                  exact hy_zret (T := (NC7, NM8, Mo)) hx hb hr hlocks hP hS (by decide) (by decide) (bI_nar false) (by rw [← (hq _ (Option.some.inj h).symm).symm] <;> rfl) dL_told_343
                · rw [if_pos (c52)] at h
                  refine lv_aload_n hx hb dL_told_318 rfl (lv_at hl 3 rfl) ?_
                  refine lv_iload hx hb dL_told_319 (lv_at hl 15 rfl) ?_
                  refine lv_iconst (v := 4) hx hb dL_told_321 rfl ?_
                  obtain ⟨v53, hv53, h⟩ := hy_bind h
                  refine hy_ret (hy_rV0 (T := (NC7, NM8, Mo)) (v := some (.int v53)) (T2 := (NC7, NM8, Mo)) (As := [.int x23, .int 4]) (rest := []) (n := 0) hx hb hml hown hts hX hP hS hl (c_Hp_phrase hlt NM8 Mo x23 4 NC7 (res := .inr v53) (rt_some hv53)) m_Hp_phrase q_802 (hy_recv hX hP 0 9 (by decide) rfl rfl) rfl rfl (Nat.le_of_ble_eq_true rfl) dL_told_322 ⟨Nat.le_of_ble_eq_true rfl, Nat.le_of_ble_eq_true rfl⟩ ⟨by decide, by decide⟩) hS (fun H locs hP hS => ?_)
                  refine lv_iload hx hb dL_told_325 (lv_at hl 1 rfl) ?_
                  refine lv_icmp_ne (tgt := 342) hx hb dL_told_327 (by decide) (fun c54 => ?_) (fun c54 => ?_)
                  · rw [if_neg c54] at h
                    refine lv_iconst (v := 0) hx hb dL_told_342 rfl ?_
                    exact hy_zret (T := (NC7, NM8, Mo)) hx hb hr hlocks hP hS (by decide) (by decide) (bI_nar false) (by rw [← (hq _ (Option.some.inj h).symm).symm] <;> rfl) dL_told_343
                  · rw [if_pos (c54)] at h
                    refine lv_aload_n hx hb dL_told_330 rfl (lv_at hl 3 rfl) ?_
                    refine lv_iload hx hb dL_told_331 (lv_at hl 15 rfl) ?_
                    refine lv_iconst (v := 5) hx hb dL_told_333 rfl ?_
                    obtain ⟨v55, hv55, h⟩ := hy_bind h
                    refine hy_ret (hy_rV0 (T := (NC7, NM8, Mo)) (v := some (.int v55)) (T2 := (NC7, NM8, Mo)) (As := [.int x23, .int 5]) (rest := []) (n := 0) hx hb hml hown hts hX hP hS hl (c_Hp_phrase hlt NM8 Mo x23 5 NC7 (res := .inr v55) (rt_some hv55)) m_Hp_phrase q_802 (hy_recv hX hP 0 9 (by decide) rfl rfl) rfl rfl (Nat.le_of_ble_eq_true rfl) dL_told_334 ⟨Nat.le_of_ble_eq_true rfl, Nat.le_of_ble_eq_true rfl⟩ ⟨by decide, by decide⟩) hS (fun H locs hP hS => ?_)
                    refine lv_iload hx hb dL_told_337 (lv_at hl 17 rfl) ?_
                    refine lv_icmp_eq (tgt := 344) hx hb dL_told_339 (by decide) (fun c56 => ?_) (fun c56 => ?_)
                    · rw [if_pos c56] at h
                      refine lv_iinc (v := (x23 + 1)) (lv' := [(15, .int (x23 + 1)), (13, .int (0 + y26)), (12, .int (x21 + 1)), (10, .int (x20 + y26)), (0, .ref (adr G1 0)), (1, .int a1), (2, .ref (adr G1 30)), (3, .ref (adr G1 31)), (4, .ref (adr G1 32)), (5, .ref (adr G1 33)), (6, .ref (adr G1 34)), (7, .int v2), (8, .int v3), (9, .int y4), (11, .int y5), (14, .int 0), (16, .int y26), (17, .int y32), (18, .int y33)]) hx hb dL_told_344 hl (k := 15) rfl rfl (by decide) rfl (fun ls hl => ?_)
                      refine lv_goto (tgt := 113) hx hb dL_told_347 (by decide) ?_
                      exact ih (x20 + y26) (x21 + 1) (0 + y26) (x23 + 1) _ h hq _ _ ls hP hS (lv_sub hl [4, 5, 6, 7, 8, 9, 10, 11, 12, 13, 3, 14, 2, 1, 15, 0] rfl) kk
                    · rw [if_neg c56] at h
                      refine lv_iconst (v := 0) hx hb dL_told_342 rfl ?_
                      exact hy_zret (T := (NC7, NM8, Mo)) hx hb hr hlocks hP hS (by decide) (by decide) (bI_nar false) (by rw [← (hq _ (Option.some.inj h).symm).symm] <;> rfl) dL_told_343
        · rw [if_neg c39] at h
          refine lv_iload hx hb dL_told_219 (lv_at hl 13 rfl) ?_
          refine lv_iload hx hb dL_told_221 (lv_at hl 16 rfl) ?_
          refine lv_iadd hx hb dL_told_223 ?_
          refine lv_aload_n hx hb dL_told_224 rfl (lv_at hl 3 rfl) ?_
          refine lv_iconst (v := 4) hx hb dL_told_225 rfl ?_
          obtain ⟨v57, hv57, h⟩ := hy_bind h
          obtain ⟨nv57, hv57⟩ := ldE_some hv57
          refine hy_iald (T := (NC7, NM8, Mo)) hx hb hX hP 30 6 (NM8.1 30) (hy34 G1 (by decide)) rfl nv57 dL_told_226 ?_
          rw [hv57]
          have J76 : ∀ (H : Heap) (locs : List Loc) (ls : Array Slot) (u1 : Int32) (u2 : Int32), u1 = ((if (x22 + y26) ≤ v57 then x21 else (x21 + 1)) : Int32) → u2 = ((if (x22 + y26) ≤ v57 then x22 else 0) : Int32) → va_P G1.1 vwCl (wld G1 (NC7, NM8, Mo)) H → va_S (hyA G1) s.heap H locs → lv_has ls 22 [(0, .ref (adr G1 0)), (1, .int a1), (2, .ref (adr G1 30)), (3, .ref (adr G1 31)), (4, .ref (adr G1 32)), (5, .ref (adr G1 33)), (6, .ref (adr G1 34)), (7, .int v2), (8, .int v3), (9, .int y4), (10, .int (x20 + y26)), (11, .int y5), (12, .int u1), (13, .int u2), (14, .int 0), (15, .int x23), (16, .int y26), (17, .int y32), (18, .int y33)] → W p l e { frames := 9, cells := 8, slots := 6 * 8, locals := 196 } s m ([.ref (adr G 0), .int a1, .ref (adr G 30), .ref (adr G 31), .ref (adr G 32), .ref (adr G 33)] : List Value).toArray below meth c H locs 1 30 (vx_MQ below (hyQ G1 (.inr (some (.int (bI res.1))), (res.2.1, res.2.2, Mo))) (hyXQ G1 (.inr (some (.int (bI res.1))), (res.2.1, res.2.2, Mo))) ([.ref (adr G 0), .int a1, .ref (adr G 30), .ref (adr G 31), .ref (adr G 32), .ref (adr G 33)] : List Value).toArray s 8 (6 * 8) (hyA G1)) (F0 m 236 ls []) := by
            intro H locs ls u1 u2 eu1 eu2 hP hS hl
            subst eu1
            subst eu2
            refine lv_iload hx hb dL_told_236 (lv_at hl 13 rfl) ?_
            refine lv_iload hx hb dL_told_238 (lv_at hl 16 rfl) ?_
            refine lv_iadd hx hb dL_told_240 ?_
            refine lv_istore (lv' := [(13, .int (((if (x22 + y26) ≤ v57 then x22 else 0) : Int32) + y26)), (0, .ref (adr G1 0)), (1, .int a1), (2, .ref (adr G1 30)), (3, .ref (adr G1 31)), (4, .ref (adr G1 32)), (5, .ref (adr G1 33)), (6, .ref (adr G1 34)), (7, .int v2), (8, .int v3), (9, .int y4), (10, .int (x20 + y26)), (11, .int y5), (12, .int ((if (x22 + y26) ≤ v57 then x21 else (x21 + 1)) : Int32)), (14, .int 0), (15, .int x23), (16, .int y26), (17, .int y32), (18, .int y33)]) hx hb dL_told_241 hl (by decide) rfl (fun ls hl => ?_)
            refine lv_aload_n hx hb dL_told_243 rfl (lv_at hl 1 rfl) ?_
            refine lv_iload hx hb dL_told_244 (lv_at hl 15 rfl) ?_
            refine lv_iconst (v := 0) hx hb dL_told_246 rfl ?_
            obtain ⟨v59, hv59, h⟩ := hy_bind h
            refine hy_ret (hy_rV0 (T := (NC7, NM8, Mo)) (v := some (.int v59)) (T2 := (NC7, NM8, Mo)) (As := [.int x23, .int 0]) (rest := []) (n := 0) hx hb hml hown hts hX hP hS hl (c_Hp_phrase hlt NM8 Mo x23 0 NC7 (res := .inr v59) (rt_some hv59)) m_Hp_phrase q_802 (hy_recv hX hP 0 9 (by decide) rfl rfl) rfl rfl (Nat.le_of_ble_eq_true rfl) dL_told_247 ⟨Nat.le_of_ble_eq_true rfl, Nat.le_of_ble_eq_true rfl⟩ ⟨by decide, by decide⟩) hS (fun H locs hP hS => ?_)
            refine lv_iload hx hb dL_told_250 (lv_at hl 15 rfl) ?_
            refine lv_aload_n hx hb dL_told_252 rfl (lv_at hl 3 rfl) ?_
            refine lv_aload_n hx hb dL_told_253 rfl (lv_at hl 4 rfl) ?_
            obtain ⟨v60, hv60, h⟩ := hy_bind h
            refine hy_ret (hy_rS0 (T := (NC7, NM8, Mo)) (v := some (.int v60)) (T2 := (NC7, NM8, Mo)) (As := [.int x23, .ref (adr G1 30), .ref (adr G1 31)]) (rest := [.int v59]) (n := 0) hx hb hml hown hts hX hP hS hl (c_La_first NC7 Mo x23 NM8 hv60) m_La_first q_714 rfl rfl (Nat.le_of_ble_eq_true rfl) dL_told_254 ⟨Nat.le_of_ble_eq_true rfl, Nat.le_of_ble_eq_true rfl⟩ ⟨by decide, by decide⟩) hS (fun H locs hP hS => ?_)
            refine lv_icmp_ne (tgt := 342) hx hb dL_told_257 (by decide) (fun c61 => ?_) (fun c61 => ?_)
            · rw [if_neg c61] at h
              refine lv_iconst (v := 0) hx hb dL_told_342 rfl ?_
              exact hy_zret (T := (NC7, NM8, Mo)) hx hb hr hlocks hP hS (by decide) (by decide) (bI_nar false) (by rw [← (hq _ (Option.some.inj h).symm).symm] <;> rfl) dL_told_343
            · rw [if_pos (c61)] at h
              refine lv_aload_n hx hb dL_told_260 rfl (lv_at hl 1 rfl) ?_
              refine lv_iload hx hb dL_told_261 (lv_at hl 15 rfl) ?_
              refine lv_iconst (v := 1) hx hb dL_told_263 rfl ?_
              obtain ⟨v62, hv62, h⟩ := hy_bind h
              refine hy_ret (hy_rV0 (T := (NC7, NM8, Mo)) (v := some (.int v62)) (T2 := (NC7, NM8, Mo)) (As := [.int x23, .int 1]) (rest := []) (n := 0) hx hb hml hown hts hX hP hS hl (c_Hp_phrase hlt NM8 Mo x23 1 NC7 (res := .inr v62) (rt_some hv62)) m_Hp_phrase q_802 (hy_recv hX hP 0 9 (by decide) rfl rfl) rfl rfl (Nat.le_of_ble_eq_true rfl) dL_told_264 ⟨Nat.le_of_ble_eq_true rfl, Nat.le_of_ble_eq_true rfl⟩ ⟨by decide, by decide⟩) hS (fun H locs hP hS => ?_)
              refine lv_iload hx hb dL_told_267 (lv_at hl 15 rfl) ?_
              refine lv_aload_n hx hb dL_told_269 rfl (lv_at hl 3 rfl) ?_
              refine lv_aload_n hx hb dL_told_270 rfl (lv_at hl 4 rfl) ?_
              obtain ⟨v63, hv63, h⟩ := hy_bind h
              refine hy_ret (hy_rS0 (T := (NC7, NM8, Mo)) (v := some (.int v63)) (T2 := (NC7, NM8, Mo)) (As := [.int x23, .ref (adr G1 30), .ref (adr G1 31)]) (rest := [.int v62]) (n := 0) hx hb hml hown hts hX hP hS hl (c_La_last NC7 Mo x23 NM8 hv63) m_La_last q_799 rfl rfl (Nat.le_of_ble_eq_true rfl) dL_told_271 ⟨Nat.le_of_ble_eq_true rfl, Nat.le_of_ble_eq_true rfl⟩ ⟨by decide, by decide⟩) hS (fun H locs hP hS => ?_)
              refine lv_icmp_ne (tgt := 342) hx hb dL_told_274 (by decide) (fun c64 => ?_) (fun c64 => ?_)
              · rw [if_neg c64] at h
                refine lv_iconst (v := 0) hx hb dL_told_342 rfl ?_
                exact hy_zret (T := (NC7, NM8, Mo)) hx hb hr hlocks hP hS (by decide) (by decide) (bI_nar false) (by rw [← (hq _ (Option.some.inj h).symm).symm] <;> rfl) dL_told_343
              · rw [if_pos (c64)] at h
                refine lv_aload_n hx hb dL_told_277 rfl (lv_at hl 1 rfl) ?_
                refine lv_iload hx hb dL_told_278 (lv_at hl 15 rfl) ?_
                refine lv_iconst (v := 2) hx hb dL_told_280 rfl ?_
                obtain ⟨v65, hv65, h⟩ := hy_bind h
                refine hy_ret (hy_rV0 (T := (NC7, NM8, Mo)) (v := some (.int v65)) (T2 := (NC7, NM8, Mo)) (As := [.int x23, .int 2]) (rest := []) (n := 0) hx hb hml hown hts hX hP hS hl (c_Hp_phrase hlt NM8 Mo x23 2 NC7 (res := .inr v65) (rt_some hv65)) m_Hp_phrase q_802 (hy_recv hX hP 0 9 (by decide) rfl rfl) rfl rfl (Nat.le_of_ble_eq_true rfl) dL_told_281 ⟨Nat.le_of_ble_eq_true rfl, Nat.le_of_ble_eq_true rfl⟩ ⟨by decide, by decide⟩) hS (fun H locs hP hS => ?_)
                refine lv_iload hx hb dL_told_284 (lv_at hl 15 rfl) ?_
                refine lv_aload_n hx hb dL_told_286 rfl (lv_at hl 3 rfl) ?_
                refine lv_aload_n hx hb dL_told_287 rfl (lv_at hl 4 rfl) ?_
                obtain ⟨v66, hv66, h⟩ := hy_bind h
                refine hy_ret (hy_rS0 (T := (NC7, NM8, Mo)) (v := some (.int v66)) (T2 := (NC7, NM8, Mo)) (As := [.int x23, .ref (adr G1 30), .ref (adr G1 31)]) (rest := [.int v65]) (n := 0) hx hb hml hown hts hX hP hS hl (c_La_first NC7 Mo x23 NM8 hv66) m_La_first q_714 rfl rfl (Nat.le_of_ble_eq_true rfl) dL_told_288 ⟨Nat.le_of_ble_eq_true rfl, Nat.le_of_ble_eq_true rfl⟩ ⟨by decide, by decide⟩) hS (fun H locs hP hS => ?_)
                refine lv_iload hx hb dL_told_291 (lv_at hl 15 rfl) ?_
                refine lv_aload_n hx hb dL_told_293 rfl (lv_at hl 3 rfl) ?_
                refine lv_aload_n hx hb dL_told_294 rfl (lv_at hl 4 rfl) ?_
                obtain ⟨v67, hv67, h⟩ := hy_bind h
                refine hy_ret (hy_rS0 (T := (NC7, NM8, Mo)) (v := some (.int v67)) (T2 := (NC7, NM8, Mo)) (As := [.int x23, .ref (adr G1 30), .ref (adr G1 31)]) (rest := [.int v66, .int v65]) (n := 0) hx hb hml hown hts hX hP hS hl (c_La_last NC7 Mo x23 NM8 hv67) m_La_last q_799 rfl rfl (Nat.le_of_ble_eq_true rfl) dL_told_295 ⟨Nat.le_of_ble_eq_true rfl, Nat.le_of_ble_eq_true rfl⟩ ⟨by decide, by decide⟩) hS (fun H locs hP hS => ?_)
                refine lv_aload_n hx hb dL_told_298 rfl (lv_at hl 3 rfl) ?_
                refine lv_aload_n hx hb dL_told_299 rfl (lv_at hl 4 rfl) ?_
                obtain ⟨v68, hv68, h⟩ := hy_bind h
                refine hy_ret (hy_rS0 (T := (NC7, NM8, Mo)) (v := some (.int v68)) (T2 := (NC7, NM8, Mo)) (As := [.int v66, .int v67, .ref (adr G1 30), .ref (adr G1 31)]) (rest := [.int v65]) (n := 0) hx hb hml hown hts hX hP hS hl (c_La_syllables NC7 Mo v66 v67 NM8 hv68) m_La_syllables q_723 rfl rfl (Nat.le_of_ble_eq_true rfl) dL_told_300 ⟨Nat.le_of_ble_eq_true rfl, Nat.le_of_ble_eq_true rfl⟩ ⟨by decide, by decide⟩) hS (fun H locs hP hS => ?_)
                refine lv_icmp_ne (tgt := 342) hx hb dL_told_303 (by decide) (fun c69 => ?_) (fun c69 => ?_)
                · rw [if_neg c69] at h
                  refine lv_iconst (v := 0) hx hb dL_told_342 rfl ?_
                  exact hy_zret (T := (NC7, NM8, Mo)) hx hb hr hlocks hP hS (by decide) (by decide) (bI_nar false) (by rw [← (hq _ (Option.some.inj h).symm).symm] <;> rfl) dL_told_343
                · rw [if_pos (c69)] at h
                  refine lv_aload_n hx hb dL_told_306 rfl (lv_at hl 1 rfl) ?_
                  refine lv_iload hx hb dL_told_307 (lv_at hl 15 rfl) ?_
                  refine lv_iconst (v := 3) hx hb dL_told_309 rfl ?_
                  obtain ⟨v70, hv70, h⟩ := hy_bind h
                  refine hy_ret (hy_rV0 (T := (NC7, NM8, Mo)) (v := some (.int v70)) (T2 := (NC7, NM8, Mo)) (As := [.int x23, .int 3]) (rest := []) (n := 0) hx hb hml hown hts hX hP hS hl (c_Hp_phrase hlt NM8 Mo x23 3 NC7 (res := .inr v70) (rt_some hv70)) m_Hp_phrase q_802 (hy_recv hX hP 0 9 (by decide) rfl rfl) rfl rfl (Nat.le_of_ble_eq_true rfl) dL_told_310 ⟨Nat.le_of_ble_eq_true rfl, Nat.le_of_ble_eq_true rfl⟩ ⟨by decide, by decide⟩) hS (fun H locs hP hS => ?_)
                  refine lv_iload hx hb dL_told_313 (lv_at hl 16 rfl) ?_
                  refine lv_icmp_ne (tgt := 342) hx hb dL_told_315 (by decide) (fun c71 => ?_) (fun c71 => ?_)
                  · rw [if_neg c71] at h
                    refine lv_iconst (v := 0) hx hb dL_told_342 rfl ?_
                    exact hy_zret (T := (NC7, NM8, Mo)) hx hb hr hlocks hP hS (by decide) (by decide) (bI_nar false) (by rw [← (hq _ (Option.some.inj h).symm).symm] <;> rfl) dL_told_343
                  · rw [if_pos (c71)] at h
                    refine lv_aload_n hx hb dL_told_318 rfl (lv_at hl 1 rfl) ?_
                    refine lv_iload hx hb dL_told_319 (lv_at hl 15 rfl) ?_
                    refine lv_iconst (v := 4) hx hb dL_told_321 rfl ?_
                    obtain ⟨v72, hv72, h⟩ := hy_bind h
                    refine hy_ret (hy_rV0 (T := (NC7, NM8, Mo)) (v := some (.int v72)) (T2 := (NC7, NM8, Mo)) (As := [.int x23, .int 4]) (rest := []) (n := 0) hx hb hml hown hts hX hP hS hl (c_Hp_phrase hlt NM8 Mo x23 4 NC7 (res := .inr v72) (rt_some hv72)) m_Hp_phrase q_802 (hy_recv hX hP 0 9 (by decide) rfl rfl) rfl rfl (Nat.le_of_ble_eq_true rfl) dL_told_322 ⟨Nat.le_of_ble_eq_true rfl, Nat.le_of_ble_eq_true rfl⟩ ⟨by decide, by decide⟩) hS (fun H locs hP hS => ?_)
                    refine lv_iload hx hb dL_told_325 (lv_at hl 13 rfl) ?_
                    refine lv_icmp_ne (tgt := 342) hx hb dL_told_327 (by decide) (fun c73 => ?_) (fun c73 => ?_)
                    · rw [if_neg c73] at h
                      refine lv_iconst (v := 0) hx hb dL_told_342 rfl ?_
                      exact hy_zret (T := (NC7, NM8, Mo)) hx hb hr hlocks hP hS (by decide) (by decide) (bI_nar false) (by rw [← (hq _ (Option.some.inj h).symm).symm] <;> rfl) dL_told_343
                    · rw [if_pos (c73)] at h
                      refine lv_aload_n hx hb dL_told_330 rfl (lv_at hl 1 rfl) ?_
                      refine lv_iload hx hb dL_told_331 (lv_at hl 15 rfl) ?_
                      refine lv_iconst (v := 5) hx hb dL_told_333 rfl ?_
                      obtain ⟨v74, hv74, h⟩ := hy_bind h
                      refine hy_ret (hy_rV0 (T := (NC7, NM8, Mo)) (v := some (.int v74)) (T2 := (NC7, NM8, Mo)) (As := [.int x23, .int 5]) (rest := []) (n := 0) hx hb hml hown hts hX hP hS hl (c_Hp_phrase hlt NM8 Mo x23 5 NC7 (res := .inr v74) (rt_some hv74)) m_Hp_phrase q_802 (hy_recv hX hP 0 9 (by decide) rfl rfl) rfl rfl (Nat.le_of_ble_eq_true rfl) dL_told_334 ⟨Nat.le_of_ble_eq_true rfl, Nat.le_of_ble_eq_true rfl⟩ ⟨by decide, by decide⟩) hS (fun H locs hP hS => ?_)
                      refine lv_iload hx hb dL_told_337 (lv_at hl 17 rfl) ?_
                      refine lv_icmp_eq (tgt := 344) hx hb dL_told_339 (by decide) (fun c75 => ?_) (fun c75 => ?_)
                      · rw [if_pos c75] at h
                        refine lv_iinc (v := (x23 + 1)) (lv' := [(15, .int (x23 + 1)), (13, .int (((if (x22 + y26) ≤ v57 then x22 else 0) : Int32) + y26)), (0, .ref (adr G1 0)), (1, .int a1), (2, .ref (adr G1 30)), (3, .ref (adr G1 31)), (4, .ref (adr G1 32)), (5, .ref (adr G1 33)), (6, .ref (adr G1 34)), (7, .int v2), (8, .int v3), (9, .int y4), (10, .int (x20 + y26)), (11, .int y5), (12, .int ((if (x22 + y26) ≤ v57 then x21 else (x21 + 1)) : Int32)), (14, .int 0), (16, .int y26), (17, .int y32), (18, .int y33)]) hx hb dL_told_344 hl (k := 15) rfl rfl (by decide) rfl (fun ls hl => ?_)
                        refine lv_goto (tgt := 113) hx hb dL_told_347 (by decide) ?_
                        exact ih (x20 + y26) ((if (x22 + y26) ≤ v57 then x21 else (x21 + 1)) : Int32) (((if (x22 + y26) ≤ v57 then x22 else 0) : Int32) + y26) (x23 + 1) _ h hq _ _ ls hP hS (lv_sub hl [2, 3, 4, 5, 6, 7, 8, 9, 10, 11, 12, 13, 14, 1, 15, 0] rfl) kk
                      · rw [if_neg c75] at h
                        refine lv_iconst (v := 0) hx hb dL_told_342 rfl ?_
                        exact hy_zret (T := (NC7, NM8, Mo)) hx hb hr hlocks hP hS (by decide) (by decide) (bI_nar false) (by rw [← (hq _ (Option.some.inj h).symm).symm] <;> rfl) dL_told_343
          refine lv_icmp_le (tgt := 236) hx hb dL_told_227 (by decide) (fun c58 => ?_) (fun c58 => ?_)
          · exact J76 _ _ ls x21 x22 (by rw [if_pos c58] <;> rfl) (by rw [if_pos c58] <;> rfl) hP hS (lv_sub hl [1, 2, 3, 4, 5, 6, 7, 8, 9, 10, 0, 11, 12, 13, 14, 15, 16, 17, 18] rfl)
          · refine lv_iinc (v := (x21 + 1)) (lv' := [(12, .int (x21 + 1)), (10, .int (x20 + y26)), (0, .ref (adr G1 0)), (1, .int a1), (2, .ref (adr G1 30)), (3, .ref (adr G1 31)), (4, .ref (adr G1 32)), (5, .ref (adr G1 33)), (6, .ref (adr G1 34)), (7, .int v2), (8, .int v3), (9, .int y4), (11, .int y5), (13, .int x22), (14, .int 0), (15, .int x23), (16, .int y26), (17, .int y32), (18, .int y33)]) hx hb dL_told_230 hl (k := 12) rfl rfl (by decide) rfl (fun ls hl => ?_)
            refine lv_iconst (v := 0) hx hb dL_told_233 rfl ?_
            refine lv_istore (lv' := [(13, .int 0), (12, .int (x21 + 1)), (10, .int (x20 + y26)), (0, .ref (adr G1 0)), (1, .int a1), (2, .ref (adr G1 30)), (3, .ref (adr G1 31)), (4, .ref (adr G1 32)), (5, .ref (adr G1 33)), (6, .ref (adr G1 34)), (7, .int v2), (8, .int v3), (9, .int y4), (11, .int y5), (14, .int 0), (15, .int x23), (16, .int y26), (17, .int y32), (18, .int y33)]) hx hb dL_told_234 hl (by decide) rfl (fun ls hl => ?_)
            exact J76 _ _ ls (x21 + 1) 0 (by rw [if_neg c58] <;> rfl) (by rw [if_neg c58] <;> rfl) hP hS (lv_sub hl [3, 4, 5, 6, 7, 8, 9, 10, 11, 12, 2, 13, 1, 0, 14, 15, 16, 17, 18] rfl)
  obtain ⟨q225, hq225, h⟩ := hy_bind h
  refine L79 hyFu 0 (-1) 0 0 q225 hq225 (fun r9 e9 => by subst e9; exact (Option.some.inj h).symm) _ _ ls hP hS (lv_sub hl [1, 2, 3, 4, 5, 6, 7, 8, 9, 10, 11, 12, 13, 14, 15, 0] rfl) ?_
  intro y20 y21 y22 y23 e9 H locs ls hP hS hl
  subst e9
  try dsimp only at h
  refine lv_iconst (v := 0) hx hb dL_told_350 rfl ?_
  refine lv_istore (lv' := [(15, .int 0), (0, .ref (adr G1 0)), (1, .int a1), (2, .ref (adr G1 30)), (3, .ref (adr G1 31)), (4, .ref (adr G1 32)), (5, .ref (adr G1 33)), (6, .ref (adr G1 34)), (7, .int v2), (8, .int v3), (9, .int y4), (10, .int y20), (11, .int y5), (12, .int y21), (13, .int y22), (14, .int 0)]) hx hb dL_told_351 hl (by decide) rfl (fun ls hl => ?_)
  have L85 : ∀ (f : Nat) (x80 : Int32) (qL : ((Bool × hyM × hyM) ⊕ (Int32))) (h : La_told_L353 v2 NC7 NM8 f x80 = some qL) (hq : ∀ r9, qL = .inl r9 → res = r9) (H : Heap) (locs : List Loc) (ls : Array Slot) (hP : va_P G1.1 vwCl (wld G1 (NC7, NM8, Mo)) H) (hS : va_S (hyA G1) s.heap H locs) (hl : lv_has ls 22 [(0, .ref (adr G1 0)), (1, .int a1), (2, .ref (adr G1 30)), (3, .ref (adr G1 31)), (4, .ref (adr G1 32)), (5, .ref (adr G1 33)), (6, .ref (adr G1 34)), (7, .int v2), (8, .int v3), (9, .int y4), (10, .int y20), (11, .int y5), (12, .int y21), (13, .int y22), (14, .int 0), (15, .int x80)]) (kk : ∀ (y80 : Int32), qL = .inr (y80) → ∀ (H : Heap) (locs : List Loc) (ls : Array Slot), va_P G1.1 vwCl (wld G1 (NC7, NM8, Mo)) H → va_S (hyA G1) s.heap H locs → lv_has ls 22 [(0, .ref (adr G1 0)), (1, .int a1), (2, .ref (adr G1 30)), (3, .ref (adr G1 31)), (4, .ref (adr G1 32)), (5, .ref (adr G1 33)), (6, .ref (adr G1 34)), (7, .int v2), (8, .int v3), (9, .int y4), (10, .int y20), (11, .int y5), (12, .int y21), (13, .int y22), (14, .int 0), (15, .int y80)] → W p l e { frames := 9, cells := 8, slots := 6 * 8, locals := 196 } s m ([.ref (adr G 0), .int a1, .ref (adr G 30), .ref (adr G 31), .ref (adr G 32), .ref (adr G 33)] : List Value).toArray below meth c H locs 1 30 (vx_MQ below (hyQ G1 (.inr (some (.int (bI res.1))), (res.2.1, res.2.2, Mo))) (hyXQ G1 (.inr (some (.int (bI res.1))), (res.2.1, res.2.2, Mo))) ([.ref (adr G 0), .int a1, .ref (adr G 30), .ref (adr G 31), .ref (adr G 32), .ref (adr G 33)] : List Value).toArray s 8 (6 * 8) (hyA G1)) (F0 m 382 ls [])), W p l e { frames := 9, cells := 8, slots := 6 * 8, locals := 196 } s m ([.ref (adr G 0), .int a1, .ref (adr G 30), .ref (adr G 31), .ref (adr G 32), .ref (adr G 33)] : List Value).toArray below meth c H locs 1 30 (vx_MQ below (hyQ G1 (.inr (some (.int (bI res.1))), (res.2.1, res.2.2, Mo))) (hyXQ G1 (.inr (some (.int (bI res.1))), (res.2.1, res.2.2, Mo))) ([.ref (adr G 0), .int a1, .ref (adr G 30), .ref (adr G 31), .ref (adr G 32), .ref (adr G 33)] : List Value).toArray s 8 (6 * 8) (hyA G1)) (F0 m 353 ls []) := by
    intro f
    induction f with
    | zero =>
      intro x80 qL h hq H locs ls hP hS hl kk
      rw [La_told_L353] at h
      cases h
    | succ f ih =>
      intro x80 qL h hq H locs ls hP hS hl kk
      rw [La_told_L353] at h
      refine lv_iload hx hb dL_told_353 (lv_at hl 15 rfl) ?_
      refine lv_iload hx hb dL_told_355 (lv_at hl 7 rfl) ?_
      refine lv_icmp_ge (tgt := 382) hx hb dL_told_357 (by decide) (fun c81 => ?_) (fun c81 => ?_)
      · rw [if_pos c81] at h
        exact kk x80 (Option.some.inj h).symm _ _ ls hP hS (lv_sub hl [0, 1, 2, 3, 4, 5, 6, 7, 8, 9, 10, 11, 12, 13, 14, 15] rfl)
      · rw [if_neg c81] at h
        refine lv_aload_n hx hb dL_told_360 rfl (lv_at hl 0 rfl) ?_
        refine lv_iload hx hb dL_told_361 (lv_at hl 15 rfl) ?_
        obtain ⟨v82, hv82, h⟩ := hy_bind h
        refine hy_ret (hy_rV0 (T := (NC7, NM8, Mo)) (v := some (.int v82)) (T2 := (NC7, NM8, Mo)) (As := [.int x80]) (rest := []) (n := 0) hx hb hml hown hts hX hP hS hl (c_Hp_sung hlt NM8 Mo x80 NC7 (res := .inr v82) (rt_some hv82)) m_Hp_sung q_820 (hy_recv hX hP 0 9 (by decide) rfl rfl) rfl rfl (Nat.le_of_ble_eq_true rfl) dL_told_363 ⟨Nat.le_of_ble_eq_true rfl, Nat.le_of_ble_eq_true rfl⟩ ⟨by decide, by decide⟩) hS (fun H locs hP hS => ?_)
        refine lv_aload hx hb dL_told_366 (lv_at hl 6 rfl) ?_
        refine lv_iload hx hb dL_told_368 (lv_at hl 15 rfl) ?_
        obtain ⟨v83, hv83, h⟩ := hy_bind h
        obtain ⟨nv83, hv83⟩ := ldE_some hv83
        refine hy_iald (T := (NC7, NM8, Mo)) hx hb hX hP 34 30 (NM8.1 34) (by omega) rfl nv83 dL_told_370 ?_
        rw [hv83]
        refine lv_icmp_eq (tgt := 376) hx hb dL_told_371 (by decide) (fun c84 => ?_) (fun c84 => ?_)
        · rw [if_pos c84] at h
          refine lv_iinc (v := (x80 + 1)) (lv' := [(15, .int (x80 + 1)), (0, .ref (adr G1 0)), (1, .int a1), (2, .ref (adr G1 30)), (3, .ref (adr G1 31)), (4, .ref (adr G1 32)), (5, .ref (adr G1 33)), (6, .ref (adr G1 34)), (7, .int v2), (8, .int v3), (9, .int y4), (10, .int y20), (11, .int y5), (12, .int y21), (13, .int y22), (14, .int 0)]) hx hb dL_told_376 hl (k := 15) rfl rfl (by decide) rfl (fun ls hl => ?_)
          refine lv_goto (tgt := 353) hx hb dL_told_379 (by decide) ?_
          exact ih (x80 + 1) _ h hq _ _ ls hP hS (lv_sub hl [1, 2, 3, 4, 5, 6, 7, 8, 9, 10, 11, 12, 13, 14, 15, 0] rfl) kk
        · rw [if_neg c84] at h
          refine lv_iconst (v := 0) hx hb dL_told_374 rfl ?_
          exact hy_zret (T := (NC7, NM8, Mo)) hx hb hr hlocks hP hS (by decide) (by decide) (bI_nar false) (by rw [← (hq _ (Option.some.inj h).symm).symm] <;> rfl) dL_told_375
  obtain ⟨q224, hq224, h⟩ := hy_bind h
  refine L85 hyFu 0 q224 hq224 (fun r9 e9 => by subst e9; exact (Option.some.inj h).symm) _ _ ls hP hS (lv_sub hl [1, 2, 3, 4, 5, 6, 7, 8, 9, 10, 11, 12, 13, 14, 15, 0] rfl) ?_
  intro y80 e9 H locs ls hP hS hl
  subst e9
  try dsimp only at h
  refine lv_iconst (v := 0) hx hb dL_told_382 rfl ?_
  refine lv_istore (lv' := [(15, .int 0), (0, .ref (adr G1 0)), (1, .int a1), (2, .ref (adr G1 30)), (3, .ref (adr G1 31)), (4, .ref (adr G1 32)), (5, .ref (adr G1 33)), (6, .ref (adr G1 34)), (7, .int v2), (8, .int v3), (9, .int y4), (10, .int y20), (11, .int y5), (12, .int y21), (13, .int y22), (14, .int 0)]) hx hb dL_told_383 hl (by decide) rfl (fun ls hl => ?_)
  have L118 : ∀ (f : Nat) (x86 : Int32) (x87 : Int32) (qL : ((Bool × hyM × hyM) ⊕ (Int32 × Int32))) (h : La_told_L385 v2 NC7 NM8 f x86 x87 = some qL) (hq : ∀ r9, qL = .inl r9 → res = r9) (H : Heap) (locs : List Loc) (ls : Array Slot) (hP : va_P G1.1 vwCl (wld G1 (NC7, NM8, Mo)) H) (hS : va_S (hyA G1) s.heap H locs) (hl : lv_has ls 22 [(0, .ref (adr G1 0)), (1, .int a1), (2, .ref (adr G1 30)), (3, .ref (adr G1 31)), (4, .ref (adr G1 32)), (5, .ref (adr G1 33)), (6, .ref (adr G1 34)), (7, .int v2), (8, .int v3), (9, .int y4), (10, .int y20), (11, .int y5), (12, .int y21), (13, .int y22), (14, .int x86), (15, .int x87)]) (kk : ∀ (y86 : Int32) (y87 : Int32), qL = .inr (y86, y87) → ∀ (H : Heap) (locs : List Loc) (ls : Array Slot), va_P G1.1 vwCl (wld G1 (NC7, NM8, Mo)) H → va_S (hyA G1) s.heap H locs → lv_has ls 22 [(0, .ref (adr G1 0)), (1, .int a1), (2, .ref (adr G1 30)), (3, .ref (adr G1 31)), (4, .ref (adr G1 32)), (5, .ref (adr G1 33)), (6, .ref (adr G1 34)), (7, .int v2), (8, .int v3), (9, .int y4), (10, .int y20), (11, .int y5), (12, .int y21), (13, .int y22), (14, .int y86), (15, .int y87)] → W p l e { frames := 9, cells := 8, slots := 6 * 8, locals := 196 } s m ([.ref (adr G 0), .int a1, .ref (adr G 30), .ref (adr G 31), .ref (adr G 32), .ref (adr G 33)] : List Value).toArray below meth c H locs 1 30 (vx_MQ below (hyQ G1 (.inr (some (.int (bI res.1))), (res.2.1, res.2.2, Mo))) (hyXQ G1 (.inr (some (.int (bI res.1))), (res.2.1, res.2.2, Mo))) ([.ref (adr G 0), .int a1, .ref (adr G 30), .ref (adr G 31), .ref (adr G 32), .ref (adr G 33)] : List Value).toArray s 8 (6 * 8) (hyA G1)) (F0 m 597 ls [])), W p l e { frames := 9, cells := 8, slots := 6 * 8, locals := 196 } s m ([.ref (adr G 0), .int a1, .ref (adr G 30), .ref (adr G 31), .ref (adr G 32), .ref (adr G 33)] : List Value).toArray below meth c H locs 1 30 (vx_MQ below (hyQ G1 (.inr (some (.int (bI res.1))), (res.2.1, res.2.2, Mo))) (hyXQ G1 (.inr (some (.int (bI res.1))), (res.2.1, res.2.2, Mo))) ([.ref (adr G 0), .int a1, .ref (adr G 30), .ref (adr G 31), .ref (adr G 32), .ref (adr G 33)] : List Value).toArray s 8 (6 * 8) (hyA G1)) (F0 m 385 ls []) := by
    intro f
    induction f with
    | zero =>
      intro x86 x87 qL h hq H locs ls hP hS hl kk
      rw [La_told_L385] at h
      cases h
    | succ f ih =>
      intro x86 x87 qL h hq H locs ls hP hS hl kk
      rw [La_told_L385] at h
      refine lv_iload hx hb dL_told_385 (lv_at hl 15 rfl) ?_
      refine lv_iconst (v := 4) hx hb dL_told_387 rfl ?_
      refine lv_icmp_ge (tgt := 597) hx hb dL_told_388 (by decide) (fun c88 => ?_) (fun c88 => ?_)
      · rw [if_pos c88] at h
        exact kk x86 x87 (Option.some.inj h).symm _ _ ls hP hS (lv_sub hl [0, 1, 2, 3, 4, 5, 6, 7, 8, 9, 10, 11, 12, 13, 14, 15] rfl)
      · rw [if_neg c88] at h
        refine lv_iload hx hb dL_told_391 (lv_at hl 15 rfl) ?_
        refine lv_iload hx hb dL_told_393 (lv_at hl 7 rfl) ?_
        refine lv_aload hx hb dL_told_395 (lv_at hl 6 rfl) ?_
        refine lv_aload_n hx hb dL_told_397 rfl (lv_at hl 2 rfl) ?_
        refine lv_aload_n hx hb dL_told_398 rfl (lv_at hl 3 rfl) ?_
        refine lv_aload hx hb dL_told_399 (lv_at hl 5 rfl) ?_
        obtain ⟨v89, hv89, h⟩ := hy_bind h
        refine hy_ret (hy_rS0 (T := (NC7, NM8, Mo)) (v := some (.int v89)) (T2 := (NC7, NM8, Mo)) (As := [.int x87, .int v2, .ref (adr G1 34), .ref (adr G1 30), .ref (adr G1 31), .ref (adr G1 33)]) (rest := []) (n := 0) hx hb hml hown hts hX hP hS hl (c_La_fit (by omega) NC7 Mo x87 v2 NM8 hv89) m_La_fit q_824 rfl rfl (Nat.le_of_ble_eq_true rfl) dL_told_401 ⟨Nat.le_of_ble_eq_true rfl, Nat.le_of_ble_eq_true rfl⟩ ⟨by decide, by decide⟩) hS (fun H locs hP hS => ?_)
        refine lv_istore (lv' := [(16, .int v89), (0, .ref (adr G1 0)), (1, .int a1), (2, .ref (adr G1 30)), (3, .ref (adr G1 31)), (4, .ref (adr G1 32)), (5, .ref (adr G1 33)), (6, .ref (adr G1 34)), (7, .int v2), (8, .int v3), (9, .int y4), (10, .int y20), (11, .int y5), (12, .int y21), (13, .int y22), (14, .int x86), (15, .int x87)]) hx hb dL_told_404 hl (by decide) rfl (fun ls hl => ?_)
        refine lv_iload hx hb dL_told_406 (lv_at hl 15 rfl) ?_
        refine lv_iload hx hb dL_told_408 (lv_at hl 0 rfl) ?_
        have J117 : ∀ (H : Heap) (locs : List Loc) (ls : Array Slot) (u1 : Int32), u1 = ((if 0 ≤ v89 then 0 else ((1 : Int32) <<< (x87 &&& 31))) : Int32) → va_P G1.1 vwCl (wld G1 (NC7, NM8, Mo)) H → va_S (hyA G1) s.heap H locs → lv_has ls 22 [(0, .ref (adr G1 0)), (1, .int a1), (2, .ref (adr G1 30)), (3, .ref (adr G1 31)), (4, .ref (adr G1 32)), (5, .ref (adr G1 33)), (6, .ref (adr G1 34)), (7, .int v2), (8, .int v3), (9, .int y4), (10, .int y20), (11, .int y5), (12, .int y21), (13, .int y22), (14, .int x86), (15, .int x87), (16, .int v89)] → W p l e { frames := 9, cells := 8, slots := 6 * 8, locals := 196 } s m ([.ref (adr G 0), .int a1, .ref (adr G 30), .ref (adr G 31), .ref (adr G 32), .ref (adr G 33)] : List Value).toArray below meth c H locs 1 30 (vx_MQ below (hyQ G1 (.inr (some (.int (bI res.1))), (res.2.1, res.2.2, Mo))) (hyXQ G1 (.inr (some (.int (bI res.1))), (res.2.1, res.2.2, Mo))) ([.ref (adr G 0), .int a1, .ref (adr G 30), .ref (adr G 31), .ref (adr G 32), .ref (adr G 33)] : List Value).toArray s 8 (6 * 8) (hyA G1)) (F0 m 421 ls [.int u1, .int x86]) := by
          intro H locs ls u1 eu1 hP hS hl
          subst eu1
          refine lv_ior hx hb dL_told_421 ?_
          refine lv_istore (lv' := [(14, .int (x86 ||| ((if 0 ≤ v89 then 0 else ((1 : Int32) <<< (x87 &&& 31))) : Int32))), (0, .ref (adr G1 0)), (1, .int a1), (2, .ref (adr G1 30)), (3, .ref (adr G1 31)), (4, .ref (adr G1 32)), (5, .ref (adr G1 33)), (6, .ref (adr G1 34)), (7, .int v2), (8, .int v3), (9, .int y4), (10, .int y20), (11, .int y5), (12, .int y21), (13, .int y22), (15, .int x87), (16, .int v89)]) hx hb dL_told_422 hl (by decide) rfl (fun ls hl => ?_)
          refine lv_aload_n hx hb dL_told_424 rfl (lv_at hl 1 rfl) ?_
          refine lv_iload hx hb dL_told_425 (lv_at hl 15 rfl) ?_
          obtain ⟨v91, hv91, h⟩ := hy_bind h
          refine hy_ret (hy_rV0 (T := (NC7, NM8, Mo)) (v := some (.int v91)) (T2 := (NC7, NM8, Mo)) (As := [.int x87]) (rest := []) (n := 0) hx hb hml hown hts hX hP hS hl (c_Hp_fit hlt NM8 Mo x87 NC7 (res := .inr v91) (rtb_some hv91)) m_Hp_fit q_827 (hy_recv hX hP 0 9 (by decide) rfl rfl) rfl rfl (Nat.le_of_ble_eq_true rfl) dL_told_427 ⟨Nat.le_of_ble_eq_true rfl, Nat.le_of_ble_eq_true rfl⟩ ⟨by decide, by decide⟩) hS (fun H locs hP hS => ?_)
          refine lv_iload hx hb dL_told_430 (lv_at hl 16 rfl) ?_
          refine lv_icmp_eq (tgt := 437) hx hb dL_told_432 (by decide) (fun c92 => ?_) (fun c92 => ?_)
          · rw [if_pos c92] at h
            refine lv_iconst (v := 0) hx hb dL_told_437 rfl ?_
            refine lv_istore (lv' := [(17, .int 0), (14, .int (x86 ||| ((if 0 ≤ v89 then 0 else ((1 : Int32) <<< (x87 &&& 31))) : Int32))), (0, .ref (adr G1 0)), (1, .int a1), (2, .ref (adr G1 30)), (3, .ref (adr G1 31)), (4, .ref (adr G1 32)), (5, .ref (adr G1 33)), (6, .ref (adr G1 34)), (7, .int v2), (8, .int v3), (9, .int y4), (10, .int y20), (11, .int y5), (12, .int y21), (13, .int y22), (15, .int x87), (16, .int v89)]) hx hb dL_told_438 hl (by decide) rfl (fun ls hl => ?_)
            have L115 : ∀ (f : Nat) (x93 : Int32) (qL : ((Bool × hyM × hyM) ⊕ (Int32))) (h : La_told_L440 NC7 NM8 x87 f x93 = some qL) (hq : ∀ r9, qL = .inl r9 → res = r9) (H : Heap) (locs : List Loc) (ls : Array Slot) (hP : va_P G1.1 vwCl (wld G1 (NC7, NM8, Mo)) H) (hS : va_S (hyA G1) s.heap H locs) (hl : lv_has ls 22 [(0, .ref (adr G1 0)), (1, .int a1), (2, .ref (adr G1 30)), (3, .ref (adr G1 31)), (4, .ref (adr G1 32)), (5, .ref (adr G1 33)), (6, .ref (adr G1 34)), (7, .int v2), (8, .int v3), (9, .int y4), (10, .int y20), (11, .int y5), (12, .int y21), (13, .int y22), (14, .int (x86 ||| ((if 0 ≤ v89 then 0 else ((1 : Int32) <<< (x87 &&& 31))) : Int32))), (15, .int x87), (16, .int v89), (17, .int x93)]) (kk : ∀ (y93 : Int32), qL = .inr (y93) → ∀ (H : Heap) (locs : List Loc) (ls : Array Slot), va_P G1.1 vwCl (wld G1 (NC7, NM8, Mo)) H → va_S (hyA G1) s.heap H locs → lv_has ls 22 [(0, .ref (adr G1 0)), (1, .int a1), (2, .ref (adr G1 30)), (3, .ref (adr G1 31)), (4, .ref (adr G1 32)), (5, .ref (adr G1 33)), (6, .ref (adr G1 34)), (7, .int v2), (8, .int v3), (9, .int y4), (10, .int y20), (11, .int y5), (12, .int y21), (13, .int y22), (14, .int (x86 ||| ((if 0 ≤ v89 then 0 else ((1 : Int32) <<< (x87 &&& 31))) : Int32))), (15, .int x87), (16, .int v89), (17, .int y93)] → W p l e { frames := 9, cells := 8, slots := 6 * 8, locals := 196 } s m ([.ref (adr G 0), .int a1, .ref (adr G 30), .ref (adr G 31), .ref (adr G 32), .ref (adr G 33)] : List Value).toArray below meth c H locs 1 30 (vx_MQ below (hyQ G1 (.inr (some (.int (bI res.1))), (res.2.1, res.2.2, Mo))) (hyXQ G1 (.inr (some (.int (bI res.1))), (res.2.1, res.2.2, Mo))) ([.ref (adr G 0), .int a1, .ref (adr G 30), .ref (adr G 31), .ref (adr G 32), .ref (adr G 33)] : List Value).toArray s 8 (6 * 8) (hyA G1)) (F0 m 591 ls [])), W p l e { frames := 9, cells := 8, slots := 6 * 8, locals := 196 } s m ([.ref (adr G 0), .int a1, .ref (adr G 30), .ref (adr G 31), .ref (adr G 32), .ref (adr G 33)] : List Value).toArray below meth c H locs 1 30 (vx_MQ below (hyQ G1 (.inr (some (.int (bI res.1))), (res.2.1, res.2.2, Mo))) (hyXQ G1 (.inr (some (.int (bI res.1))), (res.2.1, res.2.2, Mo))) ([.ref (adr G 0), .int a1, .ref (adr G 30), .ref (adr G 31), .ref (adr G 32), .ref (adr G 33)] : List Value).toArray s 8 (6 * 8) (hyA G1)) (F0 m 440 ls []) := by
              intro f
              induction f with
              | zero =>
                intro x93 qL h hq H locs ls hP hS hl kk
                rw [La_told_L440] at h
                cases h
              | succ f ih =>
                intro x93 qL h hq H locs ls hP hS hl kk
                rw [La_told_L440] at h
                refine lv_iload hx hb dL_told_440 (lv_at hl 17 rfl) ?_
                refine lv_bipush (v := 8) hx hb dL_told_442 rfl ?_
                have K113 : ∀ (H : Heap) (locs : List Loc), (if 8 ≤ x93 then false else (!decide (2 ≤ x87))) = true → va_P G1.1 vwCl (wld G1 (NC7, NM8, Mo)) H → va_S (hyA G1) s.heap H locs → W p l e { frames := 9, cells := 8, slots := 6 * 8, locals := 196 } s m ([.ref (adr G 0), .int a1, .ref (adr G 30), .ref (adr G 31), .ref (adr G 32), .ref (adr G 33)] : List Value).toArray below meth c H locs 1 30 (vx_MQ below (hyQ G1 (.inr (some (.int (bI res.1))), (res.2.1, res.2.2, Mo))) (hyXQ G1 (.inr (some (.int (bI res.1))), (res.2.1, res.2.2, Mo))) ([.ref (adr G 0), .int a1, .ref (adr G 30), .ref (adr G 31), .ref (adr G 32), .ref (adr G 33)] : List Value).toArray s 8 (6 * 8) (hyA G1)) (F0 m 453 ls []) := by
                  intro H locs cb hP hS
                  rw [if_pos cb] at h
                  refine lv_aload hx hb dL_told_453 (lv_at hl 5 rfl) ?_
                  refine lv_bipush (v := 8) hx hb dL_told_455 rfl ?_
                  refine lv_iload hx hb dL_told_457 (lv_at hl 15 rfl) ?_
                  refine lv_imul hx hb dL_told_459 ?_
                  refine lv_iload hx hb dL_told_460 (lv_at hl 17 rfl) ?_
                  refine lv_iadd hx hb dL_told_462 ?_
                  obtain ⟨v96, hv96, h⟩ := hy_bind h
                  obtain ⟨nv96, hv96⟩ := ldE_some hv96
                  refine hy_iald (T := (NC7, NM8, Mo)) hx hb hX hP 33 16 (NM8.1 33) (hy34 G1 (by decide)) rfl nv96 dL_told_463 ?_
                  rw [hv96]
                  refine lv_istore (lv' := [(18, .int v96), (0, .ref (adr G1 0)), (1, .int a1), (2, .ref (adr G1 30)), (3, .ref (adr G1 31)), (4, .ref (adr G1 32)), (5, .ref (adr G1 33)), (6, .ref (adr G1 34)), (7, .int v2), (8, .int v3), (9, .int y4), (10, .int y20), (11, .int y5), (12, .int y21), (13, .int y22), (14, .int (x86 ||| ((if 0 ≤ v89 then 0 else ((1 : Int32) <<< (x87 &&& 31))) : Int32))), (15, .int x87), (16, .int v89), (17, .int x93)]) hx hb dL_told_464 hl (by decide) rfl (fun ls hl => ?_)
                  refine lv_iconst (v := 0) hx hb dL_told_466 rfl ?_
                  refine lv_istore (lv' := [(19, .int 0), (18, .int v96), (0, .ref (adr G1 0)), (1, .int a1), (2, .ref (adr G1 30)), (3, .ref (adr G1 31)), (4, .ref (adr G1 32)), (5, .ref (adr G1 33)), (6, .ref (adr G1 34)), (7, .int v2), (8, .int v3), (9, .int y4), (10, .int y20), (11, .int y5), (12, .int y21), (13, .int y22), (14, .int (x86 ||| ((if 0 ≤ v89 then 0 else ((1 : Int32) <<< (x87 &&& 31))) : Int32))), (15, .int x87), (16, .int v89), (17, .int x93)]) hx hb dL_told_467 hl (by decide) rfl (fun ls hl => ?_)
                  refine lv_iconst (v := 0) hx hb dL_told_469 rfl ?_
                  refine lv_istore (lv' := [(20, .int 0), (19, .int 0), (18, .int v96), (0, .ref (adr G1 0)), (1, .int a1), (2, .ref (adr G1 30)), (3, .ref (adr G1 31)), (4, .ref (adr G1 32)), (5, .ref (adr G1 33)), (6, .ref (adr G1 34)), (7, .int v2), (8, .int v3), (9, .int y4), (10, .int y20), (11, .int y5), (12, .int y21), (13, .int y22), (14, .int (x86 ||| ((if 0 ≤ v89 then 0 else ((1 : Int32) <<< (x87 &&& 31))) : Int32))), (15, .int x87), (16, .int v89), (17, .int x93)]) hx hb dL_told_470 hl (by decide) rfl (fun ls hl => ?_)
                  refine lv_iconst (v := 0) hx hb dL_told_472 rfl ?_
                  refine lv_istore (lv' := [(21, .int 0), (20, .int 0), (19, .int 0), (18, .int v96), (0, .ref (adr G1 0)), (1, .int a1), (2, .ref (adr G1 30)), (3, .ref (adr G1 31)), (4, .ref (adr G1 32)), (5, .ref (adr G1 33)), (6, .ref (adr G1 34)), (7, .int v2), (8, .int v3), (9, .int y4), (10, .int y20), (11, .int y5), (12, .int y21), (13, .int y22), (14, .int (x86 ||| ((if 0 ≤ v89 then 0 else ((1 : Int32) <<< (x87 &&& 31))) : Int32))), (15, .int x87), (16, .int v89), (17, .int x93)]) hx hb dL_told_473 hl (by decide) rfl (fun ls hl => ?_)
                  have L104 : ∀ (f : Nat) (x97 : Int32) (x98 : Int32) (x99 : Int32) (qL : (Int32 × Int32 × Int32)) (h : La_told_L475 NM8 v96 f x97 x98 x99 = some qL) (H : Heap) (locs : List Loc) (ls : Array Slot) (hP : va_P G1.1 vwCl (wld G1 (NC7, NM8, Mo)) H) (hS : va_S (hyA G1) s.heap H locs) (hl : lv_has ls 22 [(0, .ref (adr G1 0)), (1, .int a1), (2, .ref (adr G1 30)), (3, .ref (adr G1 31)), (4, .ref (adr G1 32)), (5, .ref (adr G1 33)), (6, .ref (adr G1 34)), (7, .int v2), (8, .int v3), (9, .int y4), (10, .int y20), (11, .int y5), (12, .int y21), (13, .int y22), (14, .int (x86 ||| ((if 0 ≤ v89 then 0 else ((1 : Int32) <<< (x87 &&& 31))) : Int32))), (15, .int x87), (16, .int v89), (17, .int x93), (18, .int v96), (19, .int x97), (20, .int x98), (21, .int x99)]) (kk : ∀ (y97 : Int32) (y98 : Int32) (y99 : Int32), qL = (y97, y98, y99) → ∀ (H : Heap) (locs : List Loc) (ls : Array Slot), va_P G1.1 vwCl (wld G1 (NC7, NM8, Mo)) H → va_S (hyA G1) s.heap H locs → lv_has ls 22 [(0, .ref (adr G1 0)), (1, .int a1), (2, .ref (adr G1 30)), (3, .ref (adr G1 31)), (4, .ref (adr G1 32)), (5, .ref (adr G1 33)), (6, .ref (adr G1 34)), (7, .int v2), (8, .int v3), (9, .int y4), (10, .int y20), (11, .int y5), (12, .int y21), (13, .int y22), (14, .int (x86 ||| ((if 0 ≤ v89 then 0 else ((1 : Int32) <<< (x87 &&& 31))) : Int32))), (15, .int x87), (16, .int v89), (17, .int x93), (18, .int v96), (19, .int y97), (20, .int y98), (21, .int y99)] → W p l e { frames := 9, cells := 8, slots := 6 * 8, locals := 196 } s m ([.ref (adr G 0), .int a1, .ref (adr G 30), .ref (adr G 31), .ref (adr G 32), .ref (adr G 33)] : List Value).toArray below meth c H locs 1 30 (vx_MQ below (hyQ G1 (.inr (some (.int (bI res.1))), (res.2.1, res.2.2, Mo))) (hyXQ G1 (.inr (some (.int (bI res.1))), (res.2.1, res.2.2, Mo))) ([.ref (adr G 0), .int a1, .ref (adr G 30), .ref (adr G 31), .ref (adr G 32), .ref (adr G 33)] : List Value).toArray s 8 (6 * 8) (hyA G1)) (F0 m 538 ls [])), W p l e { frames := 9, cells := 8, slots := 6 * 8, locals := 196 } s m ([.ref (adr G 0), .int a1, .ref (adr G 30), .ref (adr G 31), .ref (adr G 32), .ref (adr G 33)] : List Value).toArray below meth c H locs 1 30 (vx_MQ below (hyQ G1 (.inr (some (.int (bI res.1))), (res.2.1, res.2.2, Mo))) (hyXQ G1 (.inr (some (.int (bI res.1))), (res.2.1, res.2.2, Mo))) ([.ref (adr G 0), .int a1, .ref (adr G 30), .ref (adr G 31), .ref (adr G 32), .ref (adr G 33)] : List Value).toArray s 8 (6 * 8) (hyA G1)) (F0 m 475 ls []) := by
                    intro f
                    induction f with
                    | zero =>
                      intro x97 x98 x99 qL h H locs ls hP hS hl kk
                      rw [La_told_L475] at h
                      cases h
                    | succ f ih =>
                      intro x97 x98 x99 qL h H locs ls hP hS hl kk
                      rw [La_told_L475] at h
                      refine lv_iload hx hb dL_told_475 (lv_at hl 21 rfl) ?_
                      refine lv_iload hx hb dL_told_477 (lv_at hl 18 rfl) ?_
                      obtain ⟨v100, hv100, h⟩ := hy_bind h
                      refine hy_ret (hy_rS0 (T := (NC7, NM8, Mo)) (v := some (.int v100)) (T2 := (NC7, NM8, Mo)) (As := [.int v96]) (rest := [.int x99]) (n := 0) hx hb hml hown hts hX hP hS hl (c_La_size NC7 Mo v96 NM8 hv100) m_La_size q_726 rfl rfl (Nat.le_of_ble_eq_true rfl) dL_told_479 ⟨Nat.le_of_ble_eq_true rfl, Nat.le_of_ble_eq_true rfl⟩ ⟨by decide, by decide⟩) hS (fun H locs hP hS => ?_)
                      refine lv_icmp_ge (tgt := 538) hx hb dL_told_482 (by decide) (fun c101 => ?_) (fun c101 => ?_)
                      · rw [if_pos c101] at h
                        exact kk x97 x98 x99 (Option.some.inj h).symm _ _ ls hP hS (lv_sub hl [0, 1, 2, 3, 4, 5, 6, 7, 8, 9, 10, 11, 12, 13, 14, 15, 16, 17, 18, 19, 20, 21] rfl)
                      · rw [if_neg c101] at h
                        refine lv_iload hx hb dL_told_485 (lv_at hl 19 rfl) ?_
                        refine lv_iload hx hb dL_told_487 (lv_at hl 18 rfl) ?_
                        refine lv_bipush (v := 24) hx hb dL_told_489 rfl ?_
                        refine lv_iload hx hb dL_told_491 (lv_at hl 21 rfl) ?_
                        refine lv_iadd hx hb dL_told_493 ?_
                        refine lv_ishr hx hb dL_told_494 ?_
                        refine lv_iconst (v := 1) hx hb dL_told_495 rfl ?_
                        refine lv_iand hx hb dL_told_496 ?_
                        refine lv_iadd hx hb dL_told_497 ?_
                        refine lv_istore (lv' := [(19, .int (x97 + ((v96 >>> ((24 + x99) &&& 31)) &&& 1))), (0, .ref (adr G1 0)), (1, .int a1), (2, .ref (adr G1 30)), (3, .ref (adr G1 31)), (4, .ref (adr G1 32)), (5, .ref (adr G1 33)), (6, .ref (adr G1 34)), (7, .int v2), (8, .int v3), (9, .int y4), (10, .int y20), (11, .int y5), (12, .int y21), (13, .int y22), (14, .int (x86 ||| ((if 0 ≤ v89 then 0 else ((1 : Int32) <<< (x87 &&& 31))) : Int32))), (15, .int x87), (16, .int v89), (17, .int x93), (18, .int v96), (20, .int x98), (21, .int x99)]) hx hb dL_told_498 hl (by decide) rfl (fun ls hl => ?_)
                        refine lv_iload hx hb dL_told_500 (lv_at hl 19 rfl) ?_
                        refine lv_iconst (v := 4) hx hb dL_told_502 rfl ?_
                        refine lv_iload hx hb dL_told_503 (lv_at hl 21 rfl) ?_
                        refine lv_imul hx hb dL_told_505 ?_
                        refine lv_ishr hx hb dL_told_506 ?_
                        refine lv_bipush (v := 15) hx hb dL_told_507 rfl ?_
                        refine lv_iand hx hb dL_told_509 ?_
                        refine lv_iload hx hb dL_told_510 (lv_at hl 20 rfl) ?_
                        have J103 : ∀ (H : Heap) (locs : List Loc) (ls : Array Slot) (u1 : Int32), u1 = ((if ((v96 >>> ((4 * x99) &&& 31)) &&& 15) ≤ x98 then x98 else ((v96 >>> ((4 * x99) &&& 31)) &&& 15)) : Int32) → va_P G1.1 vwCl (wld G1 (NC7, NM8, Mo)) H → va_S (hyA G1) s.heap H locs → lv_has ls 22 [(0, .ref (adr G1 0)), (1, .int a1), (2, .ref (adr G1 30)), (3, .ref (adr G1 31)), (4, .ref (adr G1 32)), (5, .ref (adr G1 33)), (6, .ref (adr G1 34)), (7, .int v2), (8, .int v3), (9, .int y4), (10, .int y20), (11, .int y5), (12, .int y21), (13, .int y22), (14, .int (x86 ||| ((if 0 ≤ v89 then 0 else ((1 : Int32) <<< (x87 &&& 31))) : Int32))), (15, .int x87), (16, .int v89), (17, .int x93), (18, .int v96), (19, .int (x97 + ((v96 >>> ((24 + x99) &&& 31)) &&& 1))), (20, .int x98), (21, .int x99)] → W p l e { frames := 9, cells := 8, slots := 6 * 8, locals := 196 } s m ([.ref (adr G 0), .int a1, .ref (adr G 30), .ref (adr G 31), .ref (adr G 32), .ref (adr G 33)] : List Value).toArray below meth c H locs 1 30 (vx_MQ below (hyQ G1 (.inr (some (.int (bI res.1))), (res.2.1, res.2.2, Mo))) (hyXQ G1 (.inr (some (.int (bI res.1))), (res.2.1, res.2.2, Mo))) ([.ref (adr G 0), .int a1, .ref (adr G 30), .ref (adr G 31), .ref (adr G 32), .ref (adr G 33)] : List Value).toArray s 8 (6 * 8) (hyA G1)) (F0 m 530 ls [.int u1]) := by
                          intro H locs ls u1 eu1 hP hS hl
                          subst eu1
                          refine lv_istore (lv' := [(20, .int ((if ((v96 >>> ((4 * x99) &&& 31)) &&& 15) ≤ x98 then x98 else ((v96 >>> ((4 * x99) &&& 31)) &&& 15)) : Int32)), (0, .ref (adr G1 0)), (1, .int a1), (2, .ref (adr G1 30)), (3, .ref (adr G1 31)), (4, .ref (adr G1 32)), (5, .ref (adr G1 33)), (6, .ref (adr G1 34)), (7, .int v2), (8, .int v3), (9, .int y4), (10, .int y20), (11, .int y5), (12, .int y21), (13, .int y22), (14, .int (x86 ||| ((if 0 ≤ v89 then 0 else ((1 : Int32) <<< (x87 &&& 31))) : Int32))), (15, .int x87), (16, .int v89), (17, .int x93), (18, .int v96), (19, .int (x97 + ((v96 >>> ((24 + x99) &&& 31)) &&& 1))), (21, .int x99)]) hx hb dL_told_530 hl (by decide) rfl (fun ls hl => ?_)
                          refine lv_iinc (v := (x99 + 1)) (lv' := [(21, .int (x99 + 1)), (20, .int ((if ((v96 >>> ((4 * x99) &&& 31)) &&& 15) ≤ x98 then x98 else ((v96 >>> ((4 * x99) &&& 31)) &&& 15)) : Int32)), (0, .ref (adr G1 0)), (1, .int a1), (2, .ref (adr G1 30)), (3, .ref (adr G1 31)), (4, .ref (adr G1 32)), (5, .ref (adr G1 33)), (6, .ref (adr G1 34)), (7, .int v2), (8, .int v3), (9, .int y4), (10, .int y20), (11, .int y5), (12, .int y21), (13, .int y22), (14, .int (x86 ||| ((if 0 ≤ v89 then 0 else ((1 : Int32) <<< (x87 &&& 31))) : Int32))), (15, .int x87), (16, .int v89), (17, .int x93), (18, .int v96), (19, .int (x97 + ((v96 >>> ((24 + x99) &&& 31)) &&& 1)))]) hx hb dL_told_532 hl (k := 21) rfl rfl (by decide) rfl (fun ls hl => ?_)
                          refine lv_goto (tgt := 475) hx hb dL_told_535 (by decide) ?_
                          exact ih (x97 + ((v96 >>> ((24 + x99) &&& 31)) &&& 1)) ((if ((v96 >>> ((4 * x99) &&& 31)) &&& 15) ≤ x98 then x98 else ((v96 >>> ((4 * x99) &&& 31)) &&& 15)) : Int32) (x99 + 1) _ h  _ _ ls hP hS (lv_sub hl [2, 3, 4, 5, 6, 7, 8, 9, 10, 11, 12, 13, 14, 15, 16, 17, 18, 19, 20, 21, 1, 0] rfl) kk
                        refine lv_icmp_le (tgt := 528) hx hb dL_told_512 (by decide) (fun c102 => ?_) (fun c102 => ?_)
                        · refine lv_iload hx hb dL_told_528 (lv_at hl 20 rfl) ?_
                          exact J103 _ _ ls x98 (by rw [if_pos c102] <;> rfl) hP hS (lv_sub hl [1, 2, 3, 4, 5, 6, 7, 8, 9, 10, 11, 12, 13, 14, 15, 16, 17, 18, 19, 0, 20, 21] rfl)
                        · refine lv_iload hx hb dL_told_515 (lv_at hl 19 rfl) ?_
                          refine lv_iconst (v := 4) hx hb dL_told_517 rfl ?_
                          refine lv_iload hx hb dL_told_518 (lv_at hl 21 rfl) ?_
                          refine lv_imul hx hb dL_told_520 ?_
                          refine lv_ishr hx hb dL_told_521 ?_
                          refine lv_bipush (v := 15) hx hb dL_told_522 rfl ?_
                          refine lv_iand hx hb dL_told_524 ?_
                          refine lv_goto (tgt := 530) hx hb dL_told_525 (by decide) ?_
                          exact J103 _ _ ls ((v96 >>> ((4 * x99) &&& 31)) &&& 15) (by rw [if_neg c102] <;> rfl) hP hS (lv_sub hl [1, 2, 3, 4, 5, 6, 7, 8, 9, 10, 11, 12, 13, 14, 15, 16, 17, 18, 19, 0, 20, 21] rfl)
                  obtain ⟨q112, hq112, h⟩ := hy_bind h
                  refine L104 hyFu 0 0 0 q112 hq112 _ _ ls hP hS (lv_sub hl [4, 5, 6, 7, 8, 9, 10, 11, 12, 13, 14, 15, 16, 17, 18, 19, 20, 21, 3, 2, 1, 0] rfl) ?_
                  intro y97 y98 y99 e9 H locs ls hP hS hl
                  subst e9
                  try dsimp only at h
                  refine lv_aload_n hx hb dL_told_538 rfl (lv_at hl 0 rfl) ?_
                  refine lv_iload hx hb dL_told_539 (lv_at hl 15 rfl) ?_
                  refine lv_iload hx hb dL_told_541 (lv_at hl 17 rfl) ?_
                  refine lv_iconst (v := 0) hx hb dL_told_543 rfl ?_
                  obtain ⟨v105, hv105, h⟩ := hy_bind h
                  refine hy_ret (hy_rV0 (T := (NC7, NM8, Mo)) (v := some (.int v105)) (T2 := (NC7, NM8, Mo)) (As := [.int x87, .int x93, .int 0]) (rest := []) (n := 0) hx hb hml hown hts hX hP hS hl (c_Hp_line hlt NM8 Mo x87 x93 0 NC7 (res := .inr v105) (rtb_some hv105)) m_Hp_line q_831 (hy_recv hX hP 0 9 (by decide) rfl rfl) rfl rfl (Nat.le_of_ble_eq_true rfl) dL_told_544 ⟨Nat.le_of_ble_eq_true rfl, Nat.le_of_ble_eq_true rfl⟩ ⟨by decide, by decide⟩) hS (fun H locs hP hS => ?_)
                  refine lv_iload hx hb dL_told_547 (lv_at hl 18 rfl) ?_
                  obtain ⟨v106, hv106, h⟩ := hy_bind h
                  refine hy_ret (hy_rS0 (T := (NC7, NM8, Mo)) (v := some (.int v106)) (T2 := (NC7, NM8, Mo)) (As := [.int v96]) (rest := [.int v105]) (n := 0) hx hb hml hown hts hX hP hS hl (c_La_size NC7 Mo v96 NM8 hv106) m_La_size q_726 rfl rfl (Nat.le_of_ble_eq_true rfl) dL_told_549 ⟨Nat.le_of_ble_eq_true rfl, Nat.le_of_ble_eq_true rfl⟩ ⟨by decide, by decide⟩) hS (fun H locs hP hS => ?_)
                  refine lv_icmp_ne (tgt := 583) hx hb dL_told_552 (by decide) (fun c107 => ?_) (fun c107 => ?_)
                  · rw [if_neg c107] at h
                    refine lv_iconst (v := 0) hx hb dL_told_583 rfl ?_
                    exact hy_zret (T := (NC7, NM8, Mo)) hx hb hr hlocks hP hS (by decide) (by decide) (bI_nar false) (by rw [← (hq _ (Option.some.inj h).symm).symm] <;> rfl) dL_told_584
                  · rw [if_pos (c107)] at h
                    refine lv_aload_n hx hb dL_told_555 rfl (lv_at hl 0 rfl) ?_
                    refine lv_iload hx hb dL_told_556 (lv_at hl 15 rfl) ?_
                    refine lv_iload hx hb dL_told_558 (lv_at hl 17 rfl) ?_
                    refine lv_iconst (v := 1) hx hb dL_told_560 rfl ?_
                    obtain ⟨v108, hv108, h⟩ := hy_bind h
                    refine hy_ret (hy_rV0 (T := (NC7, NM8, Mo)) (v := some (.int v108)) (T2 := (NC7, NM8, Mo)) (As := [.int x87, .int x93, .int 1]) (rest := []) (n := 0) hx hb hml hown hts hX hP hS hl (c_Hp_line hlt NM8 Mo x87 x93 1 NC7 (res := .inr v108) (rtb_some hv108)) m_Hp_line q_831 (hy_recv hX hP 0 9 (by decide) rfl rfl) rfl rfl (Nat.le_of_ble_eq_true rfl) dL_told_561 ⟨Nat.le_of_ble_eq_true rfl, Nat.le_of_ble_eq_true rfl⟩ ⟨by decide, by decide⟩) hS (fun H locs hP hS => ?_)
                    refine lv_iload hx hb dL_told_564 (lv_at hl 19 rfl) ?_
                    refine lv_icmp_ne (tgt := 583) hx hb dL_told_566 (by decide) (fun c109 => ?_) (fun c109 => ?_)
                    · rw [if_neg c109] at h
                      refine lv_iconst (v := 0) hx hb dL_told_583 rfl ?_
                      exact hy_zret (T := (NC7, NM8, Mo)) hx hb hr hlocks hP hS (by decide) (by decide) (bI_nar false) (by rw [← (hq _ (Option.some.inj h).symm).symm] <;> rfl) dL_told_584
                    · rw [if_pos (c109)] at h
                      refine lv_aload_n hx hb dL_told_569 rfl (lv_at hl 0 rfl) ?_
                      refine lv_iload hx hb dL_told_570 (lv_at hl 15 rfl) ?_
                      refine lv_iload hx hb dL_told_572 (lv_at hl 17 rfl) ?_
                      refine lv_iconst (v := 2) hx hb dL_told_574 rfl ?_
                      obtain ⟨v110, hv110, h⟩ := hy_bind h
                      refine hy_ret (hy_rV0 (T := (NC7, NM8, Mo)) (v := some (.int v110)) (T2 := (NC7, NM8, Mo)) (As := [.int x87, .int x93, .int 2]) (rest := []) (n := 0) hx hb hml hown hts hX hP hS hl (c_Hp_line hlt NM8 Mo x87 x93 2 NC7 (res := .inr v110) (rtb_some hv110)) m_Hp_line q_831 (hy_recv hX hP 0 9 (by decide) rfl rfl) rfl rfl (Nat.le_of_ble_eq_true rfl) dL_told_575 ⟨Nat.le_of_ble_eq_true rfl, Nat.le_of_ble_eq_true rfl⟩ ⟨by decide, by decide⟩) hS (fun H locs hP hS => ?_)
                      refine lv_iload hx hb dL_told_578 (lv_at hl 20 rfl) ?_
                      refine lv_icmp_eq (tgt := 585) hx hb dL_told_580 (by decide) (fun c111 => ?_) (fun c111 => ?_)
                      · rw [if_pos c111] at h
                        refine lv_iinc (v := (x93 + 1)) (lv' := [(17, .int (x93 + 1)), (0, .ref (adr G1 0)), (1, .int a1), (2, .ref (adr G1 30)), (3, .ref (adr G1 31)), (4, .ref (adr G1 32)), (5, .ref (adr G1 33)), (6, .ref (adr G1 34)), (7, .int v2), (8, .int v3), (9, .int y4), (10, .int y20), (11, .int y5), (12, .int y21), (13, .int y22), (14, .int (x86 ||| ((if 0 ≤ v89 then 0 else ((1 : Int32) <<< (x87 &&& 31))) : Int32))), (15, .int x87), (16, .int v89), (18, .int v96), (19, .int y97), (20, .int y98), (21, .int y99)]) hx hb dL_told_585 hl (k := 17) rfl rfl (by decide) rfl (fun ls hl => ?_)
                        refine lv_goto (tgt := 440) hx hb dL_told_588 (by decide) ?_
                        exact ih (x93 + 1) _ h hq _ _ ls hP hS (lv_sub hl [1, 2, 3, 4, 5, 6, 7, 8, 9, 10, 11, 12, 13, 14, 15, 16, 17, 0] rfl) kk
                      · rw [if_neg c111] at h
                        refine lv_iconst (v := 0) hx hb dL_told_583 rfl ?_
                        exact hy_zret (T := (NC7, NM8, Mo)) hx hb hr hlocks hP hS (by decide) (by decide) (bI_nar false) (by rw [← (hq _ (Option.some.inj h).symm).symm] <;> rfl) dL_told_584
                have K114 : ∀ (H : Heap) (locs : List Loc), ¬ (if 8 ≤ x93 then false else (!decide (2 ≤ x87))) = true → va_P G1.1 vwCl (wld G1 (NC7, NM8, Mo)) H → va_S (hyA G1) s.heap H locs → W p l e { frames := 9, cells := 8, slots := 6 * 8, locals := 196 } s m ([.ref (adr G 0), .int a1, .ref (adr G 30), .ref (adr G 31), .ref (adr G 32), .ref (adr G 33)] : List Value).toArray below meth c H locs 1 30 (vx_MQ below (hyQ G1 (.inr (some (.int (bI res.1))), (res.2.1, res.2.2, Mo))) (hyXQ G1 (.inr (some (.int (bI res.1))), (res.2.1, res.2.2, Mo))) ([.ref (adr G 0), .int a1, .ref (adr G 30), .ref (adr G 31), .ref (adr G 32), .ref (adr G 33)] : List Value).toArray s 8 (6 * 8) (hyA G1)) (F0 m 591 ls []) := by
                  intro H locs cb hP hS
                  rw [if_neg cb] at h
                  exact kk x93 (Option.some.inj h).symm _ _ ls hP hS (lv_sub hl [0, 1, 2, 3, 4, 5, 6, 7, 8, 9, 10, 11, 12, 13, 14, 15, 16, 17] rfl)
                refine lv_icmp_ge (tgt := 591) hx hb dL_told_444 (by decide) (fun c94 => ?_) (fun c94 => ?_)
                · exact K114 _ _ (by rw [if_pos c94] <;> first | rfl | decide) hP hS
                · refine lv_iload hx hb dL_told_447 (lv_at hl 15 rfl) ?_
                  refine lv_iconst (v := 2) hx hb dL_told_449 rfl ?_
                  refine lv_icmp_ge (tgt := 591) hx hb dL_told_450 (by decide) (fun c95 => ?_) (fun c95 => ?_)
                  · exact K114 _ _ (by rw [if_neg c94, decide_eq_true c95] <;> first | rfl | decide) hP hS
                  · exact K113 _ _ (by rw [if_neg c94, decide_eq_false c95] <;> first | rfl | decide) hP hS
            obtain ⟨q116, hq116, h⟩ := hy_bind h
            refine L115 hyFu 0 q116 hq116 (fun r9 e9 => by subst e9; exact (hq _ (Option.some.inj h).symm)) _ _ ls hP hS (lv_sub hl [2, 3, 4, 5, 6, 7, 8, 9, 10, 11, 12, 13, 14, 15, 1, 16, 17, 0] rfl) ?_
            intro y93 e9 H locs ls hP hS hl
            subst e9
            try dsimp only at h
            refine lv_iinc (v := (x87 + 1)) (lv' := [(15, .int (x87 + 1)), (0, .ref (adr G1 0)), (1, .int a1), (2, .ref (adr G1 30)), (3, .ref (adr G1 31)), (4, .ref (adr G1 32)), (5, .ref (adr G1 33)), (6, .ref (adr G1 34)), (7, .int v2), (8, .int v3), (9, .int y4), (10, .int y20), (11, .int y5), (12, .int y21), (13, .int y22), (14, .int (x86 ||| ((if 0 ≤ v89 then 0 else ((1 : Int32) <<< (x87 &&& 31))) : Int32))), (16, .int v89), (17, .int y93)]) hx hb dL_told_591 hl (k := 15) rfl rfl (by decide) rfl (fun ls hl => ?_)
            refine lv_goto (tgt := 385) hx hb dL_told_594 (by decide) ?_
            exact ih (x86 ||| ((if 0 ≤ v89 then 0 else ((1 : Int32) <<< (x87 &&& 31))) : Int32)) (x87 + 1) _ h hq _ _ ls hP hS (lv_sub hl [1, 2, 3, 4, 5, 6, 7, 8, 9, 10, 11, 12, 13, 14, 15, 0] rfl) kk
          · rw [if_neg c92] at h
            refine lv_iconst (v := 0) hx hb dL_told_435 rfl ?_
            exact hy_zret (T := (NC7, NM8, Mo)) hx hb hr hlocks hP hS (by decide) (by decide) (bI_nar false) (by rw [← (hq _ (Option.some.inj h).symm).symm] <;> rfl) dL_told_436
        refine lv_if_ge (tgt := 420) hx hb dL_told_410 (by decide) (fun c90 => ?_) (fun c90 => ?_)
        · refine lv_iconst (v := 0) hx hb dL_told_420 rfl ?_
          exact J117 _ _ ls 0 (by rw [if_pos c90] <;> rfl) hP hS (lv_sub hl [1, 2, 3, 4, 5, 6, 7, 8, 9, 10, 11, 12, 13, 14, 15, 16, 0] rfl)
        · refine lv_iconst (v := 1) hx hb dL_told_413 rfl ?_
          refine lv_iload hx hb dL_told_414 (lv_at hl 16 rfl) ?_
          refine lv_ishl hx hb dL_told_416 ?_
          refine lv_goto (tgt := 421) hx hb dL_told_417 (by decide) ?_
          exact J117 _ _ ls ((1 : Int32) <<< (x87 &&& 31)) (by rw [if_neg c90] <;> rfl) hP hS (lv_sub hl [1, 2, 3, 4, 5, 6, 7, 8, 9, 10, 11, 12, 13, 14, 15, 16, 0] rfl)
  obtain ⟨q223, hq223, h⟩ := hy_bind h
  refine L118 hyFu 0 0 q223 hq223 (fun r9 e9 => by subst e9; exact (Option.some.inj h).symm) _ _ ls hP hS (lv_sub hl [1, 2, 3, 4, 5, 6, 7, 8, 9, 10, 11, 12, 13, 14, 15, 0] rfl) ?_
  intro y86 y87 e9 H locs ls hP hS hl
  subst e9
  try dsimp only at h
  refine lv_iconst (v := 0) hx hb dL_told_597 rfl ?_
  refine lv_istore (lv' := [(15, .int 0), (0, .ref (adr G1 0)), (1, .int a1), (2, .ref (adr G1 30)), (3, .ref (adr G1 31)), (4, .ref (adr G1 32)), (5, .ref (adr G1 33)), (6, .ref (adr G1 34)), (7, .int v2), (8, .int v3), (9, .int y4), (10, .int y20), (11, .int y5), (12, .int y21), (13, .int y22), (14, .int y86)]) hx hb dL_told_598 hl (by decide) rfl (fun ls hl => ?_)
  have L169 : ∀ (f : Nat) (x119 : Int32) (qL : ((Bool × hyM × hyM) ⊕ (Int32))) (h : La_told_L600 a1 v2 NC7 NM8 f x119 = some qL) (hq : ∀ r9, qL = .inl r9 → res = r9) (H : Heap) (locs : List Loc) (ls : Array Slot) (hP : va_P G1.1 vwCl (wld G1 (NC7, NM8, Mo)) H) (hS : va_S (hyA G1) s.heap H locs) (hl : lv_has ls 22 [(0, .ref (adr G1 0)), (1, .int a1), (2, .ref (adr G1 30)), (3, .ref (adr G1 31)), (4, .ref (adr G1 32)), (5, .ref (adr G1 33)), (6, .ref (adr G1 34)), (7, .int v2), (8, .int v3), (9, .int y4), (10, .int y20), (11, .int y5), (12, .int y21), (13, .int y22), (14, .int y86), (15, .int x119)]) (kk : ∀ (y119 : Int32), qL = .inr (y119) → ∀ (H : Heap) (locs : List Loc) (ls : Array Slot), va_P G1.1 vwCl (wld G1 (NC7, NM8, Mo)) H → va_S (hyA G1) s.heap H locs → lv_has ls 22 [(0, .ref (adr G1 0)), (1, .int a1), (2, .ref (adr G1 30)), (3, .ref (adr G1 31)), (4, .ref (adr G1 32)), (5, .ref (adr G1 33)), (6, .ref (adr G1 34)), (7, .int v2), (8, .int v3), (9, .int y4), (10, .int y20), (11, .int y5), (12, .int y21), (13, .int y22), (14, .int y86), (15, .int y119)] → W p l e { frames := 9, cells := 8, slots := 6 * 8, locals := 196 } s m ([.ref (adr G 0), .int a1, .ref (adr G 30), .ref (adr G 31), .ref (adr G 32), .ref (adr G 33)] : List Value).toArray below meth c H locs 1 30 (vx_MQ below (hyQ G1 (.inr (some (.int (bI res.1))), (res.2.1, res.2.2, Mo))) (hyXQ G1 (.inr (some (.int (bI res.1))), (res.2.1, res.2.2, Mo))) ([.ref (adr G 0), .int a1, .ref (adr G 30), .ref (adr G 31), .ref (adr G 32), .ref (adr G 33)] : List Value).toArray s 8 (6 * 8) (hyA G1)) (F0 m 854 ls [])), W p l e { frames := 9, cells := 8, slots := 6 * 8, locals := 196 } s m ([.ref (adr G 0), .int a1, .ref (adr G 30), .ref (adr G 31), .ref (adr G 32), .ref (adr G 33)] : List Value).toArray below meth c H locs 1 30 (vx_MQ below (hyQ G1 (.inr (some (.int (bI res.1))), (res.2.1, res.2.2, Mo))) (hyXQ G1 (.inr (some (.int (bI res.1))), (res.2.1, res.2.2, Mo))) ([.ref (adr G 0), .int a1, .ref (adr G 30), .ref (adr G 31), .ref (adr G 32), .ref (adr G 33)] : List Value).toArray s 8 (6 * 8) (hyA G1)) (F0 m 600 ls []) := by
    intro f
    induction f with
    | zero =>
      intro x119 qL h hq H locs ls hP hS hl kk
      rw [La_told_L600] at h
      cases h
    | succ f ih =>
      intro x119 qL h hq H locs ls hP hS hl kk
      rw [La_told_L600] at h
      refine lv_iload hx hb dL_told_600 (lv_at hl 15 rfl) ?_
      refine lv_iload hx hb dL_told_602 (lv_at hl 7 rfl) ?_
      have K167 : ∀ (H : Heap) (locs : List Loc), (if v2 ≤ x119 then false else (!decide (v2 ≤ 0))) = true → va_P G1.1 vwCl (wld G1 (NC7, NM8, Mo)) H → va_S (hyA G1) s.heap H locs → W p l e { frames := 9, cells := 8, slots := 6 * 8, locals := 196 } s m ([.ref (adr G 0), .int a1, .ref (adr G 30), .ref (adr G 31), .ref (adr G 32), .ref (adr G 33)] : List Value).toArray below meth c H locs 1 30 (vx_MQ below (hyQ G1 (.inr (some (.int (bI res.1))), (res.2.1, res.2.2, Mo))) (hyXQ G1 (.inr (some (.int (bI res.1))), (res.2.1, res.2.2, Mo))) ([.ref (adr G 0), .int a1, .ref (adr G 30), .ref (adr G 31), .ref (adr G 32), .ref (adr G 33)] : List Value).toArray s 8 (6 * 8) (hyA G1)) (F0 m 612 ls []) := by
        intro H locs cb hP hS
        rw [if_pos cb] at h
        refine lv_iload_n hx hb dL_told_612 rfl (lv_at hl 1 rfl) ?_
        refine lv_iload hx hb dL_told_613 (lv_at hl 15 rfl) ?_
        refine lv_ishr hx hb dL_told_615 ?_
        refine lv_iconst (v := 3) hx hb dL_told_616 rfl ?_
        obtain ⟨v122, hv122, h⟩ := hy_bind h
        refine hy_ret (hy_rS0 (T := (NC7, NM8, Mo)) (v := some (.int v122)) (T2 := (NC7, NM8, Mo)) (As := [.int (a1 >>> (x119 &&& 31)), .int 3]) (rest := []) (n := 0) hx hb hml hown hts hX hP hS hl (c_La_at NC7 Mo (a1 >>> (x119 &&& 31)) 3 NM8 hv122) m_La_at q_641 rfl rfl (Nat.le_of_ble_eq_true rfl) dL_told_617 ⟨Nat.le_of_ble_eq_true rfl, Nat.le_of_ble_eq_true rfl⟩ ⟨by decide, by decide⟩) hS (fun H locs hP hS => ?_)
        refine lv_istore (lv' := [(16, .int v122), (0, .ref (adr G1 0)), (1, .int a1), (2, .ref (adr G1 30)), (3, .ref (adr G1 31)), (4, .ref (adr G1 32)), (5, .ref (adr G1 33)), (6, .ref (adr G1 34)), (7, .int v2), (8, .int v3), (9, .int y4), (10, .int y20), (11, .int y5), (12, .int y21), (13, .int y22), (14, .int y86), (15, .int x119)]) hx hb dL_told_620 hl (by decide) rfl (fun ls hl => ?_)
        refine lv_aload hx hb dL_told_622 (lv_at hl 7 rfl) ?_
        refine lv_iload hx hb dL_told_624 (lv_at hl 16 rfl) ?_
        obtain ⟨v123, hv123, h⟩ := hy_bind h
        obtain ⟨nv123, hv123⟩ := ldE_some hv123
        refine hy_iald (T := (NC7, NM8, Mo)) hx hb hX hP 34 30 (NM8.1 34) (by omega) rfl nv123 dL_told_626 ?_
        rw [hv123]
        refine lv_aload_n hx hb dL_told_627 rfl (lv_at hl 3 rfl) ?_
        refine lv_aload_n hx hb dL_told_628 rfl (lv_at hl 4 rfl) ?_
        obtain ⟨v124, hv124, h⟩ := hy_bind h
        refine hy_ret (hy_rS0 (T := (NC7, NM8, Mo)) (v := some (.int v124)) (T2 := (NC7, NM8, Mo)) (As := [.int v123, .ref (adr G1 30), .ref (adr G1 31)]) (rest := []) (n := 0) hx hb hml hown hts hX hP hS hl (c_La_first NC7 Mo v123 NM8 hv124) m_La_first q_714 rfl rfl (Nat.le_of_ble_eq_true rfl) dL_told_629 ⟨Nat.le_of_ble_eq_true rfl, Nat.le_of_ble_eq_true rfl⟩ ⟨by decide, by decide⟩) hS (fun H locs hP hS => ?_)
        refine lv_istore (lv' := [(17, .int v124), (16, .int v122), (0, .ref (adr G1 0)), (1, .int a1), (2, .ref (adr G1 30)), (3, .ref (adr G1 31)), (4, .ref (adr G1 32)), (5, .ref (adr G1 33)), (6, .ref (adr G1 34)), (7, .int v2), (8, .int v3), (9, .int y4), (10, .int y20), (11, .int y5), (12, .int y21), (13, .int y22), (14, .int y86), (15, .int x119)]) hx hb dL_told_632 hl (by decide) rfl (fun ls hl => ?_)
        refine lv_iload hx hb dL_told_634 (lv_at hl 0 rfl) ?_
        refine lv_iload_n hx hb dL_told_636 rfl (lv_at hl 3 rfl) ?_
        refine lv_iload hx hb dL_told_637 (lv_at hl 17 rfl) ?_
        refine lv_iconst (v := 2) hx hb dL_told_639 rfl ?_
        refine lv_iadd hx hb dL_told_640 ?_
        refine lv_ishr hx hb dL_told_641 ?_
        refine lv_aload hx hb dL_told_642 (lv_at hl 8 rfl) ?_
        refine lv_iload hx hb dL_told_644 (lv_at hl 17 rfl) ?_
        obtain ⟨v125, hv125, h⟩ := hy_bind h
        obtain ⟨nv125, hv125⟩ := ldE_some hv125
        refine hy_iald (T := (NC7, NM8, Mo)) hx hb hX hP 34 30 (NM8.1 34) (by omega) rfl nv125 dL_told_646 ?_
        rw [hv125]
        refine lv_aload_n hx hb dL_told_647 rfl (lv_at hl 4 rfl) ?_
        refine lv_aload_n hx hb dL_told_648 rfl (lv_at hl 5 rfl) ?_
        obtain ⟨v126, hv126, h⟩ := hy_bind h
        refine hy_ret (hy_rS0 (T := (NC7, NM8, Mo)) (v := some (.int v126)) (T2 := (NC7, NM8, Mo)) (As := [.int v125, .ref (adr G1 30), .ref (adr G1 31)]) (rest := [.int (a1 >>> ((x119 + 2) &&& 31)), .int v124]) (n := 0) hx hb hml hown hts hX hP hS hl (c_La_last NC7 Mo v125 NM8 hv126) m_La_last q_799 rfl rfl (Nat.le_of_ble_eq_true rfl) dL_told_649 ⟨Nat.le_of_ble_eq_true rfl, Nat.le_of_ble_eq_true rfl⟩ ⟨by decide, by decide⟩) hS (fun H locs hP hS => ?_)
        refine lv_iload hx hb dL_told_652 (lv_at hl 0 rfl) ?_
        refine lv_isub hx hb dL_told_654 ?_
        refine lv_iconst (v := 1) hx hb dL_told_655 rfl ?_
        refine lv_iadd hx hb dL_told_656 ?_
        obtain ⟨v127, hv127, h⟩ := hy_bind h
        refine hy_ret (hy_rS0 (T := (NC7, NM8, Mo)) (v := some (.int v127)) (T2 := (NC7, NM8, Mo)) (As := [.int (a1 >>> ((x119 + 2) &&& 31)), .int ((v126 - v124) + 1)]) (rest := [.int v124]) (n := 0) hx hb hml hown hts hX hP hS hl (c_La_at NC7 Mo (a1 >>> ((x119 + 2) &&& 31)) ((v126 - v124) + 1) NM8 hv127) m_La_at q_641 rfl rfl (Nat.le_of_ble_eq_true rfl) dL_told_657 ⟨Nat.le_of_ble_eq_true rfl, Nat.le_of_ble_eq_true rfl⟩ ⟨by decide, by decide⟩) hS (fun H locs hP hS => ?_)
        refine lv_iadd hx hb dL_told_660 ?_
        refine lv_istore (lv' := [(18, .int (v124 + v127)), (17, .int v124), (16, .int v122), (0, .ref (adr G1 0)), (1, .int a1), (2, .ref (adr G1 30)), (3, .ref (adr G1 31)), (4, .ref (adr G1 32)), (5, .ref (adr G1 33)), (6, .ref (adr G1 34)), (7, .int v2), (8, .int v3), (9, .int y4), (10, .int y20), (11, .int y5), (12, .int y21), (13, .int y22), (14, .int y86), (15, .int x119)]) hx hb dL_told_661 hl (by decide) rfl (fun ls hl => ?_)
        refine lv_iload hx hb dL_told_663 (lv_at hl 2 rfl) ?_
        refine lv_iload hx hb dL_told_665 (lv_at hl 18 rfl) ?_
        refine lv_iload hx hb dL_told_667 (lv_at hl 0 rfl) ?_
        refine lv_aload_n hx hb dL_told_669 rfl (lv_at hl 5 rfl) ?_
        refine lv_aload_n hx hb dL_told_670 rfl (lv_at hl 6 rfl) ?_
        refine lv_aload hx hb dL_told_671 (lv_at hl 8 rfl) ?_
        obtain ⟨v128, hv128, h⟩ := hy_bind h
        refine hy_ret (hy_rS0 (T := (NC7, NM8, Mo)) (v := some (.int v128)) (T2 := (NC7, NM8, Mo)) (As := [.int v122, .int x119, .int (v124 + v127), .ref (adr G1 30), .ref (adr G1 31), .ref (adr G1 33)]) (rest := []) (n := 0) hx hb hml hown hts hX hP hS hl (c_La_below NC7 Mo v122 x119 (v124 + v127) NM8 hv128) m_La_below q_720 rfl rfl (Nat.le_of_ble_eq_true rfl) dL_told_673 ⟨Nat.le_of_ble_eq_true rfl, Nat.le_of_ble_eq_true rfl⟩ ⟨by decide, by decide⟩) hS (fun H locs hP hS => ?_)
        refine lv_istore (lv' := [(19, .int v128), (18, .int (v124 + v127)), (17, .int v124), (16, .int v122), (0, .ref (adr G1 0)), (1, .int a1), (2, .ref (adr G1 30)), (3, .ref (adr G1 31)), (4, .ref (adr G1 32)), (5, .ref (adr G1 33)), (6, .ref (adr G1 34)), (7, .int v2), (8, .int v3), (9, .int y4), (10, .int y20), (11, .int y5), (12, .int y21), (13, .int y22), (14, .int y86), (15, .int x119)]) hx hb dL_told_676 hl (by decide) rfl (fun ls hl => ?_)
        refine lv_iload hx hb dL_told_678 (lv_at hl 2 rfl) ?_
        refine lv_iload hx hb dL_told_680 (lv_at hl 1 rfl) ?_
        refine lv_aload_n hx hb dL_told_682 rfl (lv_at hl 6 rfl) ?_
        refine lv_aload_n hx hb dL_told_683 rfl (lv_at hl 7 rfl) ?_
        obtain ⟨v129, hv129, h⟩ := hy_bind h
        refine hy_ret (hy_rS0 (T := (NC7, NM8, Mo)) (v := some (.int v129)) (T2 := (NC7, NM8, Mo)) (As := [.int v124, .int (v124 + v127), .ref (adr G1 30), .ref (adr G1 31)]) (rest := []) (n := 0) hx hb hml hown hts hX hP hS hl (c_La_syllables NC7 Mo v124 (v124 + v127) NM8 hv129) m_La_syllables q_723 rfl rfl (Nat.le_of_ble_eq_true rfl) dL_told_684 ⟨Nat.le_of_ble_eq_true rfl, Nat.le_of_ble_eq_true rfl⟩ ⟨by decide, by decide⟩) hS (fun H locs hP hS => ?_)
        refine lv_iconst (v := 1) hx hb dL_told_687 rfl ?_
        refine lv_isub hx hb dL_told_688 ?_
        refine lv_istore (lv' := [(20, .int (v129 - 1)), (19, .int v128), (18, .int (v124 + v127)), (17, .int v124), (16, .int v122), (0, .ref (adr G1 0)), (1, .int a1), (2, .ref (adr G1 30)), (3, .ref (adr G1 31)), (4, .ref (adr G1 32)), (5, .ref (adr G1 33)), (6, .ref (adr G1 34)), (7, .int v2), (8, .int v3), (9, .int y4), (10, .int y20), (11, .int y5), (12, .int y21), (13, .int y22), (14, .int y86), (15, .int x119)]) hx hb dL_told_689 hl (by decide) rfl (fun ls hl => ?_)
        refine lv_iload hx hb dL_told_691 (lv_at hl 4 rfl) ?_
        refine lv_iconst (v := 2) hx hb dL_told_693 rfl ?_
        have K165 : ∀ (H : Heap) (locs : List Loc), (if 2 ≤ v122 then false else (!decide (8 ≤ x119))) = true → va_P G1.1 vwCl (wld G1 (NC7, NM8, Mo)) H → va_S (hyA G1) s.heap H locs → W p l e { frames := 9, cells := 8, slots := 6 * 8, locals := 196 } s m ([.ref (adr G 0), .int a1, .ref (adr G 30), .ref (adr G 31), .ref (adr G 32), .ref (adr G 33)] : List Value).toArray below meth c H locs 1 30 (vx_MQ below (hyQ G1 (.inr (some (.int (bI res.1))), (res.2.1, res.2.2, Mo))) (hyXQ G1 (.inr (some (.int (bI res.1))), (res.2.1, res.2.2, Mo))) ([.ref (adr G 0), .int a1, .ref (adr G 30), .ref (adr G 31), .ref (adr G 32), .ref (adr G 33)] : List Value).toArray s 8 (6 * 8) (hyA G1)) (F0 m 704 ls []) := by
          intro H locs cb hP hS
          rw [if_pos cb] at h
          refine lv_aload hx hb dL_told_704 (lv_at hl 10 rfl) ?_
          refine lv_bipush (v := 8) hx hb dL_told_706 rfl ?_
          refine lv_iload hx hb dL_told_708 (lv_at hl 4 rfl) ?_
          refine lv_imul hx hb dL_told_710 ?_
          refine lv_iload hx hb dL_told_711 (lv_at hl 20 rfl) ?_
          refine lv_iadd hx hb dL_told_713 ?_
          obtain ⟨v132, hv132, h⟩ := hy_bind h
          obtain ⟨nv132, hv132⟩ := ldE_some hv132
          refine hy_iald (T := (NC7, NM8, Mo)) hx hb hX hP 33 16 (NM8.1 33) (hy34 G1 (by decide)) rfl nv132 dL_told_714 ?_
          rw [hv132]
          refine lv_goto (tgt := 719) hx hb dL_told_715 (by decide) ?_
          refine lv_istore (lv' := [(21, .int v132), (20, .int (v129 - 1)), (19, .int v128), (18, .int (v124 + v127)), (17, .int v124), (16, .int v122), (0, .ref (adr G1 0)), (1, .int a1), (2, .ref (adr G1 30)), (3, .ref (adr G1 31)), (4, .ref (adr G1 32)), (5, .ref (adr G1 33)), (6, .ref (adr G1 34)), (7, .int v2), (8, .int v3), (9, .int y4), (10, .int y20), (11, .int y5), (12, .int y21), (13, .int y22), (14, .int y86), (15, .int x119)]) hx hb dL_told_719 hl (by decide) rfl (fun ls hl => ?_)
          refine lv_aload_n hx hb dL_told_721 rfl (lv_at hl 6 rfl) ?_
          refine lv_iload hx hb dL_told_722 (lv_at hl 5 rfl) ?_
          refine lv_iload hx hb dL_told_724 (lv_at hl 21 rfl) ?_
          refine lv_iload hx hb dL_told_726 (lv_at hl 3 rfl) ?_
          refine lv_iload hx hb dL_told_728 (lv_at hl 4 rfl) ?_
          refine lv_isub hx hb dL_told_730 ?_
          refine lv_iconst (v := 0) hx hb dL_told_731 rfl ?_
          obtain ⟨v133, hv133, h⟩ := hy_bind h
          refine hy_ret (hy_rV0 (T := (NC7, NM8, Mo)) (v := some (.int v133)) (T2 := (NC7, NM8, Mo)) (As := [.int v122, .int x119, .int ((v124 + v127) - v124), .int 0]) (rest := []) (n := 0) hx hb hml hown hts hX hP hS hl (c_Hp_below hlt NM8 Mo v122 x119 ((v124 + v127) - v124) 0 NC7 (res := .inr v133) (rt_some hv133)) m_Hp_below q_851 (hy_recv hX hP 0 9 (by decide) rfl rfl) rfl rfl (Nat.le_of_ble_eq_true rfl) dL_told_732 ⟨Nat.le_of_ble_eq_true rfl, Nat.le_of_ble_eq_true rfl⟩ ⟨by decide, by decide⟩) hS (fun H locs hP hS => ?_)
          refine lv_iload hx hb dL_told_735 (lv_at hl 2 rfl) ?_
          have J148 : ∀ (H : Heap) (locs : List Loc) (ls : Array Slot) (u1 : Int32), u1 = ((if v128 = 0 then (-1) else (v129 - 1)) : Int32) → va_P G1.1 vwCl (wld G1 (NC7, NM8, Mo)) H → va_S (hyA G1) s.heap H locs → lv_has ls 22 [(0, .ref (adr G1 0)), (1, .int a1), (2, .ref (adr G1 30)), (3, .ref (adr G1 31)), (4, .ref (adr G1 32)), (5, .ref (adr G1 33)), (6, .ref (adr G1 34)), (7, .int v2), (8, .int v3), (9, .int y4), (10, .int y20), (11, .int y5), (12, .int y21), (13, .int y22), (14, .int y86), (15, .int x119), (16, .int v122), (17, .int v124), (18, .int (v124 + v127)), (19, .int v128), (20, .int (v129 - 1)), (21, .int v132)] → W p l e { frames := 9, cells := 8, slots := 6 * 8, locals := 196 } s m ([.ref (adr G 0), .int a1, .ref (adr G 30), .ref (adr G 31), .ref (adr G 32), .ref (adr G 33)] : List Value).toArray below meth c H locs 1 30 (vx_MQ below (hyQ G1 (.inr (some (.int (bI res.1))), (res.2.1, res.2.2, Mo))) (hyXQ G1 (.inr (some (.int (bI res.1))), (res.2.1, res.2.2, Mo))) ([.ref (adr G 0), .int a1, .ref (adr G 30), .ref (adr G 31), .ref (adr G 32), .ref (adr G 33)] : List Value).toArray s 8 (6 * 8) (hyA G1)) (F0 m 746 ls [.int u1, .int v133]) := by
            intro H locs ls u1 eu1 hP hS hl
            subst eu1
            refine lv_icmp_ne (tgt := 846) hx hb dL_told_746 (by decide) (fun c135 => ?_) (fun c135 => ?_)
            · rw [if_neg c135] at h
              refine lv_iconst (v := 0) hx hb dL_told_846 rfl ?_
              exact hy_zret (T := (NC7, NM8, Mo)) hx hb hr hlocks hP hS (by decide) (by decide) (bI_nar false) (by rw [← (hq _ (Option.some.inj h).symm).symm] <;> rfl) dL_told_847
            · rw [if_pos (c135)] at h
              refine lv_aload_n hx hb dL_told_749 rfl (lv_at hl 0 rfl) ?_
              refine lv_iload hx hb dL_told_750 (lv_at hl 16 rfl) ?_
              refine lv_iload hx hb dL_told_752 (lv_at hl 15 rfl) ?_
              refine lv_iload hx hb dL_told_754 (lv_at hl 18 rfl) ?_
              refine lv_iload hx hb dL_told_756 (lv_at hl 17 rfl) ?_
              refine lv_isub hx hb dL_told_758 ?_
              refine lv_iconst (v := 1) hx hb dL_told_759 rfl ?_
              obtain ⟨v136, hv136, h⟩ := hy_bind h
              refine hy_ret (hy_rV0 (T := (NC7, NM8, Mo)) (v := some (.int v136)) (T2 := (NC7, NM8, Mo)) (As := [.int v122, .int x119, .int ((v124 + v127) - v124), .int 1]) (rest := []) (n := 0) hx hb hml hown hts hX hP hS hl (c_Hp_below hlt NM8 Mo v122 x119 ((v124 + v127) - v124) 1 NC7 (res := .inr v136) (rt_some hv136)) m_Hp_below q_851 (hy_recv hX hP 0 9 (by decide) rfl rfl) rfl rfl (Nat.le_of_ble_eq_true rfl) dL_told_760 ⟨Nat.le_of_ble_eq_true rfl, Nat.le_of_ble_eq_true rfl⟩ ⟨by decide, by decide⟩) hS (fun H locs hP hS => ?_)
              refine lv_iload hx hb dL_told_763 (lv_at hl 19 rfl) ?_
              have J147 : ∀ (H : Heap) (locs : List Loc) (ls : Array Slot) (u1 : Int32), u1 = ((if v128 = 0 then (-1) else v128) : Int32) → va_P G1.1 vwCl (wld G1 (NC7, NM8, Mo)) H → va_S (hyA G1) s.heap H locs → lv_has ls 22 [(0, .ref (adr G1 0)), (1, .int a1), (2, .ref (adr G1 30)), (3, .ref (adr G1 31)), (4, .ref (adr G1 32)), (5, .ref (adr G1 33)), (6, .ref (adr G1 34)), (7, .int v2), (8, .int v3), (9, .int y4), (10, .int y20), (11, .int y5), (12, .int y21), (13, .int y22), (14, .int y86), (15, .int x119), (16, .int v122), (17, .int v124), (18, .int (v124 + v127)), (19, .int v128), (20, .int (v129 - 1)), (21, .int v132)] → W p l e { frames := 9, cells := 8, slots := 6 * 8, locals := 196 } s m ([.ref (adr G 0), .int a1, .ref (adr G 30), .ref (adr G 31), .ref (adr G 32), .ref (adr G 33)] : List Value).toArray below meth c H locs 1 30 (vx_MQ below (hyQ G1 (.inr (some (.int (bI res.1))), (res.2.1, res.2.2, Mo))) (hyXQ G1 (.inr (some (.int (bI res.1))), (res.2.1, res.2.2, Mo))) ([.ref (adr G 0), .int a1, .ref (adr G 30), .ref (adr G 31), .ref (adr G 32), .ref (adr G 33)] : List Value).toArray s 8 (6 * 8) (hyA G1)) (F0 m 774 ls [.int u1, .int v136]) := by
                intro H locs ls u1 eu1 hP hS hl
                subst eu1
                refine lv_icmp_ne (tgt := 846) hx hb dL_told_774 (by decide) (fun c138 => ?_) (fun c138 => ?_)
                · rw [if_neg c138] at h
                  refine lv_iconst (v := 0) hx hb dL_told_846 rfl ?_
                  exact hy_zret (T := (NC7, NM8, Mo)) hx hb hr hlocks hP hS (by decide) (by decide) (bI_nar false) (by rw [← (hq _ (Option.some.inj h).symm).symm] <;> rfl) dL_told_847
                · rw [if_pos (c138)] at h
                  refine lv_aload_n hx hb dL_told_777 rfl (lv_at hl 0 rfl) ?_
                  refine lv_iload hx hb dL_told_778 (lv_at hl 16 rfl) ?_
                  refine lv_iload hx hb dL_told_780 (lv_at hl 15 rfl) ?_
                  refine lv_iload hx hb dL_told_782 (lv_at hl 18 rfl) ?_
                  refine lv_iload hx hb dL_told_784 (lv_at hl 17 rfl) ?_
                  refine lv_isub hx hb dL_told_786 ?_
                  refine lv_iconst (v := 2) hx hb dL_told_787 rfl ?_
                  obtain ⟨v139, hv139, h⟩ := hy_bind h
                  refine hy_ret (hy_rV0 (T := (NC7, NM8, Mo)) (v := some (.int v139)) (T2 := (NC7, NM8, Mo)) (As := [.int v122, .int x119, .int ((v124 + v127) - v124), .int 2]) (rest := []) (n := 0) hx hb hml hown hts hX hP hS hl (c_Hp_below hlt NM8 Mo v122 x119 ((v124 + v127) - v124) 2 NC7 (res := .inr v139) (rt_some hv139)) m_Hp_below q_851 (hy_recv hX hP 0 9 (by decide) rfl rfl) rfl rfl (Nat.le_of_ble_eq_true rfl) dL_told_788 ⟨Nat.le_of_ble_eq_true rfl, Nat.le_of_ble_eq_true rfl⟩ ⟨by decide, by decide⟩) hS (fun H locs hP hS => ?_)
                  refine lv_iload hx hb dL_told_791 (lv_at hl 19 rfl) ?_
                  have J146 : ∀ (H : Heap) (locs : List Loc) (ls : Array Slot) (u1 : Int32), u1 = ((if v128 = 0 then (-1) else (97 + v128)) : Int32) → va_P G1.1 vwCl (wld G1 (NC7, NM8, Mo)) H → va_S (hyA G1) s.heap H locs → lv_has ls 22 [(0, .ref (adr G1 0)), (1, .int a1), (2, .ref (adr G1 30)), (3, .ref (adr G1 31)), (4, .ref (adr G1 32)), (5, .ref (adr G1 33)), (6, .ref (adr G1 34)), (7, .int v2), (8, .int v3), (9, .int y4), (10, .int y20), (11, .int y5), (12, .int y21), (13, .int y22), (14, .int y86), (15, .int x119), (16, .int v122), (17, .int v124), (18, .int (v124 + v127)), (19, .int v128), (20, .int (v129 - 1)), (21, .int v132)] → W p l e { frames := 9, cells := 8, slots := 6 * 8, locals := 196 } s m ([.ref (adr G 0), .int a1, .ref (adr G 30), .ref (adr G 31), .ref (adr G 32), .ref (adr G 33)] : List Value).toArray below meth c H locs 1 30 (vx_MQ below (hyQ G1 (.inr (some (.int (bI res.1))), (res.2.1, res.2.2, Mo))) (hyXQ G1 (.inr (some (.int (bI res.1))), (res.2.1, res.2.2, Mo))) ([.ref (adr G 0), .int a1, .ref (adr G 30), .ref (adr G 31), .ref (adr G 32), .ref (adr G 33)] : List Value).toArray s 8 (6 * 8) (hyA G1)) (F0 m 805 ls [.int u1, .int v139]) := by
                    intro H locs ls u1 eu1 hP hS hl
                    subst eu1
                    refine lv_icmp_ne (tgt := 846) hx hb dL_told_805 (by decide) (fun c141 => ?_) (fun c141 => ?_)
                    · rw [if_neg c141] at h
                      refine lv_iconst (v := 0) hx hb dL_told_846 rfl ?_
                      exact hy_zret (T := (NC7, NM8, Mo)) hx hb hr hlocks hP hS (by decide) (by decide) (bI_nar false) (by rw [← (hq _ (Option.some.inj h).symm).symm] <;> rfl) dL_told_847
                    · rw [if_pos (c141)] at h
                      refine lv_aload_n hx hb dL_told_808 rfl (lv_at hl 0 rfl) ?_
                      refine lv_iload hx hb dL_told_809 (lv_at hl 16 rfl) ?_
                      refine lv_iload hx hb dL_told_811 (lv_at hl 15 rfl) ?_
                      refine lv_iload hx hb dL_told_813 (lv_at hl 18 rfl) ?_
                      refine lv_iload hx hb dL_told_815 (lv_at hl 17 rfl) ?_
                      refine lv_isub hx hb dL_told_817 ?_
                      refine lv_iconst (v := 3) hx hb dL_told_818 rfl ?_
                      obtain ⟨v142, hv142, h⟩ := hy_bind h
                      refine hy_ret (hy_rV0 (T := (NC7, NM8, Mo)) (v := some (.int v142)) (T2 := (NC7, NM8, Mo)) (As := [.int v122, .int x119, .int ((v124 + v127) - v124), .int 3]) (rest := []) (n := 0) hx hb hml hown hts hX hP hS hl (c_Hp_below hlt NM8 Mo v122 x119 ((v124 + v127) - v124) 3 NC7 (res := .inr v142) (rt_some hv142)) m_Hp_below q_851 (hy_recv hX hP 0 9 (by decide) rfl rfl) rfl rfl (Nat.le_of_ble_eq_true rfl) dL_told_819 ⟨Nat.le_of_ble_eq_true rfl, Nat.le_of_ble_eq_true rfl⟩ ⟨by decide, by decide⟩) hS (fun H locs hP hS => ?_)
                      refine lv_iload hx hb dL_told_822 (lv_at hl 19 rfl) ?_
                      have J145 : ∀ (H : Heap) (locs : List Loc) (ls : Array Slot) (u1 : Int32), u1 = ((if v128 = 0 then (-1) else (1 - ((v132 >>> ((24 + (v129 - 1)) &&& 31)) &&& 1))) : Int32) → va_P G1.1 vwCl (wld G1 (NC7, NM8, Mo)) H → va_S (hyA G1) s.heap H locs → lv_has ls 22 [(0, .ref (adr G1 0)), (1, .int a1), (2, .ref (adr G1 30)), (3, .ref (adr G1 31)), (4, .ref (adr G1 32)), (5, .ref (adr G1 33)), (6, .ref (adr G1 34)), (7, .int v2), (8, .int v3), (9, .int y4), (10, .int y20), (11, .int y5), (12, .int y21), (13, .int y22), (14, .int y86), (15, .int x119), (16, .int v122), (17, .int v124), (18, .int (v124 + v127)), (19, .int v128), (20, .int (v129 - 1)), (21, .int v132)] → W p l e { frames := 9, cells := 8, slots := 6 * 8, locals := 196 } s m ([.ref (adr G 0), .int a1, .ref (adr G 30), .ref (adr G 31), .ref (adr G 32), .ref (adr G 33)] : List Value).toArray below meth c H locs 1 30 (vx_MQ below (hyQ G1 (.inr (some (.int (bI res.1))), (res.2.1, res.2.2, Mo))) (hyXQ G1 (.inr (some (.int (bI res.1))), (res.2.1, res.2.2, Mo))) ([.ref (adr G 0), .int a1, .ref (adr G 30), .ref (adr G 31), .ref (adr G 32), .ref (adr G 33)] : List Value).toArray s 8 (6 * 8) (hyA G1)) (F0 m 843 ls [.int u1, .int v142]) := by
                        intro H locs ls u1 eu1 hP hS hl
                        subst eu1
                        refine lv_icmp_eq (tgt := 848) hx hb dL_told_843 (by decide) (fun c144 => ?_) (fun c144 => ?_)
                        · rw [if_pos c144] at h
                          refine lv_iinc (v := (x119 + 1)) (lv' := [(15, .int (x119 + 1)), (0, .ref (adr G1 0)), (1, .int a1), (2, .ref (adr G1 30)), (3, .ref (adr G1 31)), (4, .ref (adr G1 32)), (5, .ref (adr G1 33)), (6, .ref (adr G1 34)), (7, .int v2), (8, .int v3), (9, .int y4), (10, .int y20), (11, .int y5), (12, .int y21), (13, .int y22), (14, .int y86), (16, .int v122), (17, .int v124), (18, .int (v124 + v127)), (19, .int v128), (20, .int (v129 - 1)), (21, .int v132)]) hx hb dL_told_848 hl (k := 15) rfl rfl (by decide) rfl (fun ls hl => ?_)
                          refine lv_goto (tgt := 600) hx hb dL_told_851 (by decide) ?_
                          exact ih (x119 + 1) _ h hq _ _ ls hP hS (lv_sub hl [1, 2, 3, 4, 5, 6, 7, 8, 9, 10, 11, 12, 13, 14, 15, 0] rfl) kk
                        · rw [if_neg c144] at h
                          refine lv_iconst (v := 0) hx hb dL_told_846 rfl ?_
                          exact hy_zret (T := (NC7, NM8, Mo)) hx hb hr hlocks hP hS (by decide) (by decide) (bI_nar false) (by rw [← (hq _ (Option.some.inj h).symm).symm] <;> rfl) dL_told_847
                      refine lv_if_ne (tgt := 831) hx hb dL_told_824 (by decide) (fun c143 => ?_) (fun c143 => ?_)
                      · refine lv_iconst (v := 1) hx hb dL_told_831 rfl ?_
                        refine lv_iload hx hb dL_told_832 (lv_at hl 21 rfl) ?_
                        refine lv_bipush (v := 24) hx hb dL_told_834 rfl ?_
                        refine lv_iload hx hb dL_told_836 (lv_at hl 20 rfl) ?_
                        refine lv_iadd hx hb dL_told_838 ?_
                        refine lv_ishr hx hb dL_told_839 ?_
                        refine lv_iconst (v := 1) hx hb dL_told_840 rfl ?_
                        refine lv_iand hx hb dL_told_841 ?_
                        refine lv_isub hx hb dL_told_842 ?_
                        exact J145 _ _ ls (1 - ((v132 >>> ((24 + (v129 - 1)) &&& 31)) &&& 1)) (by rw [if_neg c143] <;> rfl) hP hS (lv_sub hl [0, 1, 2, 3, 4, 5, 6, 7, 8, 9, 10, 11, 12, 13, 14, 15, 16, 17, 18, 19, 20, 21] rfl)
                      · refine lv_iconst (v := (-1)) hx hb dL_told_827 rfl ?_
                        refine lv_goto (tgt := 843) hx hb dL_told_828 (by decide) ?_
                        exact J145 _ _ ls (-1) (by rw [if_pos c143] <;> rfl) hP hS (lv_sub hl [0, 1, 2, 3, 4, 5, 6, 7, 8, 9, 10, 11, 12, 13, 14, 15, 16, 17, 18, 19, 20, 21] rfl)
                  refine lv_if_ne (tgt := 800) hx hb dL_told_793 (by decide) (fun c140 => ?_) (fun c140 => ?_)
                  · refine lv_bipush (v := 97) hx hb dL_told_800 rfl ?_
                    refine lv_iload hx hb dL_told_802 (lv_at hl 19 rfl) ?_
                    refine lv_iadd hx hb dL_told_804 ?_
                    exact J146 _ _ ls (97 + v128) (by rw [if_neg c140] <;> rfl) hP hS (lv_sub hl [0, 1, 2, 3, 4, 5, 6, 7, 8, 9, 10, 11, 12, 13, 14, 15, 16, 17, 18, 19, 20, 21] rfl)
                  · refine lv_iconst (v := (-1)) hx hb dL_told_796 rfl ?_
                    refine lv_goto (tgt := 805) hx hb dL_told_797 (by decide) ?_
                    exact J146 _ _ ls (-1) (by rw [if_pos c140] <;> rfl) hP hS (lv_sub hl [0, 1, 2, 3, 4, 5, 6, 7, 8, 9, 10, 11, 12, 13, 14, 15, 16, 17, 18, 19, 20, 21] rfl)
              refine lv_if_ne (tgt := 772) hx hb dL_told_765 (by decide) (fun c137 => ?_) (fun c137 => ?_)
              · refine lv_iload hx hb dL_told_772 (lv_at hl 19 rfl) ?_
                exact J147 _ _ ls v128 (by rw [if_neg c137] <;> rfl) hP hS (lv_sub hl [0, 1, 2, 3, 4, 5, 6, 7, 8, 9, 10, 11, 12, 13, 14, 15, 16, 17, 18, 19, 20, 21] rfl)
              · refine lv_iconst (v := (-1)) hx hb dL_told_768 rfl ?_
                refine lv_goto (tgt := 774) hx hb dL_told_769 (by decide) ?_
                exact J147 _ _ ls (-1) (by rw [if_pos c137] <;> rfl) hP hS (lv_sub hl [0, 1, 2, 3, 4, 5, 6, 7, 8, 9, 10, 11, 12, 13, 14, 15, 16, 17, 18, 19, 20, 21] rfl)
          refine lv_if_ne (tgt := 744) hx hb dL_told_737 (by decide) (fun c134 => ?_) (fun c134 => ?_)
          · refine lv_iload hx hb dL_told_744 (lv_at hl 1 rfl) ?_
            exact J148 _ _ ls (v129 - 1) (by rw [if_neg c134] <;> rfl) hP hS (lv_sub hl [6, 7, 8, 9, 10, 11, 12, 13, 14, 15, 16, 17, 18, 19, 20, 21, 5, 4, 3, 2, 1, 0] rfl)
          · refine lv_iconst (v := (-1)) hx hb dL_told_740 rfl ?_
            refine lv_goto (tgt := 746) hx hb dL_told_741 (by decide) ?_
            exact J148 _ _ ls (-1) (by rw [if_pos c134] <;> rfl) hP hS (lv_sub hl [6, 7, 8, 9, 10, 11, 12, 13, 14, 15, 16, 17, 18, 19, 20, 21, 5, 4, 3, 2, 1, 0] rfl)
        have K166 : ∀ (H : Heap) (locs : List Loc), ¬ (if 2 ≤ v122 then false else (!decide (8 ≤ x119))) = true → va_P G1.1 vwCl (wld G1 (NC7, NM8, Mo)) H → va_S (hyA G1) s.heap H locs → W p l e { frames := 9, cells := 8, slots := 6 * 8, locals := 196 } s m ([.ref (adr G 0), .int a1, .ref (adr G 30), .ref (adr G 31), .ref (adr G 32), .ref (adr G 33)] : List Value).toArray below meth c H locs 1 30 (vx_MQ below (hyQ G1 (.inr (some (.int (bI res.1))), (res.2.1, res.2.2, Mo))) (hyXQ G1 (.inr (some (.int (bI res.1))), (res.2.1, res.2.2, Mo))) ([.ref (adr G 0), .int a1, .ref (adr G 30), .ref (adr G 31), .ref (adr G 32), .ref (adr G 33)] : List Value).toArray s 8 (6 * 8) (hyA G1)) (F0 m 718 ls []) := by
          intro H locs cb hP hS
          rw [if_neg cb] at h
          refine lv_iconst (v := 0) hx hb dL_told_718 rfl ?_
          refine lv_istore (lv' := [(21, .int 0), (20, .int (v129 - 1)), (19, .int v128), (18, .int (v124 + v127)), (17, .int v124), (16, .int v122), (0, .ref (adr G1 0)), (1, .int a1), (2, .ref (adr G1 30)), (3, .ref (adr G1 31)), (4, .ref (adr G1 32)), (5, .ref (adr G1 33)), (6, .ref (adr G1 34)), (7, .int v2), (8, .int v3), (9, .int y4), (10, .int y20), (11, .int y5), (12, .int y21), (13, .int y22), (14, .int y86), (15, .int x119)]) hx hb dL_told_719 hl (by decide) rfl (fun ls hl => ?_)
          refine lv_aload_n hx hb dL_told_721 rfl (lv_at hl 6 rfl) ?_
          refine lv_iload hx hb dL_told_722 (lv_at hl 5 rfl) ?_
          refine lv_iload hx hb dL_told_724 (lv_at hl 21 rfl) ?_
          refine lv_iload hx hb dL_told_726 (lv_at hl 3 rfl) ?_
          refine lv_iload hx hb dL_told_728 (lv_at hl 4 rfl) ?_
          refine lv_isub hx hb dL_told_730 ?_
          refine lv_iconst (v := 0) hx hb dL_told_731 rfl ?_
          obtain ⟨v149, hv149, h⟩ := hy_bind h
          refine hy_ret (hy_rV0 (T := (NC7, NM8, Mo)) (v := some (.int v149)) (T2 := (NC7, NM8, Mo)) (As := [.int v122, .int x119, .int ((v124 + v127) - v124), .int 0]) (rest := []) (n := 0) hx hb hml hown hts hX hP hS hl (c_Hp_below hlt NM8 Mo v122 x119 ((v124 + v127) - v124) 0 NC7 (res := .inr v149) (rt_some hv149)) m_Hp_below q_851 (hy_recv hX hP 0 9 (by decide) rfl rfl) rfl rfl (Nat.le_of_ble_eq_true rfl) dL_told_732 ⟨Nat.le_of_ble_eq_true rfl, Nat.le_of_ble_eq_true rfl⟩ ⟨by decide, by decide⟩) hS (fun H locs hP hS => ?_)
          refine lv_iload hx hb dL_told_735 (lv_at hl 2 rfl) ?_
          have J164 : ∀ (H : Heap) (locs : List Loc) (ls : Array Slot) (u1 : Int32), u1 = ((if v128 = 0 then (-1) else (v129 - 1)) : Int32) → va_P G1.1 vwCl (wld G1 (NC7, NM8, Mo)) H → va_S (hyA G1) s.heap H locs → lv_has ls 22 [(0, .ref (adr G1 0)), (1, .int a1), (2, .ref (adr G1 30)), (3, .ref (adr G1 31)), (4, .ref (adr G1 32)), (5, .ref (adr G1 33)), (6, .ref (adr G1 34)), (7, .int v2), (8, .int v3), (9, .int y4), (10, .int y20), (11, .int y5), (12, .int y21), (13, .int y22), (14, .int y86), (15, .int x119), (16, .int v122), (17, .int v124), (18, .int (v124 + v127)), (19, .int v128), (20, .int (v129 - 1)), (21, .int 0)] → W p l e { frames := 9, cells := 8, slots := 6 * 8, locals := 196 } s m ([.ref (adr G 0), .int a1, .ref (adr G 30), .ref (adr G 31), .ref (adr G 32), .ref (adr G 33)] : List Value).toArray below meth c H locs 1 30 (vx_MQ below (hyQ G1 (.inr (some (.int (bI res.1))), (res.2.1, res.2.2, Mo))) (hyXQ G1 (.inr (some (.int (bI res.1))), (res.2.1, res.2.2, Mo))) ([.ref (adr G 0), .int a1, .ref (adr G 30), .ref (adr G 31), .ref (adr G 32), .ref (adr G 33)] : List Value).toArray s 8 (6 * 8) (hyA G1)) (F0 m 746 ls [.int u1, .int v149]) := by
            intro H locs ls u1 eu1 hP hS hl
            subst eu1
            refine lv_icmp_ne (tgt := 846) hx hb dL_told_746 (by decide) (fun c151 => ?_) (fun c151 => ?_)
            · rw [if_neg c151] at h
              refine lv_iconst (v := 0) hx hb dL_told_846 rfl ?_
              exact hy_zret (T := (NC7, NM8, Mo)) hx hb hr hlocks hP hS (by decide) (by decide) (bI_nar false) (by rw [← (hq _ (Option.some.inj h).symm).symm] <;> rfl) dL_told_847
            · rw [if_pos (c151)] at h
              refine lv_aload_n hx hb dL_told_749 rfl (lv_at hl 0 rfl) ?_
              refine lv_iload hx hb dL_told_750 (lv_at hl 16 rfl) ?_
              refine lv_iload hx hb dL_told_752 (lv_at hl 15 rfl) ?_
              refine lv_iload hx hb dL_told_754 (lv_at hl 18 rfl) ?_
              refine lv_iload hx hb dL_told_756 (lv_at hl 17 rfl) ?_
              refine lv_isub hx hb dL_told_758 ?_
              refine lv_iconst (v := 1) hx hb dL_told_759 rfl ?_
              obtain ⟨v152, hv152, h⟩ := hy_bind h
              refine hy_ret (hy_rV0 (T := (NC7, NM8, Mo)) (v := some (.int v152)) (T2 := (NC7, NM8, Mo)) (As := [.int v122, .int x119, .int ((v124 + v127) - v124), .int 1]) (rest := []) (n := 0) hx hb hml hown hts hX hP hS hl (c_Hp_below hlt NM8 Mo v122 x119 ((v124 + v127) - v124) 1 NC7 (res := .inr v152) (rt_some hv152)) m_Hp_below q_851 (hy_recv hX hP 0 9 (by decide) rfl rfl) rfl rfl (Nat.le_of_ble_eq_true rfl) dL_told_760 ⟨Nat.le_of_ble_eq_true rfl, Nat.le_of_ble_eq_true rfl⟩ ⟨by decide, by decide⟩) hS (fun H locs hP hS => ?_)
              refine lv_iload hx hb dL_told_763 (lv_at hl 19 rfl) ?_
              have J163 : ∀ (H : Heap) (locs : List Loc) (ls : Array Slot) (u1 : Int32), u1 = ((if v128 = 0 then (-1) else v128) : Int32) → va_P G1.1 vwCl (wld G1 (NC7, NM8, Mo)) H → va_S (hyA G1) s.heap H locs → lv_has ls 22 [(0, .ref (adr G1 0)), (1, .int a1), (2, .ref (adr G1 30)), (3, .ref (adr G1 31)), (4, .ref (adr G1 32)), (5, .ref (adr G1 33)), (6, .ref (adr G1 34)), (7, .int v2), (8, .int v3), (9, .int y4), (10, .int y20), (11, .int y5), (12, .int y21), (13, .int y22), (14, .int y86), (15, .int x119), (16, .int v122), (17, .int v124), (18, .int (v124 + v127)), (19, .int v128), (20, .int (v129 - 1)), (21, .int 0)] → W p l e { frames := 9, cells := 8, slots := 6 * 8, locals := 196 } s m ([.ref (adr G 0), .int a1, .ref (adr G 30), .ref (adr G 31), .ref (adr G 32), .ref (adr G 33)] : List Value).toArray below meth c H locs 1 30 (vx_MQ below (hyQ G1 (.inr (some (.int (bI res.1))), (res.2.1, res.2.2, Mo))) (hyXQ G1 (.inr (some (.int (bI res.1))), (res.2.1, res.2.2, Mo))) ([.ref (adr G 0), .int a1, .ref (adr G 30), .ref (adr G 31), .ref (adr G 32), .ref (adr G 33)] : List Value).toArray s 8 (6 * 8) (hyA G1)) (F0 m 774 ls [.int u1, .int v152]) := by
                intro H locs ls u1 eu1 hP hS hl
                subst eu1
                refine lv_icmp_ne (tgt := 846) hx hb dL_told_774 (by decide) (fun c154 => ?_) (fun c154 => ?_)
                · rw [if_neg c154] at h
                  refine lv_iconst (v := 0) hx hb dL_told_846 rfl ?_
                  exact hy_zret (T := (NC7, NM8, Mo)) hx hb hr hlocks hP hS (by decide) (by decide) (bI_nar false) (by rw [← (hq _ (Option.some.inj h).symm).symm] <;> rfl) dL_told_847
                · rw [if_pos (c154)] at h
                  refine lv_aload_n hx hb dL_told_777 rfl (lv_at hl 0 rfl) ?_
                  refine lv_iload hx hb dL_told_778 (lv_at hl 16 rfl) ?_
                  refine lv_iload hx hb dL_told_780 (lv_at hl 15 rfl) ?_
                  refine lv_iload hx hb dL_told_782 (lv_at hl 18 rfl) ?_
                  refine lv_iload hx hb dL_told_784 (lv_at hl 17 rfl) ?_
                  refine lv_isub hx hb dL_told_786 ?_
                  refine lv_iconst (v := 2) hx hb dL_told_787 rfl ?_
                  obtain ⟨v155, hv155, h⟩ := hy_bind h
                  refine hy_ret (hy_rV0 (T := (NC7, NM8, Mo)) (v := some (.int v155)) (T2 := (NC7, NM8, Mo)) (As := [.int v122, .int x119, .int ((v124 + v127) - v124), .int 2]) (rest := []) (n := 0) hx hb hml hown hts hX hP hS hl (c_Hp_below hlt NM8 Mo v122 x119 ((v124 + v127) - v124) 2 NC7 (res := .inr v155) (rt_some hv155)) m_Hp_below q_851 (hy_recv hX hP 0 9 (by decide) rfl rfl) rfl rfl (Nat.le_of_ble_eq_true rfl) dL_told_788 ⟨Nat.le_of_ble_eq_true rfl, Nat.le_of_ble_eq_true rfl⟩ ⟨by decide, by decide⟩) hS (fun H locs hP hS => ?_)
                  refine lv_iload hx hb dL_told_791 (lv_at hl 19 rfl) ?_
                  have J162 : ∀ (H : Heap) (locs : List Loc) (ls : Array Slot) (u1 : Int32), u1 = ((if v128 = 0 then (-1) else (97 + v128)) : Int32) → va_P G1.1 vwCl (wld G1 (NC7, NM8, Mo)) H → va_S (hyA G1) s.heap H locs → lv_has ls 22 [(0, .ref (adr G1 0)), (1, .int a1), (2, .ref (adr G1 30)), (3, .ref (adr G1 31)), (4, .ref (adr G1 32)), (5, .ref (adr G1 33)), (6, .ref (adr G1 34)), (7, .int v2), (8, .int v3), (9, .int y4), (10, .int y20), (11, .int y5), (12, .int y21), (13, .int y22), (14, .int y86), (15, .int x119), (16, .int v122), (17, .int v124), (18, .int (v124 + v127)), (19, .int v128), (20, .int (v129 - 1)), (21, .int 0)] → W p l e { frames := 9, cells := 8, slots := 6 * 8, locals := 196 } s m ([.ref (adr G 0), .int a1, .ref (adr G 30), .ref (adr G 31), .ref (adr G 32), .ref (adr G 33)] : List Value).toArray below meth c H locs 1 30 (vx_MQ below (hyQ G1 (.inr (some (.int (bI res.1))), (res.2.1, res.2.2, Mo))) (hyXQ G1 (.inr (some (.int (bI res.1))), (res.2.1, res.2.2, Mo))) ([.ref (adr G 0), .int a1, .ref (adr G 30), .ref (adr G 31), .ref (adr G 32), .ref (adr G 33)] : List Value).toArray s 8 (6 * 8) (hyA G1)) (F0 m 805 ls [.int u1, .int v155]) := by
                    intro H locs ls u1 eu1 hP hS hl
                    subst eu1
                    refine lv_icmp_ne (tgt := 846) hx hb dL_told_805 (by decide) (fun c157 => ?_) (fun c157 => ?_)
                    · rw [if_neg c157] at h
                      refine lv_iconst (v := 0) hx hb dL_told_846 rfl ?_
                      exact hy_zret (T := (NC7, NM8, Mo)) hx hb hr hlocks hP hS (by decide) (by decide) (bI_nar false) (by rw [← (hq _ (Option.some.inj h).symm).symm] <;> rfl) dL_told_847
                    · rw [if_pos (c157)] at h
                      refine lv_aload_n hx hb dL_told_808 rfl (lv_at hl 0 rfl) ?_
                      refine lv_iload hx hb dL_told_809 (lv_at hl 16 rfl) ?_
                      refine lv_iload hx hb dL_told_811 (lv_at hl 15 rfl) ?_
                      refine lv_iload hx hb dL_told_813 (lv_at hl 18 rfl) ?_
                      refine lv_iload hx hb dL_told_815 (lv_at hl 17 rfl) ?_
                      refine lv_isub hx hb dL_told_817 ?_
                      refine lv_iconst (v := 3) hx hb dL_told_818 rfl ?_
                      obtain ⟨v158, hv158, h⟩ := hy_bind h
                      refine hy_ret (hy_rV0 (T := (NC7, NM8, Mo)) (v := some (.int v158)) (T2 := (NC7, NM8, Mo)) (As := [.int v122, .int x119, .int ((v124 + v127) - v124), .int 3]) (rest := []) (n := 0) hx hb hml hown hts hX hP hS hl (c_Hp_below hlt NM8 Mo v122 x119 ((v124 + v127) - v124) 3 NC7 (res := .inr v158) (rt_some hv158)) m_Hp_below q_851 (hy_recv hX hP 0 9 (by decide) rfl rfl) rfl rfl (Nat.le_of_ble_eq_true rfl) dL_told_819 ⟨Nat.le_of_ble_eq_true rfl, Nat.le_of_ble_eq_true rfl⟩ ⟨by decide, by decide⟩) hS (fun H locs hP hS => ?_)
                      refine lv_iload hx hb dL_told_822 (lv_at hl 19 rfl) ?_
                      have J161 : ∀ (H : Heap) (locs : List Loc) (ls : Array Slot) (u1 : Int32), u1 = ((if v128 = 0 then (-1) else (1 - (((0 : Int32) >>> ((24 + (v129 - 1)) &&& 31)) &&& 1))) : Int32) → va_P G1.1 vwCl (wld G1 (NC7, NM8, Mo)) H → va_S (hyA G1) s.heap H locs → lv_has ls 22 [(0, .ref (adr G1 0)), (1, .int a1), (2, .ref (adr G1 30)), (3, .ref (adr G1 31)), (4, .ref (adr G1 32)), (5, .ref (adr G1 33)), (6, .ref (adr G1 34)), (7, .int v2), (8, .int v3), (9, .int y4), (10, .int y20), (11, .int y5), (12, .int y21), (13, .int y22), (14, .int y86), (15, .int x119), (16, .int v122), (17, .int v124), (18, .int (v124 + v127)), (19, .int v128), (20, .int (v129 - 1)), (21, .int 0)] → W p l e { frames := 9, cells := 8, slots := 6 * 8, locals := 196 } s m ([.ref (adr G 0), .int a1, .ref (adr G 30), .ref (adr G 31), .ref (adr G 32), .ref (adr G 33)] : List Value).toArray below meth c H locs 1 30 (vx_MQ below (hyQ G1 (.inr (some (.int (bI res.1))), (res.2.1, res.2.2, Mo))) (hyXQ G1 (.inr (some (.int (bI res.1))), (res.2.1, res.2.2, Mo))) ([.ref (adr G 0), .int a1, .ref (adr G 30), .ref (adr G 31), .ref (adr G 32), .ref (adr G 33)] : List Value).toArray s 8 (6 * 8) (hyA G1)) (F0 m 843 ls [.int u1, .int v158]) := by
                        intro H locs ls u1 eu1 hP hS hl
                        subst eu1
                        refine lv_icmp_eq (tgt := 848) hx hb dL_told_843 (by decide) (fun c160 => ?_) (fun c160 => ?_)
                        · rw [if_pos c160] at h
                          refine lv_iinc (v := (x119 + 1)) (lv' := [(15, .int (x119 + 1)), (0, .ref (adr G1 0)), (1, .int a1), (2, .ref (adr G1 30)), (3, .ref (adr G1 31)), (4, .ref (adr G1 32)), (5, .ref (adr G1 33)), (6, .ref (adr G1 34)), (7, .int v2), (8, .int v3), (9, .int y4), (10, .int y20), (11, .int y5), (12, .int y21), (13, .int y22), (14, .int y86), (16, .int v122), (17, .int v124), (18, .int (v124 + v127)), (19, .int v128), (20, .int (v129 - 1)), (21, .int 0)]) hx hb dL_told_848 hl (k := 15) rfl rfl (by decide) rfl (fun ls hl => ?_)
                          refine lv_goto (tgt := 600) hx hb dL_told_851 (by decide) ?_
                          exact ih (x119 + 1) _ h hq _ _ ls hP hS (lv_sub hl [1, 2, 3, 4, 5, 6, 7, 8, 9, 10, 11, 12, 13, 14, 15, 0] rfl) kk
                        · rw [if_neg c160] at h
                          refine lv_iconst (v := 0) hx hb dL_told_846 rfl ?_
                          exact hy_zret (T := (NC7, NM8, Mo)) hx hb hr hlocks hP hS (by decide) (by decide) (bI_nar false) (by rw [← (hq _ (Option.some.inj h).symm).symm] <;> rfl) dL_told_847
                      refine lv_if_ne (tgt := 831) hx hb dL_told_824 (by decide) (fun c159 => ?_) (fun c159 => ?_)
                      · refine lv_iconst (v := 1) hx hb dL_told_831 rfl ?_
                        refine lv_iload hx hb dL_told_832 (lv_at hl 21 rfl) ?_
                        refine lv_bipush (v := 24) hx hb dL_told_834 rfl ?_
                        refine lv_iload hx hb dL_told_836 (lv_at hl 20 rfl) ?_
                        refine lv_iadd hx hb dL_told_838 ?_
                        refine lv_ishr hx hb dL_told_839 ?_
                        refine lv_iconst (v := 1) hx hb dL_told_840 rfl ?_
                        refine lv_iand hx hb dL_told_841 ?_
                        refine lv_isub hx hb dL_told_842 ?_
                        exact J161 _ _ ls (1 - (((0 : Int32) >>> ((24 + (v129 - 1)) &&& 31)) &&& 1)) (by rw [if_neg c159] <;> rfl) hP hS (lv_sub hl [0, 1, 2, 3, 4, 5, 6, 7, 8, 9, 10, 11, 12, 13, 14, 15, 16, 17, 18, 19, 20, 21] rfl)
                      · refine lv_iconst (v := (-1)) hx hb dL_told_827 rfl ?_
                        refine lv_goto (tgt := 843) hx hb dL_told_828 (by decide) ?_
                        exact J161 _ _ ls (-1) (by rw [if_pos c159] <;> rfl) hP hS (lv_sub hl [0, 1, 2, 3, 4, 5, 6, 7, 8, 9, 10, 11, 12, 13, 14, 15, 16, 17, 18, 19, 20, 21] rfl)
                  refine lv_if_ne (tgt := 800) hx hb dL_told_793 (by decide) (fun c156 => ?_) (fun c156 => ?_)
                  · refine lv_bipush (v := 97) hx hb dL_told_800 rfl ?_
                    refine lv_iload hx hb dL_told_802 (lv_at hl 19 rfl) ?_
                    refine lv_iadd hx hb dL_told_804 ?_
                    exact J162 _ _ ls (97 + v128) (by rw [if_neg c156] <;> rfl) hP hS (lv_sub hl [0, 1, 2, 3, 4, 5, 6, 7, 8, 9, 10, 11, 12, 13, 14, 15, 16, 17, 18, 19, 20, 21] rfl)
                  · refine lv_iconst (v := (-1)) hx hb dL_told_796 rfl ?_
                    refine lv_goto (tgt := 805) hx hb dL_told_797 (by decide) ?_
                    exact J162 _ _ ls (-1) (by rw [if_pos c156] <;> rfl) hP hS (lv_sub hl [0, 1, 2, 3, 4, 5, 6, 7, 8, 9, 10, 11, 12, 13, 14, 15, 16, 17, 18, 19, 20, 21] rfl)
              refine lv_if_ne (tgt := 772) hx hb dL_told_765 (by decide) (fun c153 => ?_) (fun c153 => ?_)
              · refine lv_iload hx hb dL_told_772 (lv_at hl 19 rfl) ?_
                exact J163 _ _ ls v128 (by rw [if_neg c153] <;> rfl) hP hS (lv_sub hl [0, 1, 2, 3, 4, 5, 6, 7, 8, 9, 10, 11, 12, 13, 14, 15, 16, 17, 18, 19, 20, 21] rfl)
              · refine lv_iconst (v := (-1)) hx hb dL_told_768 rfl ?_
                refine lv_goto (tgt := 774) hx hb dL_told_769 (by decide) ?_
                exact J163 _ _ ls (-1) (by rw [if_pos c153] <;> rfl) hP hS (lv_sub hl [0, 1, 2, 3, 4, 5, 6, 7, 8, 9, 10, 11, 12, 13, 14, 15, 16, 17, 18, 19, 20, 21] rfl)
          refine lv_if_ne (tgt := 744) hx hb dL_told_737 (by decide) (fun c150 => ?_) (fun c150 => ?_)
          · refine lv_iload hx hb dL_told_744 (lv_at hl 1 rfl) ?_
            exact J164 _ _ ls (v129 - 1) (by rw [if_neg c150] <;> rfl) hP hS (lv_sub hl [6, 7, 8, 9, 10, 11, 12, 13, 14, 15, 16, 17, 18, 19, 20, 21, 5, 4, 3, 2, 1, 0] rfl)
          · refine lv_iconst (v := (-1)) hx hb dL_told_740 rfl ?_
            refine lv_goto (tgt := 746) hx hb dL_told_741 (by decide) ?_
            exact J164 _ _ ls (-1) (by rw [if_pos c150] <;> rfl) hP hS (lv_sub hl [6, 7, 8, 9, 10, 11, 12, 13, 14, 15, 16, 17, 18, 19, 20, 21, 5, 4, 3, 2, 1, 0] rfl)
        refine lv_icmp_ge (tgt := 718) hx hb dL_told_694 (by decide) (fun c130 => ?_) (fun c130 => ?_)
        · exact K166 _ _ (by rw [if_pos c130] <;> first | rfl | decide) hP hS
        · refine lv_iload hx hb dL_told_697 (lv_at hl 20 rfl) ?_
          refine lv_bipush (v := 8) hx hb dL_told_699 rfl ?_
          refine lv_icmp_ge (tgt := 718) hx hb dL_told_701 (by decide) (fun c131 => ?_) (fun c131 => ?_)
          · exact K166 _ _ (by rw [if_neg c130, decide_eq_true c131] <;> first | rfl | decide) hP hS
          · exact K165 _ _ (by rw [if_neg c130, decide_eq_false c131] <;> first | rfl | decide) hP hS
      have K168 : ∀ (H : Heap) (locs : List Loc), ¬ (if v2 ≤ x119 then false else (!decide (v2 ≤ 0))) = true → va_P G1.1 vwCl (wld G1 (NC7, NM8, Mo)) H → va_S (hyA G1) s.heap H locs → W p l e { frames := 9, cells := 8, slots := 6 * 8, locals := 196 } s m ([.ref (adr G 0), .int a1, .ref (adr G 30), .ref (adr G 31), .ref (adr G 32), .ref (adr G 33)] : List Value).toArray below meth c H locs 1 30 (vx_MQ below (hyQ G1 (.inr (some (.int (bI res.1))), (res.2.1, res.2.2, Mo))) (hyXQ G1 (.inr (some (.int (bI res.1))), (res.2.1, res.2.2, Mo))) ([.ref (adr G 0), .int a1, .ref (adr G 30), .ref (adr G 31), .ref (adr G 32), .ref (adr G 33)] : List Value).toArray s 8 (6 * 8) (hyA G1)) (F0 m 854 ls []) := by
        intro H locs cb hP hS
        rw [if_neg cb] at h
        exact kk x119 (Option.some.inj h).symm _ _ ls hP hS (lv_sub hl [0, 1, 2, 3, 4, 5, 6, 7, 8, 9, 10, 11, 12, 13, 14, 15] rfl)
      refine lv_icmp_ge (tgt := 854) hx hb dL_told_604 (by decide) (fun c120 => ?_) (fun c120 => ?_)
      · exact K168 _ _ (by rw [if_pos c120] <;> first | rfl | decide) hP hS
      · refine lv_iload hx hb dL_told_607 (lv_at hl 7 rfl) ?_
        refine lv_if_le (tgt := 854) hx hb dL_told_609 (by decide) (fun c121 => ?_) (fun c121 => ?_)
        · exact K168 _ _ (by rw [if_neg c120, decide_eq_true c121] <;> first | rfl | decide) hP hS
        · exact K167 _ _ (by rw [if_neg c120, decide_eq_false c121] <;> first | rfl | decide) hP hS
  obtain ⟨q222, hq222, h⟩ := hy_bind h
  refine L169 hyFu 0 q222 hq222 (fun r9 e9 => by subst e9; exact (Option.some.inj h).symm) _ _ ls hP hS (lv_sub hl [1, 2, 3, 4, 5, 6, 7, 8, 9, 10, 11, 12, 13, 14, 15, 0] rfl) ?_
  intro y119 e9 H locs ls hP hS hl
  subst e9
  try dsimp only at h
  refine lv_aload_n hx hb dL_told_854 rfl (lv_at hl 0 rfl) ?_
  refine lv_iconst (v := 0) hx hb dL_told_855 rfl ?_
  obtain ⟨v170, hv170, h⟩ := hy_bind h
  refine hy_ret (hy_rV0 (T := (NC7, NM8, Mo)) (v := some (.int v170)) (T2 := (NC7, NM8, Mo)) (As := [.int 0]) (rest := []) (n := 0) hx hb hml hown hts hX hP hS hl (c_Hp_count hlt NM8 Mo 0 NC7 (res := .inr v170) (rtb_some hv170)) m_Hp_count q_578 (hy_recv hX hP 0 9 (by decide) rfl rfl) rfl rfl (Nat.le_of_ble_eq_true rfl) dL_told_856 ⟨Nat.le_of_ble_eq_true rfl, Nat.le_of_ble_eq_true rfl⟩ ⟨by decide, by decide⟩) hS (fun H locs hP hS => ?_)
  refine lv_aload_n hx hb dL_told_859 rfl (lv_at hl 2 rfl) ?_
  refine lv_iconst (v := 1) hx hb dL_told_860 rfl ?_
  obtain ⟨v171, hv171, h⟩ := hy_bind h
  obtain ⟨nv171, hv171⟩ := ldE_some hv171
  refine hy_iald (T := (NC7, NM8, Mo)) hx hb hX hP 30 6 (NM8.1 30) (hy34 G1 (by decide)) rfl nv171 dL_told_861 ?_
  rw [hv171]
  refine lv_icmp_ne (tgt := 964) hx hb dL_told_862 (by decide) (fun c172 => ?_) (fun c172 => ?_)
  · rw [if_neg c172] at h
    refine lv_iconst (v := 0) hx hb dL_told_964 rfl ?_
    exact hy_zret (T := (NC7, NM8, Mo)) hx hb hr hlocks hP hS (by decide) (by decide) (bI_nar false) (by rw [← (Option.some.inj h)] <;> rfl) dL_told_965
  · rw [if_pos (c172)] at h
    refine lv_aload_n hx hb dL_told_865 rfl (lv_at hl 0 rfl) ?_
    refine lv_iconst (v := 1) hx hb dL_told_866 rfl ?_
    obtain ⟨v173, hv173, h⟩ := hy_bind h
    refine hy_ret (hy_rV0 (T := (NC7, NM8, Mo)) (v := some (.int v173)) (T2 := (NC7, NM8, Mo)) (As := [.int 1]) (rest := []) (n := 0) hx hb hml hown hts hX hP hS hl (c_Hp_count hlt NM8 Mo 1 NC7 (res := .inr v173) (rtb_some hv173)) m_Hp_count q_578 (hy_recv hX hP 0 9 (by decide) rfl rfl) rfl rfl (Nat.le_of_ble_eq_true rfl) dL_told_867 ⟨Nat.le_of_ble_eq_true rfl, Nat.le_of_ble_eq_true rfl⟩ ⟨by decide, by decide⟩) hS (fun H locs hP hS => ?_)
    refine lv_aload_n hx hb dL_told_870 rfl (lv_at hl 2 rfl) ?_
    refine lv_iconst (v := 0) hx hb dL_told_871 rfl ?_
    obtain ⟨v174, hv174, h⟩ := hy_bind h
    obtain ⟨nv174, hv174⟩ := ldE_some hv174
    refine hy_iald (T := (NC7, NM8, Mo)) hx hb hX hP 30 6 (NM8.1 30) (hy34 G1 (by decide)) rfl nv174 dL_told_872 ?_
    rw [hv174]
    refine lv_icmp_ne (tgt := 964) hx hb dL_told_873 (by decide) (fun c175 => ?_) (fun c175 => ?_)
    · rw [if_neg c175] at h
      refine lv_iconst (v := 0) hx hb dL_told_964 rfl ?_
      exact hy_zret (T := (NC7, NM8, Mo)) hx hb hr hlocks hP hS (by decide) (by decide) (bI_nar false) (by rw [← (Option.some.inj h)] <;> rfl) dL_told_965
    · rw [if_pos (c175)] at h
      refine lv_aload_n hx hb dL_told_876 rfl (lv_at hl 0 rfl) ?_
      refine lv_iconst (v := 2) hx hb dL_told_877 rfl ?_
      obtain ⟨v176, hv176, h⟩ := hy_bind h
      refine hy_ret (hy_rV0 (T := (NC7, NM8, Mo)) (v := some (.int v176)) (T2 := (NC7, NM8, Mo)) (As := [.int 2]) (rest := []) (n := 0) hx hb hml hown hts hX hP hS hl (c_Hp_count hlt NM8 Mo 2 NC7 (res := .inr v176) (rtb_some hv176)) m_Hp_count q_578 (hy_recv hX hP 0 9 (by decide) rfl rfl) rfl rfl (Nat.le_of_ble_eq_true rfl) dL_told_878 ⟨Nat.le_of_ble_eq_true rfl, Nat.le_of_ble_eq_true rfl⟩ ⟨by decide, by decide⟩) hS (fun H locs hP hS => ?_)
      refine lv_iload hx hb dL_told_881 (lv_at hl 8 rfl) ?_
      refine lv_icmp_ne (tgt := 964) hx hb dL_told_883 (by decide) (fun c177 => ?_) (fun c177 => ?_)
      · rw [if_neg c177] at h
        refine lv_iconst (v := 0) hx hb dL_told_964 rfl ?_
        exact hy_zret (T := (NC7, NM8, Mo)) hx hb hr hlocks hP hS (by decide) (by decide) (bI_nar false) (by rw [← (Option.some.inj h)] <;> rfl) dL_told_965
      · rw [if_pos (c177)] at h
        refine lv_aload_n hx hb dL_told_886 rfl (lv_at hl 0 rfl) ?_
        refine lv_iconst (v := 3) hx hb dL_told_887 rfl ?_
        obtain ⟨v178, hv178, h⟩ := hy_bind h
        refine hy_ret (hy_rV0 (T := (NC7, NM8, Mo)) (v := some (.int v178)) (T2 := (NC7, NM8, Mo)) (As := [.int 3]) (rest := []) (n := 0) hx hb hml hown hts hX hP hS hl (c_Hp_count hlt NM8 Mo 3 NC7 (res := .inr v178) (rtb_some hv178)) m_Hp_count q_578 (hy_recv hX hP 0 9 (by decide) rfl rfl) rfl rfl (Nat.le_of_ble_eq_true rfl) dL_told_888 ⟨Nat.le_of_ble_eq_true rfl, Nat.le_of_ble_eq_true rfl⟩ ⟨by decide, by decide⟩) hS (fun H locs hP hS => ?_)
        refine lv_iload hx hb dL_told_891 (lv_at hl 7 rfl) ?_
        refine lv_icmp_ne (tgt := 964) hx hb dL_told_893 (by decide) (fun c179 => ?_) (fun c179 => ?_)
        · rw [if_neg c179] at h
          refine lv_iconst (v := 0) hx hb dL_told_964 rfl ?_
          exact hy_zret (T := (NC7, NM8, Mo)) hx hb hr hlocks hP hS (by decide) (by decide) (bI_nar false) (by rw [← (Option.some.inj h)] <;> rfl) dL_told_965
        · rw [if_pos (c179)] at h
          refine lv_aload_n hx hb dL_told_896 rfl (lv_at hl 0 rfl) ?_
          refine lv_iconst (v := 4) hx hb dL_told_897 rfl ?_
          obtain ⟨v180, hv180, h⟩ := hy_bind h
          refine hy_ret (hy_rV0 (T := (NC7, NM8, Mo)) (v := some (.int v180)) (T2 := (NC7, NM8, Mo)) (As := [.int 4]) (rest := []) (n := 0) hx hb hml hown hts hX hP hS hl (c_Hp_count hlt NM8 Mo 4 NC7 (res := .inr v180) (rtb_some hv180)) m_Hp_count q_578 (hy_recv hX hP 0 9 (by decide) rfl rfl) rfl rfl (Nat.le_of_ble_eq_true rfl) dL_told_898 ⟨Nat.le_of_ble_eq_true rfl, Nat.le_of_ble_eq_true rfl⟩ ⟨by decide, by decide⟩) hS (fun H locs hP hS => ?_)
          refine lv_aload_n hx hb dL_told_901 rfl (lv_at hl 2 rfl) ?_
          refine lv_iconst (v := 5) hx hb dL_told_902 rfl ?_
          obtain ⟨v181, hv181, h⟩ := hy_bind h
          obtain ⟨nv181, hv181⟩ := ldE_some hv181
          refine hy_iald (T := (NC7, NM8, Mo)) hx hb hX hP 30 6 (NM8.1 30) (hy34 G1 (by decide)) rfl nv181 dL_told_903 ?_
          rw [hv181]
          refine lv_icmp_ne (tgt := 964) hx hb dL_told_904 (by decide) (fun c182 => ?_) (fun c182 => ?_)
          · rw [if_neg c182] at h
            refine lv_iconst (v := 0) hx hb dL_told_964 rfl ?_
            exact hy_zret (T := (NC7, NM8, Mo)) hx hb hr hlocks hP hS (by decide) (by decide) (bI_nar false) (by rw [← (Option.some.inj h)] <;> rfl) dL_told_965
          · rw [if_pos (c182)] at h
            refine lv_aload_n hx hb dL_told_907 rfl (lv_at hl 0 rfl) ?_
            refine lv_iconst (v := 5) hx hb dL_told_908 rfl ?_
            obtain ⟨v183, hv183, h⟩ := hy_bind h
            refine hy_ret (hy_rV0 (T := (NC7, NM8, Mo)) (v := some (.int v183)) (T2 := (NC7, NM8, Mo)) (As := [.int 5]) (rest := []) (n := 0) hx hb hml hown hts hX hP hS hl (c_Hp_count hlt NM8 Mo 5 NC7 (res := .inr v183) (rtb_some hv183)) m_Hp_count q_578 (hy_recv hX hP 0 9 (by decide) rfl rfl) rfl rfl (Nat.le_of_ble_eq_true rfl) dL_told_909 ⟨Nat.le_of_ble_eq_true rfl, Nat.le_of_ble_eq_true rfl⟩ ⟨by decide, by decide⟩) hS (fun H locs hP hS => ?_)
            refine lv_aload_n hx hb dL_told_912 rfl (lv_at hl 2 rfl) ?_
            refine lv_iconst (v := 2) hx hb dL_told_913 rfl ?_
            obtain ⟨v184, hv184, h⟩ := hy_bind h
            obtain ⟨nv184, hv184⟩ := ldE_some hv184
            refine hy_iald (T := (NC7, NM8, Mo)) hx hb hX hP 30 6 (NM8.1 30) (hy34 G1 (by decide)) rfl nv184 dL_told_914 ?_
            rw [hv184]
            refine lv_icmp_ne (tgt := 964) hx hb dL_told_915 (by decide) (fun c185 => ?_) (fun c185 => ?_)
            · rw [if_neg c185] at h
              refine lv_iconst (v := 0) hx hb dL_told_964 rfl ?_
              exact hy_zret (T := (NC7, NM8, Mo)) hx hb hr hlocks hP hS (by decide) (by decide) (bI_nar false) (by rw [← (Option.some.inj h)] <;> rfl) dL_told_965
            · rw [if_pos (c185)] at h
              refine lv_aload_n hx hb dL_told_918 rfl (lv_at hl 0 rfl) ?_
              refine lv_bipush (v := 6) hx hb dL_told_919 rfl ?_
              obtain ⟨v186, hv186, h⟩ := hy_bind h
              refine hy_ret (hy_rV0 (T := (NC7, NM8, Mo)) (v := some (.int v186)) (T2 := (NC7, NM8, Mo)) (As := [.int 6]) (rest := []) (n := 0) hx hb hml hown hts hX hP hS hl (c_Hp_count hlt NM8 Mo 6 NC7 (res := .inr v186) (rtb_some hv186)) m_Hp_count q_578 (hy_recv hX hP 0 9 (by decide) rfl rfl) rfl rfl (Nat.le_of_ble_eq_true rfl) dL_told_921 ⟨Nat.le_of_ble_eq_true rfl, Nat.le_of_ble_eq_true rfl⟩ ⟨by decide, by decide⟩) hS (fun H locs hP hS => ?_)
              refine lv_aload_n hx hb dL_told_924 rfl (lv_at hl 2 rfl) ?_
              refine lv_iconst (v := 3) hx hb dL_told_925 rfl ?_
              obtain ⟨v187, hv187, h⟩ := hy_bind h
              obtain ⟨nv187, hv187⟩ := ldE_some hv187
              refine hy_iald (T := (NC7, NM8, Mo)) hx hb hX hP 30 6 (NM8.1 30) (hy34 G1 (by decide)) rfl nv187 dL_told_926 ?_
              rw [hv187]
              refine lv_icmp_ne (tgt := 964) hx hb dL_told_927 (by decide) (fun c188 => ?_) (fun c188 => ?_)
              · rw [if_neg c188] at h
                refine lv_iconst (v := 0) hx hb dL_told_964 rfl ?_
                exact hy_zret (T := (NC7, NM8, Mo)) hx hb hr hlocks hP hS (by decide) (by decide) (bI_nar false) (by rw [← (Option.some.inj h)] <;> rfl) dL_told_965
              · rw [if_pos (c188)] at h
                refine lv_aload_n hx hb dL_told_930 rfl (lv_at hl 0 rfl) ?_
                refine lv_bipush (v := 7) hx hb dL_told_931 rfl ?_
                obtain ⟨v189, hv189, h⟩ := hy_bind h
                refine hy_ret (hy_rV0 (T := (NC7, NM8, Mo)) (v := some (.int v189)) (T2 := (NC7, NM8, Mo)) (As := [.int 7]) (rest := []) (n := 0) hx hb hml hown hts hX hP hS hl (c_Hp_count hlt NM8 Mo 7 NC7 (res := .inr v189) (rtb_some hv189)) m_Hp_count q_578 (hy_recv hX hP 0 9 (by decide) rfl rfl) rfl rfl (Nat.le_of_ble_eq_true rfl) dL_told_933 ⟨Nat.le_of_ble_eq_true rfl, Nat.le_of_ble_eq_true rfl⟩ ⟨by decide, by decide⟩) hS (fun H locs hP hS => ?_)
                refine lv_iload hx hb dL_told_936 (lv_at hl 9 rfl) ?_
                refine lv_icmp_ne (tgt := 964) hx hb dL_told_938 (by decide) (fun c190 => ?_) (fun c190 => ?_)
                · rw [if_neg c190] at h
                  refine lv_iconst (v := 0) hx hb dL_told_964 rfl ?_
                  exact hy_zret (T := (NC7, NM8, Mo)) hx hb hr hlocks hP hS (by decide) (by decide) (bI_nar false) (by rw [← (Option.some.inj h)] <;> rfl) dL_told_965
                · rw [if_pos (c190)] at h
                  refine lv_aload_n hx hb dL_told_941 rfl (lv_at hl 0 rfl) ?_
                  refine lv_bipush (v := 8) hx hb dL_told_942 rfl ?_
                  obtain ⟨v191, hv191, h⟩ := hy_bind h
                  refine hy_ret (hy_rV0 (T := (NC7, NM8, Mo)) (v := some (.int v191)) (T2 := (NC7, NM8, Mo)) (As := [.int 8]) (rest := []) (n := 0) hx hb hml hown hts hX hP hS hl (c_Hp_count hlt NM8 Mo 8 NC7 (res := .inr v191) (rtb_some hv191)) m_Hp_count q_578 (hy_recv hX hP 0 9 (by decide) rfl rfl) rfl rfl (Nat.le_of_ble_eq_true rfl) dL_told_944 ⟨Nat.le_of_ble_eq_true rfl, Nat.le_of_ble_eq_true rfl⟩ ⟨by decide, by decide⟩) hS (fun H locs hP hS => ?_)
                  refine lv_iload hx hb dL_told_947 (lv_at hl 9 rfl) ?_
                  refine lv_aload_n hx hb dL_told_949 rfl (lv_at hl 2 rfl) ?_
                  refine lv_iconst (v := 2) hx hb dL_told_950 rfl ?_
                  obtain ⟨v192, hv192, h⟩ := hy_bind h
                  obtain ⟨nv192, hv192⟩ := ldE_some hv192
                  refine hy_iald (T := (NC7, NM8, Mo)) hx hb hX hP 30 6 (NM8.1 30) (hy34 G1 (by decide)) rfl nv192 dL_told_951 ?_
                  rw [hv192]
                  obtain ⟨v193, hv193, h⟩ := hy_bind h
                  obtain ⟨nv193, hv193⟩ := jrm_some hv193
                  refine lv_irem hx hb dL_told_952 nv193 ?_
                  rw [hv193]
                  have J221 : ∀ (H : Heap) (locs : List Loc) (ls : Array Slot) (u1 : Int32), u1 = (bI (decide (v193 = 0))) → va_P G1.1 vwCl (wld G1 (NC7, NM8, Mo)) H → va_S (hyA G1) s.heap H locs → lv_has ls 22 [(0, .ref (adr G1 0)), (1, .int a1), (2, .ref (adr G1 30)), (3, .ref (adr G1 31)), (4, .ref (adr G1 32)), (5, .ref (adr G1 33)), (6, .ref (adr G1 34)), (7, .int v2), (8, .int v3), (9, .int y4), (10, .int y20), (11, .int y5), (12, .int y21), (13, .int y22), (14, .int y86), (15, .int y119)] → W p l e { frames := 9, cells := 8, slots := 6 * 8, locals := 196 } s m ([.ref (adr G 0), .int a1, .ref (adr G 30), .ref (adr G 31), .ref (adr G 32), .ref (adr G 33)] : List Value).toArray below meth c H locs 1 30 (vx_MQ below (hyQ G1 (.inr (some (.int (bI res.1))), (res.2.1, res.2.2, Mo))) (hyXQ G1 (.inr (some (.int (bI res.1))), (res.2.1, res.2.2, Mo))) ([.ref (adr G 0), .int a1, .ref (adr G 30), .ref (adr G 31), .ref (adr G 32), .ref (adr G 33)] : List Value).toArray s 8 (6 * 8) (hyA G1)) (F0 m 961 ls [.int u1, .int v191]) := by
                    intro H locs ls u1 eu1 hP hS hl
                    subst eu1
                    refine lv_icmp_eq (tgt := 966) hx hb dL_told_961 (by decide) (fun c195 => ?_) (fun c195 => ?_)
                    · rw [if_pos c195] at h
                      refine lv_aload_n hx hb dL_told_966 rfl (lv_at hl 0 rfl) ?_
                      refine lv_bipush (v := 9) hx hb dL_told_967 rfl ?_
                      obtain ⟨v196, hv196, h⟩ := hy_bind h
                      refine hy_ret (hy_rV0 (T := (NC7, NM8, Mo)) (v := some (.int v196)) (T2 := (NC7, NM8, Mo)) (As := [.int 9]) (rest := []) (n := 0) hx hb hml hown hts hX hP hS hl (c_Hp_count hlt NM8 Mo 9 NC7 (res := .inr v196) (rtb_some hv196)) m_Hp_count q_578 (hy_recv hX hP 0 9 (by decide) rfl rfl) rfl rfl (Nat.le_of_ble_eq_true rfl) dL_told_969 ⟨Nat.le_of_ble_eq_true rfl, Nat.le_of_ble_eq_true rfl⟩ ⟨by decide, by decide⟩) hS (fun H locs hP hS => ?_)
                      refine lv_aload_n hx hb dL_told_972 rfl (lv_at hl 2 rfl) ?_
                      refine lv_iconst (v := 4) hx hb dL_told_973 rfl ?_
                      obtain ⟨v197, hv197, h⟩ := hy_bind h
                      obtain ⟨nv197, hv197⟩ := ldE_some hv197
                      refine hy_iald (T := (NC7, NM8, Mo)) hx hb hX hP 30 6 (NM8.1 30) (hy34 G1 (by decide)) rfl nv197 dL_told_974 ?_
                      rw [hv197]
                      refine lv_icmp_ne (tgt := 1061) hx hb dL_told_975 (by decide) (fun c198 => ?_) (fun c198 => ?_)
                      · rw [if_neg c198] at h
                        refine lv_iconst (v := 0) hx hb dL_told_1061 rfl ?_
                        exact hy_zret (T := (NC7, NM8, Mo)) hx hb hr hlocks hP hS (by decide) (by decide) (bI_nar false) (by rw [← (Option.some.inj h)] <;> rfl) dL_told_1062
                      · rw [if_pos (c198)] at h
                        refine lv_aload_n hx hb dL_told_978 rfl (lv_at hl 0 rfl) ?_
                        refine lv_bipush (v := 10) hx hb dL_told_979 rfl ?_
                        obtain ⟨v199, hv199, h⟩ := hy_bind h
                        refine hy_ret (hy_rV0 (T := (NC7, NM8, Mo)) (v := some (.int v199)) (T2 := (NC7, NM8, Mo)) (As := [.int 10]) (rest := []) (n := 0) hx hb hml hown hts hX hP hS hl (c_Hp_count hlt NM8 Mo 10 NC7 (res := .inr v199) (rtb_some hv199)) m_Hp_count q_578 (hy_recv hX hP 0 9 (by decide) rfl rfl) rfl rfl (Nat.le_of_ble_eq_true rfl) dL_told_981 ⟨Nat.le_of_ble_eq_true rfl, Nat.le_of_ble_eq_true rfl⟩ ⟨by decide, by decide⟩) hS (fun H locs hP hS => ?_)
                        refine lv_iload hx hb dL_told_984 (lv_at hl 12 rfl) ?_
                        refine lv_iconst (v := 1) hx hb dL_told_986 rfl ?_
                        refine lv_iadd hx hb dL_told_987 ?_
                        refine lv_icmp_ne (tgt := 1061) hx hb dL_told_988 (by decide) (fun c200 => ?_) (fun c200 => ?_)
                        · rw [if_neg c200] at h
                          refine lv_iconst (v := 0) hx hb dL_told_1061 rfl ?_
                          exact hy_zret (T := (NC7, NM8, Mo)) hx hb hr hlocks hP hS (by decide) (by decide) (bI_nar false) (by rw [← (Option.some.inj h)] <;> rfl) dL_told_1062
                        · rw [if_pos (c200)] at h
                          refine lv_aload_n hx hb dL_told_991 rfl (lv_at hl 0 rfl) ?_
                          refine lv_bipush (v := 12) hx hb dL_told_992 rfl ?_
                          obtain ⟨v201, hv201, h⟩ := hy_bind h
                          refine hy_ret (hy_rV0 (T := (NC7, NM8, Mo)) (v := some (.int v201)) (T2 := (NC7, NM8, Mo)) (As := [.int 12]) (rest := []) (n := 0) hx hb hml hown hts hX hP hS hl (c_Hp_count hlt NM8 Mo 12 NC7 (res := .inr v201) (rtb_some hv201)) m_Hp_count q_578 (hy_recv hX hP 0 9 (by decide) rfl rfl) rfl rfl (Nat.le_of_ble_eq_true rfl) dL_told_994 ⟨Nat.le_of_ble_eq_true rfl, Nat.le_of_ble_eq_true rfl⟩ ⟨by decide, by decide⟩) hS (fun H locs hP hS => ?_)
                          refine lv_iload hx hb dL_told_997 (lv_at hl 14 rfl) ?_
                          refine lv_icmp_ne (tgt := 1061) hx hb dL_told_999 (by decide) (fun c202 => ?_) (fun c202 => ?_)
                          · rw [if_neg c202] at h
                            refine lv_iconst (v := 0) hx hb dL_told_1061 rfl ?_
                            exact hy_zret (T := (NC7, NM8, Mo)) hx hb hr hlocks hP hS (by decide) (by decide) (bI_nar false) (by rw [← (Option.some.inj h)] <;> rfl) dL_told_1062
                          · rw [if_pos (c202)] at h
                            refine lv_aload_n hx hb dL_told_1002 rfl (lv_at hl 0 rfl) ?_
                            refine lv_bipush (v := 13) hx hb dL_told_1003 rfl ?_
                            obtain ⟨v203, hv203, h⟩ := hy_bind h
                            refine hy_ret (hy_rV0 (T := (NC7, NM8, Mo)) (v := some (.int v203)) (T2 := (NC7, NM8, Mo)) (As := [.int 13]) (rest := []) (n := 0) hx hb hml hown hts hX hP hS hl (c_Hp_count hlt NM8 Mo 13 NC7 (res := .inr v203) (rtb_some hv203)) m_Hp_count q_578 (hy_recv hX hP 0 9 (by decide) rfl rfl) rfl rfl (Nat.le_of_ble_eq_true rfl) dL_told_1005 ⟨Nat.le_of_ble_eq_true rfl, Nat.le_of_ble_eq_true rfl⟩ ⟨by decide, by decide⟩) hS (fun H locs hP hS => ?_)
                            refine lv_iload hx hb dL_told_1008 (lv_at hl 11 rfl) ?_
                            refine lv_icmp_ne (tgt := 1061) hx hb dL_told_1010 (by decide) (fun c204 => ?_) (fun c204 => ?_)
                            · rw [if_neg c204] at h
                              refine lv_iconst (v := 0) hx hb dL_told_1061 rfl ?_
                              exact hy_zret (T := (NC7, NM8, Mo)) hx hb hr hlocks hP hS (by decide) (by decide) (bI_nar false) (by rw [← (Option.some.inj h)] <;> rfl) dL_told_1062
                            · rw [if_pos (c204)] at h
                              refine lv_aload_n hx hb dL_told_1013 rfl (lv_at hl 0 rfl) ?_
                              obtain ⟨v205, hv205, h⟩ := hy_bind h
                              refine hy_ret (hy_rV0 (T := (NC7, NM8, Mo)) (v := some (.double v205)) (T2 := (NC7, NM8, Mo)) (As := []) (rest := []) (n := 0) hx hb hml hown hts hX hP hS hl (c_Hp_meanWidth NM8 Mo NC7 hv205) m_Hp_meanWidth q_633 (hy_recv hX hP 0 9 (by decide) rfl rfl) rfl rfl (Nat.le_of_ble_eq_true rfl) dL_told_1014 ⟨Nat.le_of_ble_eq_true rfl, Nat.le_of_ble_eq_true rfl⟩ ⟨by decide, by decide⟩) hS (fun H locs hP hS => ?_)
                              refine lv_iload hx hb dL_told_1017 (lv_at hl 8 rfl) ?_
                              refine lv_if_ne (tgt := 1026) hx hb dL_told_1019 (by decide) (fun c206 => ?_) (fun c206 => ?_)
                              · rw [if_neg c206] at h
                                refine lv_dconst1 hx hb dL_told_1026 ?_
                                refine lv_iload hx hb dL_told_1027 (lv_at hl 10 rfl) ?_
                                refine lv_i2d hx hb dL_told_1029 ?_
                                obtain ⟨d207, hd207, h⟩ := hy_bind h
                                obtain ⟨nd207, hd207⟩ := ckD_some hd207
                                refine lv_dmul hx hb dL_told_1030 nd207 ?_
                                rw [hd207]
                                refine lv_iload hx hb dL_told_1031 (lv_at hl 12 rfl) ?_
                                refine lv_iconst (v := 1) hx hb dL_told_1033 rfl ?_
                                refine lv_iadd hx hb dL_told_1034 ?_
                                refine lv_i2d hx hb dL_told_1035 ?_
                                obtain ⟨d208, hd208, h⟩ := hy_bind h
                                obtain ⟨nd208, hd208⟩ := ckD_some hd208
                                refine lv_ddiv hx hb dL_told_1036 nd208 ?_
                                rw [hd208]
                                refine lv_dcmp hx hb dL_told_1037 ?_
                                refine lv_if_ne (tgt := 1061) hx hb dL_told_1038 (by decide) (fun c209 => ?_) (fun c209 => ?_)
                                · rw [if_neg c209] at h
                                  refine lv_iconst (v := 0) hx hb dL_told_1061 rfl ?_
                                  exact hy_zret (T := (NC7, NM8, Mo)) hx hb hr hlocks hP hS (by decide) (by decide) (bI_nar false) (by rw [← (Option.some.inj h)] <;> rfl) dL_told_1062
                                · rw [if_pos (c209)] at h
                                  refine lv_aload_n hx hb dL_told_1041 rfl (lv_at hl 0 rfl) ?_
                                  refine lv_iload_n hx hb dL_told_1042 rfl (lv_at hl 1 rfl) ?_
                                  refine lv_iconst (v := 3) hx hb dL_told_1043 rfl ?_
                                  refine lv_ishr hx hb dL_told_1044 ?_
                                  refine lv_iload hx hb dL_told_1045 (lv_at hl 7 rfl) ?_
                                  refine lv_aload hx hb dL_told_1047 (lv_at hl 6 rfl) ?_
                                  refine lv_aload_n hx hb dL_told_1049 rfl (lv_at hl 2 rfl) ?_
                                  refine lv_aload_n hx hb dL_told_1050 rfl (lv_at hl 3 rfl) ?_
                                  obtain ⟨⟨v210, C211, M212⟩, hv210, h⟩ := hy_bind h
                                  try dsimp only at h
                                  refine hy_ret (hy_rS0 (T := (NC7, NM8, Mo)) (v := some (.int (bI v210))) (T2 := (C211, M212, Mo)) (As := [.ref (adr G1 0), .int (a1 >>> (3 &&& 31)), .int v2, .ref (adr G1 34), .ref (adr G1 30), .ref (adr G1 31)]) (rest := []) (n := 2) hx hb hml hown hts hX hP hS hl (c_La_metres hlt (by omega) Mo (a1 >>> (3 &&& 31)) v2 NC7 NM8 hv210) m_La_metres q_872 rfl rfl (Nat.le_of_ble_eq_true rfl) dL_told_1051 ⟨Nat.le_of_ble_eq_true rfl, Nat.le_of_ble_eq_true rfl⟩ ⟨by decide, by decide⟩) hS (fun H locs hP hS => ?_)
                                  have J214 : ∀ (H : Heap) (locs : List Loc) (ls : Array Slot) (u1 : Int32), u1 = (bI v210) → va_P G1.1 vwCl (wld G1 (C211, M212, Mo)) H → va_S (hyA G1) s.heap H locs → lv_has ls 22 [(0, .ref (adr G1 0)), (1, .int a1), (2, .ref (adr G1 30)), (3, .ref (adr G1 31)), (4, .ref (adr G1 32)), (5, .ref (adr G1 33)), (6, .ref (adr G1 34)), (7, .int v2), (8, .int v3), (9, .int y4), (10, .int y20), (11, .int y5), (12, .int y21), (13, .int y22), (14, .int y86), (15, .int y119)] → W p l e { frames := 9, cells := 8, slots := 6 * 8, locals := 196 } s m ([.ref (adr G 0), .int a1, .ref (adr G 30), .ref (adr G 31), .ref (adr G 32), .ref (adr G 33)] : List Value).toArray below meth c H locs 3 42 (vx_MQ below (hyQ G1 (.inr (some (.int (bI res.1))), (res.2.1, res.2.2, Mo))) (hyXQ G1 (.inr (some (.int (bI res.1))), (res.2.1, res.2.2, Mo))) ([.ref (adr G 0), .int a1, .ref (adr G 30), .ref (adr G 31), .ref (adr G 32), .ref (adr G 33)] : List Value).toArray s 8 (6 * 8) (hyA G1)) (F0 m 1062 ls [.int u1]) := by
                                    intro H locs ls u1 eu1 hP hS hl
                                    subst eu1
                                    exact hy_zret (T := (C211, M212, Mo)) hx hb hr hlocks hP hS (by decide) (by decide) (bI_nar v210) (by rw [← (Option.some.inj h)] <;> rfl) dL_told_1062
                                  refine lv_if_eq (tgt := 1061) hx hb dL_told_1054 (by decide) (fun c213 => ?_) (fun c213 => ?_)
                                  · refine lv_iconst (v := 0) hx hb dL_told_1061 rfl ?_
                                    exact J214 _ _ ls 0 (by rw [(bI_z c213)] <;> rfl) hP hS (lv_sub hl [0, 1, 2, 3, 4, 5, 6, 7, 8, 9, 10, 11, 12, 13, 14, 15] rfl)
                                  · refine lv_iconst (v := 1) hx hb dL_told_1057 rfl ?_
                                    refine lv_goto (tgt := 1062) hx hb dL_told_1058 (by decide) ?_
                                    exact J214 _ _ ls 1 (by rw [(bI_1 c213)] <;> rfl) hP hS (lv_sub hl [0, 1, 2, 3, 4, 5, 6, 7, 8, 9, 10, 11, 12, 13, 14, 15] rfl)
                              · rw [if_pos (c206)] at h
                                refine lv_dconst0 hx hb dL_told_1022 ?_
                                refine lv_goto (tgt := 1037) hx hb dL_told_1023 (by decide) ?_
                                refine lv_dcmp hx hb dL_told_1037 ?_
                                refine lv_if_ne (tgt := 1061) hx hb dL_told_1038 (by decide) (fun c215 => ?_) (fun c215 => ?_)
                                · rw [if_neg c215] at h
                                  refine lv_iconst (v := 0) hx hb dL_told_1061 rfl ?_
                                  exact hy_zret (T := (NC7, NM8, Mo)) hx hb hr hlocks hP hS (by decide) (by decide) (bI_nar false) (by rw [← (Option.some.inj h)] <;> rfl) dL_told_1062
                                · rw [if_pos (c215)] at h
                                  refine lv_aload_n hx hb dL_told_1041 rfl (lv_at hl 0 rfl) ?_
                                  refine lv_iload_n hx hb dL_told_1042 rfl (lv_at hl 1 rfl) ?_
                                  refine lv_iconst (v := 3) hx hb dL_told_1043 rfl ?_
                                  refine lv_ishr hx hb dL_told_1044 ?_
                                  refine lv_iload hx hb dL_told_1045 (lv_at hl 7 rfl) ?_
                                  refine lv_aload hx hb dL_told_1047 (lv_at hl 6 rfl) ?_
                                  refine lv_aload_n hx hb dL_told_1049 rfl (lv_at hl 2 rfl) ?_
                                  refine lv_aload_n hx hb dL_told_1050 rfl (lv_at hl 3 rfl) ?_
                                  obtain ⟨⟨v216, C217, M218⟩, hv216, h⟩ := hy_bind h
                                  try dsimp only at h
                                  refine hy_ret (hy_rS0 (T := (NC7, NM8, Mo)) (v := some (.int (bI v216))) (T2 := (C217, M218, Mo)) (As := [.ref (adr G1 0), .int (a1 >>> (3 &&& 31)), .int v2, .ref (adr G1 34), .ref (adr G1 30), .ref (adr G1 31)]) (rest := []) (n := 2) hx hb hml hown hts hX hP hS hl (c_La_metres hlt (by omega) Mo (a1 >>> (3 &&& 31)) v2 NC7 NM8 hv216) m_La_metres q_872 rfl rfl (Nat.le_of_ble_eq_true rfl) dL_told_1051 ⟨Nat.le_of_ble_eq_true rfl, Nat.le_of_ble_eq_true rfl⟩ ⟨by decide, by decide⟩) hS (fun H locs hP hS => ?_)
                                  have J220 : ∀ (H : Heap) (locs : List Loc) (ls : Array Slot) (u1 : Int32), u1 = (bI v216) → va_P G1.1 vwCl (wld G1 (C217, M218, Mo)) H → va_S (hyA G1) s.heap H locs → lv_has ls 22 [(0, .ref (adr G1 0)), (1, .int a1), (2, .ref (adr G1 30)), (3, .ref (adr G1 31)), (4, .ref (adr G1 32)), (5, .ref (adr G1 33)), (6, .ref (adr G1 34)), (7, .int v2), (8, .int v3), (9, .int y4), (10, .int y20), (11, .int y5), (12, .int y21), (13, .int y22), (14, .int y86), (15, .int y119)] → W p l e { frames := 9, cells := 8, slots := 6 * 8, locals := 196 } s m ([.ref (adr G 0), .int a1, .ref (adr G 30), .ref (adr G 31), .ref (adr G 32), .ref (adr G 33)] : List Value).toArray below meth c H locs 3 42 (vx_MQ below (hyQ G1 (.inr (some (.int (bI res.1))), (res.2.1, res.2.2, Mo))) (hyXQ G1 (.inr (some (.int (bI res.1))), (res.2.1, res.2.2, Mo))) ([.ref (adr G 0), .int a1, .ref (adr G 30), .ref (adr G 31), .ref (adr G 32), .ref (adr G 33)] : List Value).toArray s 8 (6 * 8) (hyA G1)) (F0 m 1062 ls [.int u1]) := by
                                    intro H locs ls u1 eu1 hP hS hl
                                    subst eu1
                                    exact hy_zret (T := (C217, M218, Mo)) hx hb hr hlocks hP hS (by decide) (by decide) (bI_nar v216) (by rw [← (Option.some.inj h)] <;> rfl) dL_told_1062
                                  refine lv_if_eq (tgt := 1061) hx hb dL_told_1054 (by decide) (fun c219 => ?_) (fun c219 => ?_)
                                  · refine lv_iconst (v := 0) hx hb dL_told_1061 rfl ?_
                                    exact J220 _ _ ls 0 (by rw [(bI_z c219)] <;> rfl) hP hS (lv_sub hl [0, 1, 2, 3, 4, 5, 6, 7, 8, 9, 10, 11, 12, 13, 14, 15] rfl)
                                  · refine lv_iconst (v := 1) hx hb dL_told_1057 rfl ?_
                                    refine lv_goto (tgt := 1062) hx hb dL_told_1058 (by decide) ?_
                                    exact J220 _ _ ls 1 (by rw [(bI_1 c219)] <;> rfl) hP hS (lv_sub hl [0, 1, 2, 3, 4, 5, 6, 7, 8, 9, 10, 11, 12, 13, 14, 15] rfl)
                    · rw [if_neg c195] at h
                      refine lv_iconst (v := 0) hx hb dL_told_964 rfl ?_
                      exact hy_zret (T := (NC7, NM8, Mo)) hx hb hr hlocks hP hS (by decide) (by decide) (bI_nar false) (by rw [← (Option.some.inj h)] <;> rfl) dL_told_965
                  refine lv_if_ne (tgt := 960) hx hb dL_told_953 (by decide) (fun c194 => ?_) (fun c194 => ?_)
                  · refine lv_iconst (v := 0) hx hb dL_told_960 rfl ?_
                    exact J221 _ _ ls 0 (by rw [decide_eq_false c194] <;> rfl) hP hS (lv_sub hl [0, 1, 2, 3, 4, 5, 6, 7, 8, 9, 10, 11, 12, 13, 14, 15] rfl)
                  · refine lv_iconst (v := 1) hx hb dL_told_956 rfl ?_
                    refine lv_goto (tgt := 961) hx hb dL_told_957 (by decide) ?_
                    exact J221 _ _ ls 1 (by rw [decide_eq_true c194] <;> rfl) hP hS (lv_sub hl [0, 1, 2, 3, 4, 5, 6, 7, 8, 9, 10, 11, 12, 13, 14, 15] rfl)
