set_option maxHeartbeats 1000000 in
set_option maxRecDepth 100000 in
theorem c_La_step {l : Launch} {G : hyG} (Mc Mo : hyM) (a1 : Int32) (M : hyM) {res : Int32} (h : La_step a1 M = some res) : hyC l yL_step (.code yL_step cL_step 6 (some .int)) 0 0 (0) G [.int a1, .ref (adr G 30)] (Mc, M, Mo) (.inr (some (.int res)), (Mc, M, Mo)) := by
  refine hy_of (by decide +kernel) (Nat.le_of_ble_eq_true rfl) ?_
  intro p e s m below meth c hx hb hml hown hts hr hlocks ht hX hP hS ls hl
  have hl : lv_has ls 6 [(0, .int a1), (1, .ref (adr G 30))] := hl
  rw [La_step] at h
  refine lv_aload_n hx hb dL_step_0 rfl (lv_at hl 1 rfl) ?_
  refine lv_iconst (v := 0) hx hb dL_step_1 rfl ?_
  obtain ⟨v1, hv1, h⟩ := hy_bind h
  obtain ⟨nv1, hv1⟩ := ldE_some hv1
  refine hy_iald (T := (Mc, M, Mo)) hx hb hX hP 30 6 (M.1 30) (hy34 G (by decide)) rfl nv1 dL_step_2 ?_
  rw [hv1]
  refine lv_if_ne (tgt := 10) hx hb dL_step_3 (by decide) (fun c2 => ?_) (fun c2 => ?_)
  · rw [if_neg c2] at h
    refine lv_aload_n hx hb dL_step_10 rfl (lv_at hl 1 rfl) ?_
    refine lv_iconst (v := 0) hx hb dL_step_11 rfl ?_
    obtain ⟨v3, hv3, h⟩ := hy_bind h
    obtain ⟨nv3, hv3⟩ := ldE_some hv3
    refine hy_iald (T := (Mc, M, Mo)) hx hb hX hP 30 6 (M.1 30) (hy34 G (by decide)) rfl nv3 dL_step_12 ?_
    rw [hv3]
    refine lv_iconst (v := 3) hx hb dL_step_13 rfl ?_
    refine lv_icmp_ge (tgt := 21) hx hb dL_step_14 (by decide) (fun c4 => ?_) (fun c4 => ?_)
    · rw [if_pos c4] at h
      refine lv_aload_n hx hb dL_step_21 rfl (lv_at hl 1 rfl) ?_
      refine lv_iconst (v := 0) hx hb dL_step_22 rfl ?_
      obtain ⟨v5, hv5, h⟩ := hy_bind h
      obtain ⟨nv5, hv5⟩ := ldE_some hv5
      refine hy_iald (T := (Mc, M, Mo)) hx hb hX hP 30 6 (M.1 30) (hy34 G (by decide)) rfl nv5 dL_step_23 ?_
      rw [hv5]
      refine lv_iconst (v := 5) hx hb dL_step_24 rfl ?_
      refine lv_icmp_ge (tgt := 32) hx hb dL_step_25 (by decide) (fun c6 => ?_) (fun c6 => ?_)
      · rw [if_pos c6] at h
        refine lv_aload_n hx hb dL_step_32 rfl (lv_at hl 1 rfl) ?_
        refine lv_iconst (v := 0) hx hb dL_step_33 rfl ?_
        obtain ⟨v7, hv7, h⟩ := hy_bind h
        obtain ⟨nv7, hv7⟩ := ldE_some hv7
        refine hy_iald (T := (Mc, M, Mo)) hx hb hX hP 30 6 (M.1 30) (hy34 G (by decide)) rfl nv7 dL_step_34 ?_
        rw [hv7]
        refine lv_iconst (v := 5) hx hb dL_step_35 rfl ?_
        refine lv_icmp_ne (tgt := 43) hx hb dL_step_36 (by decide) (fun c8 => ?_) (fun c8 => ?_)
        · rw [if_neg c8] at h
          refine lv_aload_n hx hb dL_step_43 rfl (lv_at hl 1 rfl) ?_
          refine lv_iconst (v := 0) hx hb dL_step_44 rfl ?_
          obtain ⟨v9, hv9, h⟩ := hy_bind h
          obtain ⟨nv9, hv9⟩ := ldE_some hv9
          refine hy_iald (T := (Mc, M, Mo)) hx hb hX hP 30 6 (M.1 30) (hy34 G (by decide)) rfl nv9 dL_step_45 ?_
          rw [hv9]
          refine lv_bipush (v := 8) hx hb dL_step_46 rfl ?_
          refine lv_icmp_ge (tgt := 55) hx hb dL_step_48 (by decide) (fun c10 => ?_) (fun c10 => ?_)
          · rw [if_pos c10] at h
            refine lv_aload_n hx hb dL_step_55 rfl (lv_at hl 1 rfl) ?_
            refine lv_iconst (v := 0) hx hb dL_step_56 rfl ?_
            obtain ⟨v11, hv11, h⟩ := hy_bind h
            obtain ⟨nv11, hv11⟩ := ldE_some hv11
            refine hy_iald (T := (Mc, M, Mo)) hx hb hX hP 30 6 (M.1 30) (hy34 G (by decide)) rfl nv11 dL_step_57 ?_
            rw [hv11]
            refine lv_bipush (v := 10) hx hb dL_step_58 rfl ?_
            have J23 : ∀ (H : Heap) (locs : List Loc) (ls : Array Slot) (u1 : Int32), u1 = ((if 10 ≤ v11 then 6 else 5) : Int32) → va_P G.1 vwCl (wld G (Mc, M, Mo)) H → va_S (hyA G) s.heap H locs → lv_has ls 6 [(0, .int a1), (1, .ref (adr G 30))] → W p l e { frames := 0, cells := 0, slots := 6 * 0, locals := 0 } s m ([.int a1, .ref (adr G 30)] : List Value).toArray below meth c H locs 0 0 (vx_MQ below (hyQ G (.inr (some (.int res)), (Mc, M, Mo))) (hyXQ G (.inr (some (.int res)), (Mc, M, Mo))) ([.int a1, .ref (adr G 30)] : List Value).toArray s 0 (6 * 0) (hyA G)) (F0 m 69 ls [.int u1]) := by
              intro H locs ls u1 eu1 hP hS hl
              subst eu1
              refine lv_istore_n (lv' := [(2, .int ((if 10 ≤ v11 then 6 else 5) : Int32)), (0, .int a1), (1, .ref (adr G 30))]) hx hb dL_step_69 rfl hl (by decide) rfl (fun ls hl => ?_)
              refine lv_iload_n hx hb dL_step_70 rfl (lv_at hl 0 rfl) ?_
              refine lv_istore_n (lv' := [(3, .int ((if 10 ≤ v11 then 6 else 5) : Int32)), (2, .int ((if 10 ≤ v11 then 6 else 5) : Int32)), (0, .int a1), (1, .ref (adr G 30))]) hx hb dL_step_71 rfl hl (by decide) rfl (fun ls hl => ?_)
              refine lv_aload_n hx hb dL_step_72 rfl (lv_at hl 3 rfl) ?_
              refine lv_iconst (v := 0) hx hb dL_step_73 rfl ?_
              obtain ⟨v13, hv13, h⟩ := hy_bind h
              obtain ⟨nv13, hv13⟩ := ldE_some hv13
              refine hy_iald (T := (Mc, M, Mo)) hx hb hX hP 30 6 (M.1 30) (hy34 G (by decide)) rfl nv13 dL_step_74 ?_
              rw [hv13]
              refine lv_istore (lv' := [(4, .int v13), (3, .int ((if 10 ≤ v11 then 6 else 5) : Int32)), (2, .int ((if 10 ≤ v11 then 6 else 5) : Int32)), (0, .int a1), (1, .ref (adr G 30))]) hx hb dL_step_75 hl (by decide) rfl (fun ls hl => ?_)
              refine lv_iconst (v := 0) hx hb dL_step_77 rfl ?_
              refine lv_istore (lv' := [(5, .int 0), (4, .int v13), (3, .int ((if 10 ≤ v11 then 6 else 5) : Int32)), (2, .int ((if 10 ≤ v11 then 6 else 5) : Int32)), (0, .int a1), (1, .ref (adr G 30))]) hx hb dL_step_78 hl (by decide) rfl (fun ls hl => ?_)
              have L21 : ∀ (f : Nat) (x14 : Int32) (x15 : Int32) (x16 : Int32) (qL : (Int32 × Int32 × Int32)) (h : La_step_L80 a1 f x14 x15 x16 = some qL) (H : Heap) (locs : List Loc) (ls : Array Slot) (hP : va_P G.1 vwCl (wld G (Mc, M, Mo)) H) (hS : va_S (hyA G) s.heap H locs) (hl : lv_has ls 6 [(0, .int a1), (1, .ref (adr G 30)), (2, .int ((if 10 ≤ v11 then 6 else 5) : Int32)), (3, .int x14), (4, .int x15), (5, .int x16)]) (kk : ∀ (y14 : Int32) (y15 : Int32) (y16 : Int32), qL = (y14, y15, y16) → ∀ (H : Heap) (locs : List Loc) (ls : Array Slot), va_P G.1 vwCl (wld G (Mc, M, Mo)) H → va_S (hyA G) s.heap H locs → lv_has ls 6 [(0, .int a1), (1, .ref (adr G 30)), (2, .int ((if 10 ≤ v11 then 6 else 5) : Int32)), (3, .int y14), (4, .int y15), (5, .int y16)] → W p l e { frames := 0, cells := 0, slots := 6 * 0, locals := 0 } s m ([.int a1, .ref (adr G 30)] : List Value).toArray below meth c H locs 0 0 (vx_MQ below (hyQ G (.inr (some (.int res)), (Mc, M, Mo))) (hyXQ G (.inr (some (.int res)), (Mc, M, Mo))) ([.int a1, .ref (adr G 30)] : List Value).toArray s 0 (6 * 0) (hyA G)) (F0 m 124 ls [])), W p l e { frames := 0, cells := 0, slots := 6 * 0, locals := 0 } s m ([.int a1, .ref (adr G 30)] : List Value).toArray below meth c H locs 0 0 (vx_MQ below (hyQ G (.inr (some (.int res)), (Mc, M, Mo))) (hyXQ G (.inr (some (.int res)), (Mc, M, Mo))) ([.int a1, .ref (adr G 30)] : List Value).toArray s 0 (6 * 0) (hyA G)) (F0 m 80 ls []) := by
                intro f
                induction f with
                | zero =>
                  intro x14 x15 x16 qL h H locs ls hP hS hl kk
                  rw [La_step_L80] at h
                  cases h
                | succ f ih =>
                  intro x14 x15 x16 qL h H locs ls hP hS hl kk
                  rw [La_step_L80] at h
                  refine lv_iload hx hb dL_step_80 (lv_at hl 4 rfl) ?_
                  refine lv_iload_n hx hb dL_step_82 rfl (lv_at hl 0 rfl) ?_
                  refine lv_icmp_ge (tgt := 124) hx hb dL_step_83 (by decide) (fun c17 => ?_) (fun c17 => ?_)
                  · rw [if_pos c17] at h
                    exact kk x14 x15 x16 (Option.some.inj h).symm _ _ ls hP hS (lv_sub hl [0, 1, 2, 3, 4, 5] rfl)
                  · rw [if_neg c17] at h
                    refine lv_iload hx hb dL_step_86 (lv_at hl 4 rfl) ?_
                    refine lv_iload hx hb dL_step_88 (lv_at hl 5 rfl) ?_
                    refine lv_iconst (v := 2) hx hb dL_step_90 rfl ?_
                    have J20 : ∀ (H : Heap) (locs : List Loc) (ls : Array Slot) (u1 : Int32), u1 = ((if x16 = 2 then 1 else (if x16 = 6 then 1 else 2)) : Int32) → va_P G.1 vwCl (wld G (Mc, M, Mo)) H → va_S (hyA G) s.heap H locs → lv_has ls 6 [(0, .int a1), (1, .ref (adr G 30)), (2, .int ((if 10 ≤ v11 then 6 else 5) : Int32)), (3, .int x14), (4, .int x15), (5, .int x16)] → W p l e { frames := 0, cells := 0, slots := 6 * 0, locals := 0 } s m ([.int a1, .ref (adr G 30)] : List Value).toArray below meth c H locs 0 0 (vx_MQ below (hyQ G (.inr (some (.int res)), (Mc, M, Mo))) (hyXQ G (.inr (some (.int res)), (Mc, M, Mo))) ([.int a1, .ref (adr G 30)] : List Value).toArray s 0 (6 * 0) (hyA G)) (F0 m 106 ls [.int u1, .int x15]) := by
                      intro H locs ls u1 eu1 hP hS hl
                      subst eu1
                      refine lv_iadd hx hb dL_step_106 ?_
                      refine lv_istore (lv' := [(4, .int (x15 + ((if x16 = 2 then 1 else (if x16 = 6 then 1 else 2)) : Int32))), (0, .int a1), (1, .ref (adr G 30)), (2, .int ((if 10 ≤ v11 then 6 else 5) : Int32)), (3, .int x14), (5, .int x16)]) hx hb dL_step_107 hl (by decide) rfl (fun ls hl => ?_)
                      refine lv_iload hx hb dL_step_109 (lv_at hl 5 rfl) ?_
                      refine lv_iconst (v := 1) hx hb dL_step_111 rfl ?_
                      refine lv_iadd hx hb dL_step_112 ?_
                      refine lv_bipush (v := 7) hx hb dL_step_113 rfl ?_
                      refine lv_irem hx hb dL_step_115 (by decide) ?_
                      refine lv_istore (lv' := [(5, .int ((x16 + 1) - (x16 + 1) / 7 * 7)), (4, .int (x15 + ((if x16 = 2 then 1 else (if x16 = 6 then 1 else 2)) : Int32))), (0, .int a1), (1, .ref (adr G 30)), (2, .int ((if 10 ≤ v11 then 6 else 5) : Int32)), (3, .int x14)]) hx hb dL_step_116 hl (by decide) rfl (fun ls hl => ?_)
                      refine lv_iinc (v := (x14 + 1)) (lv' := [(3, .int (x14 + 1)), (5, .int ((x16 + 1) - (x16 + 1) / 7 * 7)), (4, .int (x15 + ((if x16 = 2 then 1 else (if x16 = 6 then 1 else 2)) : Int32))), (0, .int a1), (1, .ref (adr G 30)), (2, .int ((if 10 ≤ v11 then 6 else 5) : Int32))]) hx hb dL_step_118 hl (k := 5) rfl rfl (by decide) rfl (fun ls hl => ?_)
                      refine lv_goto (tgt := 80) hx hb dL_step_121 (by decide) ?_
                      exact ih (x14 + 1) (x15 + ((if x16 = 2 then 1 else (if x16 = 6 then 1 else 2)) : Int32)) ((x16 + 1) - (x16 + 1) / 7 * 7) _ h  _ _ ls hP hS (lv_sub hl [3, 4, 5, 0, 2, 1] rfl) kk
                    refine lv_icmp_eq (tgt := 101) hx hb dL_step_91 (by decide) (fun c18 => ?_) (fun c18 => ?_)
                    · refine lv_iconst (v := 1) hx hb dL_step_101 rfl ?_
                      refine lv_goto (tgt := 106) hx hb dL_step_102 (by decide) ?_
                      exact J20 _ _ ls 1 (by rw [if_pos c18] <;> rfl) hP hS (lv_sub hl [0, 1, 2, 3, 4, 5] rfl)
                    · refine lv_iload hx hb dL_step_94 (lv_at hl 5 rfl) ?_
                      refine lv_bipush (v := 6) hx hb dL_step_96 rfl ?_
                      refine lv_icmp_ne (tgt := 105) hx hb dL_step_98 (by decide) (fun c19 => ?_) (fun c19 => ?_)
                      · refine lv_iconst (v := 2) hx hb dL_step_105 rfl ?_
                        exact J20 _ _ ls 2 (by rw [if_neg c18, if_neg c19] <;> rfl) hP hS (lv_sub hl [0, 1, 2, 3, 4, 5] rfl)
                      · refine lv_iconst (v := 1) hx hb dL_step_101 rfl ?_
                        refine lv_goto (tgt := 106) hx hb dL_step_102 (by decide) ?_
                        exact J20 _ _ ls 1 (by rw [if_neg c18, if_pos c19] <;> rfl) hP hS (lv_sub hl [0, 1, 2, 3, 4, 5] rfl)
              obtain ⟨q22, hq22, h⟩ := hy_bind h
              refine L21 hyFu ((if 10 ≤ v11 then 6 else 5) : Int32) v13 0 q22 hq22 _ _ ls hP hS (lv_sub hl [4, 5, 3, 2, 1, 0] rfl) ?_
              intro y14 y15 y16 e9 H locs ls hP hS hl
              subst e9
              try dsimp only at h
              refine lv_iload_n hx hb dL_step_124 rfl (lv_at hl 3 rfl) ?_
              exact hy_iret (T := (Mc, M, Mo)) hx hb hr hlocks hP hS (Nat.zero_le _) (Nat.zero_le _) (by rw [← (Option.some.inj h)] <;> rfl) dL_step_125
            refine lv_icmp_ge (tgt := 67) hx hb dL_step_60 (by decide) (fun c12 => ?_) (fun c12 => ?_)
            · refine lv_bipush (v := 6) hx hb dL_step_67 rfl ?_
              exact J23 _ _ ls 6 (by rw [if_pos c12] <;> rfl) hP hS (lv_sub hl [0, 1] rfl)
            · refine lv_iconst (v := 5) hx hb dL_step_63 rfl ?_
              refine lv_goto (tgt := 69) hx hb dL_step_64 (by decide) ?_
              exact J23 _ _ ls 5 (by rw [if_neg c12] <;> rfl) hP hS (lv_sub hl [0, 1] rfl)
          · rw [if_neg c10] at h
            refine lv_iconst (v := 4) hx hb dL_step_51 rfl ?_
            refine lv_goto (tgt := 69) hx hb dL_step_52 (by decide) ?_
            refine lv_istore_n (lv' := [(2, .int 4), (0, .int a1), (1, .ref (adr G 30))]) hx hb dL_step_69 rfl hl (by decide) rfl (fun ls hl => ?_)
            refine lv_iload_n hx hb dL_step_70 rfl (lv_at hl 0 rfl) ?_
            refine lv_istore_n (lv' := [(3, .int 4), (2, .int 4), (0, .int a1), (1, .ref (adr G 30))]) hx hb dL_step_71 rfl hl (by decide) rfl (fun ls hl => ?_)
            refine lv_aload_n hx hb dL_step_72 rfl (lv_at hl 3 rfl) ?_
            refine lv_iconst (v := 0) hx hb dL_step_73 rfl ?_
            obtain ⟨v24, hv24, h⟩ := hy_bind h
            obtain ⟨nv24, hv24⟩ := ldE_some hv24
            refine hy_iald (T := (Mc, M, Mo)) hx hb hX hP 30 6 (M.1 30) (hy34 G (by decide)) rfl nv24 dL_step_74 ?_
            rw [hv24]
            refine lv_istore (lv' := [(4, .int v24), (3, .int 4), (2, .int 4), (0, .int a1), (1, .ref (adr G 30))]) hx hb dL_step_75 hl (by decide) rfl (fun ls hl => ?_)
            refine lv_iconst (v := 0) hx hb dL_step_77 rfl ?_
            refine lv_istore (lv' := [(5, .int 0), (4, .int v24), (3, .int 4), (2, .int 4), (0, .int a1), (1, .ref (adr G 30))]) hx hb dL_step_78 hl (by decide) rfl (fun ls hl => ?_)
            have L32 : ∀ (f : Nat) (x25 : Int32) (x26 : Int32) (x27 : Int32) (qL : (Int32 × Int32 × Int32)) (h : La_step_L80b a1 f x25 x26 x27 = some qL) (H : Heap) (locs : List Loc) (ls : Array Slot) (hP : va_P G.1 vwCl (wld G (Mc, M, Mo)) H) (hS : va_S (hyA G) s.heap H locs) (hl : lv_has ls 6 [(0, .int a1), (1, .ref (adr G 30)), (2, .int 4), (3, .int x25), (4, .int x26), (5, .int x27)]) (kk : ∀ (y25 : Int32) (y26 : Int32) (y27 : Int32), qL = (y25, y26, y27) → ∀ (H : Heap) (locs : List Loc) (ls : Array Slot), va_P G.1 vwCl (wld G (Mc, M, Mo)) H → va_S (hyA G) s.heap H locs → lv_has ls 6 [(0, .int a1), (1, .ref (adr G 30)), (2, .int 4), (3, .int y25), (4, .int y26), (5, .int y27)] → W p l e { frames := 0, cells := 0, slots := 6 * 0, locals := 0 } s m ([.int a1, .ref (adr G 30)] : List Value).toArray below meth c H locs 0 0 (vx_MQ below (hyQ G (.inr (some (.int res)), (Mc, M, Mo))) (hyXQ G (.inr (some (.int res)), (Mc, M, Mo))) ([.int a1, .ref (adr G 30)] : List Value).toArray s 0 (6 * 0) (hyA G)) (F0 m 124 ls [])), W p l e { frames := 0, cells := 0, slots := 6 * 0, locals := 0 } s m ([.int a1, .ref (adr G 30)] : List Value).toArray below meth c H locs 0 0 (vx_MQ below (hyQ G (.inr (some (.int res)), (Mc, M, Mo))) (hyXQ G (.inr (some (.int res)), (Mc, M, Mo))) ([.int a1, .ref (adr G 30)] : List Value).toArray s 0 (6 * 0) (hyA G)) (F0 m 80 ls []) := by
              intro f
              induction f with
              | zero =>
                intro x25 x26 x27 qL h H locs ls hP hS hl kk
                rw [La_step_L80b] at h
                cases h
              | succ f ih =>
                intro x25 x26 x27 qL h H locs ls hP hS hl kk
                rw [La_step_L80b] at h
                refine lv_iload hx hb dL_step_80 (lv_at hl 4 rfl) ?_
                refine lv_iload_n hx hb dL_step_82 rfl (lv_at hl 0 rfl) ?_
                refine lv_icmp_ge (tgt := 124) hx hb dL_step_83 (by decide) (fun c28 => ?_) (fun c28 => ?_)
                · rw [if_pos c28] at h
                  exact kk x25 x26 x27 (Option.some.inj h).symm _ _ ls hP hS (lv_sub hl [0, 1, 2, 3, 4, 5] rfl)
                · rw [if_neg c28] at h
                  refine lv_iload hx hb dL_step_86 (lv_at hl 4 rfl) ?_
                  refine lv_iload hx hb dL_step_88 (lv_at hl 5 rfl) ?_
                  refine lv_iconst (v := 2) hx hb dL_step_90 rfl ?_
                  have J31 : ∀ (H : Heap) (locs : List Loc) (ls : Array Slot) (u1 : Int32), u1 = ((if x27 = 2 then 1 else (if x27 = 6 then 1 else 2)) : Int32) → va_P G.1 vwCl (wld G (Mc, M, Mo)) H → va_S (hyA G) s.heap H locs → lv_has ls 6 [(0, .int a1), (1, .ref (adr G 30)), (2, .int 4), (3, .int x25), (4, .int x26), (5, .int x27)] → W p l e { frames := 0, cells := 0, slots := 6 * 0, locals := 0 } s m ([.int a1, .ref (adr G 30)] : List Value).toArray below meth c H locs 0 0 (vx_MQ below (hyQ G (.inr (some (.int res)), (Mc, M, Mo))) (hyXQ G (.inr (some (.int res)), (Mc, M, Mo))) ([.int a1, .ref (adr G 30)] : List Value).toArray s 0 (6 * 0) (hyA G)) (F0 m 106 ls [.int u1, .int x26]) := by
                    intro H locs ls u1 eu1 hP hS hl
                    subst eu1
                    refine lv_iadd hx hb dL_step_106 ?_
                    refine lv_istore (lv' := [(4, .int (x26 + ((if x27 = 2 then 1 else (if x27 = 6 then 1 else 2)) : Int32))), (0, .int a1), (1, .ref (adr G 30)), (2, .int 4), (3, .int x25), (5, .int x27)]) hx hb dL_step_107 hl (by decide) rfl (fun ls hl => ?_)
                    refine lv_iload hx hb dL_step_109 (lv_at hl 5 rfl) ?_
                    refine lv_iconst (v := 1) hx hb dL_step_111 rfl ?_
                    refine lv_iadd hx hb dL_step_112 ?_
                    refine lv_bipush (v := 7) hx hb dL_step_113 rfl ?_
                    refine lv_irem hx hb dL_step_115 (by decide) ?_
                    refine lv_istore (lv' := [(5, .int ((x27 + 1) - (x27 + 1) / 7 * 7)), (4, .int (x26 + ((if x27 = 2 then 1 else (if x27 = 6 then 1 else 2)) : Int32))), (0, .int a1), (1, .ref (adr G 30)), (2, .int 4), (3, .int x25)]) hx hb dL_step_116 hl (by decide) rfl (fun ls hl => ?_)
                    refine lv_iinc (v := (x25 + 1)) (lv' := [(3, .int (x25 + 1)), (5, .int ((x27 + 1) - (x27 + 1) / 7 * 7)), (4, .int (x26 + ((if x27 = 2 then 1 else (if x27 = 6 then 1 else 2)) : Int32))), (0, .int a1), (1, .ref (adr G 30)), (2, .int 4)]) hx hb dL_step_118 hl (k := 5) rfl rfl (by decide) rfl (fun ls hl => ?_)
                    refine lv_goto (tgt := 80) hx hb dL_step_121 (by decide) ?_
                    exact ih (x25 + 1) (x26 + ((if x27 = 2 then 1 else (if x27 = 6 then 1 else 2)) : Int32)) ((x27 + 1) - (x27 + 1) / 7 * 7) _ h  _ _ ls hP hS (lv_sub hl [3, 4, 5, 0, 2, 1] rfl) kk
                  refine lv_icmp_eq (tgt := 101) hx hb dL_step_91 (by decide) (fun c29 => ?_) (fun c29 => ?_)
                  · refine lv_iconst (v := 1) hx hb dL_step_101 rfl ?_
                    refine lv_goto (tgt := 106) hx hb dL_step_102 (by decide) ?_
                    exact J31 _ _ ls 1 (by rw [if_pos c29] <;> rfl) hP hS (lv_sub hl [0, 1, 2, 3, 4, 5] rfl)
                  · refine lv_iload hx hb dL_step_94 (lv_at hl 5 rfl) ?_
                    refine lv_bipush (v := 6) hx hb dL_step_96 rfl ?_
                    refine lv_icmp_ne (tgt := 105) hx hb dL_step_98 (by decide) (fun c30 => ?_) (fun c30 => ?_)
                    · refine lv_iconst (v := 2) hx hb dL_step_105 rfl ?_
                      exact J31 _ _ ls 2 (by rw [if_neg c29, if_neg c30] <;> rfl) hP hS (lv_sub hl [0, 1, 2, 3, 4, 5] rfl)
                    · refine lv_iconst (v := 1) hx hb dL_step_101 rfl ?_
                      refine lv_goto (tgt := 106) hx hb dL_step_102 (by decide) ?_
                      exact J31 _ _ ls 1 (by rw [if_neg c29, if_pos c30] <;> rfl) hP hS (lv_sub hl [0, 1, 2, 3, 4, 5] rfl)
            obtain ⟨q33, hq33, h⟩ := hy_bind h
            refine L32 hyFu 4 v24 0 q33 hq33 _ _ ls hP hS (lv_sub hl [4, 5, 3, 2, 1, 0] rfl) ?_
            intro y25 y26 y27 e9 H locs ls hP hS hl
            subst e9
            try dsimp only at h
            refine lv_iload_n hx hb dL_step_124 rfl (lv_at hl 3 rfl) ?_
            exact hy_iret (T := (Mc, M, Mo)) hx hb hr hlocks hP hS (Nat.zero_le _) (Nat.zero_le _) (by rw [← (Option.some.inj h)] <;> rfl) dL_step_125
        · rw [if_pos (c8)] at h
          refine lv_iconst (v := 3) hx hb dL_step_39 rfl ?_
          refine lv_goto (tgt := 69) hx hb dL_step_40 (by decide) ?_
          refine lv_istore_n (lv' := [(2, .int 3), (0, .int a1), (1, .ref (adr G 30))]) hx hb dL_step_69 rfl hl (by decide) rfl (fun ls hl => ?_)
          refine lv_iload_n hx hb dL_step_70 rfl (lv_at hl 0 rfl) ?_
          refine lv_istore_n (lv' := [(3, .int 3), (2, .int 3), (0, .int a1), (1, .ref (adr G 30))]) hx hb dL_step_71 rfl hl (by decide) rfl (fun ls hl => ?_)
          refine lv_aload_n hx hb dL_step_72 rfl (lv_at hl 3 rfl) ?_
          refine lv_iconst (v := 0) hx hb dL_step_73 rfl ?_
          obtain ⟨v34, hv34, h⟩ := hy_bind h
          obtain ⟨nv34, hv34⟩ := ldE_some hv34
          refine hy_iald (T := (Mc, M, Mo)) hx hb hX hP 30 6 (M.1 30) (hy34 G (by decide)) rfl nv34 dL_step_74 ?_
          rw [hv34]
          refine lv_istore (lv' := [(4, .int v34), (3, .int 3), (2, .int 3), (0, .int a1), (1, .ref (adr G 30))]) hx hb dL_step_75 hl (by decide) rfl (fun ls hl => ?_)
          refine lv_iconst (v := 0) hx hb dL_step_77 rfl ?_
          refine lv_istore (lv' := [(5, .int 0), (4, .int v34), (3, .int 3), (2, .int 3), (0, .int a1), (1, .ref (adr G 30))]) hx hb dL_step_78 hl (by decide) rfl (fun ls hl => ?_)
          have L42 : ∀ (f : Nat) (x35 : Int32) (x36 : Int32) (x37 : Int32) (qL : (Int32 × Int32 × Int32)) (h : La_step_L80bb a1 f x35 x36 x37 = some qL) (H : Heap) (locs : List Loc) (ls : Array Slot) (hP : va_P G.1 vwCl (wld G (Mc, M, Mo)) H) (hS : va_S (hyA G) s.heap H locs) (hl : lv_has ls 6 [(0, .int a1), (1, .ref (adr G 30)), (2, .int 3), (3, .int x35), (4, .int x36), (5, .int x37)]) (kk : ∀ (y35 : Int32) (y36 : Int32) (y37 : Int32), qL = (y35, y36, y37) → ∀ (H : Heap) (locs : List Loc) (ls : Array Slot), va_P G.1 vwCl (wld G (Mc, M, Mo)) H → va_S (hyA G) s.heap H locs → lv_has ls 6 [(0, .int a1), (1, .ref (adr G 30)), (2, .int 3), (3, .int y35), (4, .int y36), (5, .int y37)] → W p l e { frames := 0, cells := 0, slots := 6 * 0, locals := 0 } s m ([.int a1, .ref (adr G 30)] : List Value).toArray below meth c H locs 0 0 (vx_MQ below (hyQ G (.inr (some (.int res)), (Mc, M, Mo))) (hyXQ G (.inr (some (.int res)), (Mc, M, Mo))) ([.int a1, .ref (adr G 30)] : List Value).toArray s 0 (6 * 0) (hyA G)) (F0 m 124 ls [])), W p l e { frames := 0, cells := 0, slots := 6 * 0, locals := 0 } s m ([.int a1, .ref (adr G 30)] : List Value).toArray below meth c H locs 0 0 (vx_MQ below (hyQ G (.inr (some (.int res)), (Mc, M, Mo))) (hyXQ G (.inr (some (.int res)), (Mc, M, Mo))) ([.int a1, .ref (adr G 30)] : List Value).toArray s 0 (6 * 0) (hyA G)) (F0 m 80 ls []) := by
            intro f
            induction f with
            | zero =>
              intro x35 x36 x37 qL h H locs ls hP hS hl kk
              rw [La_step_L80bb] at h
              cases h
            | succ f ih =>
              intro x35 x36 x37 qL h H locs ls hP hS hl kk
              rw [La_step_L80bb] at h
              refine lv_iload hx hb dL_step_80 (lv_at hl 4 rfl) ?_
              refine lv_iload_n hx hb dL_step_82 rfl (lv_at hl 0 rfl) ?_
              refine lv_icmp_ge (tgt := 124) hx hb dL_step_83 (by decide) (fun c38 => ?_) (fun c38 => ?_)
              · rw [if_pos c38] at h
                exact kk x35 x36 x37 (Option.some.inj h).symm _ _ ls hP hS (lv_sub hl [0, 1, 2, 3, 4, 5] rfl)
              · rw [if_neg c38] at h
                refine lv_iload hx hb dL_step_86 (lv_at hl 4 rfl) ?_
                refine lv_iload hx hb dL_step_88 (lv_at hl 5 rfl) ?_
                refine lv_iconst (v := 2) hx hb dL_step_90 rfl ?_
                have J41 : ∀ (H : Heap) (locs : List Loc) (ls : Array Slot) (u1 : Int32), u1 = ((if x37 = 2 then 1 else (if x37 = 6 then 1 else 2)) : Int32) → va_P G.1 vwCl (wld G (Mc, M, Mo)) H → va_S (hyA G) s.heap H locs → lv_has ls 6 [(0, .int a1), (1, .ref (adr G 30)), (2, .int 3), (3, .int x35), (4, .int x36), (5, .int x37)] → W p l e { frames := 0, cells := 0, slots := 6 * 0, locals := 0 } s m ([.int a1, .ref (adr G 30)] : List Value).toArray below meth c H locs 0 0 (vx_MQ below (hyQ G (.inr (some (.int res)), (Mc, M, Mo))) (hyXQ G (.inr (some (.int res)), (Mc, M, Mo))) ([.int a1, .ref (adr G 30)] : List Value).toArray s 0 (6 * 0) (hyA G)) (F0 m 106 ls [.int u1, .int x36]) := by
                  intro H locs ls u1 eu1 hP hS hl
                  subst eu1
                  refine lv_iadd hx hb dL_step_106 ?_
                  refine lv_istore (lv' := [(4, .int (x36 + ((if x37 = 2 then 1 else (if x37 = 6 then 1 else 2)) : Int32))), (0, .int a1), (1, .ref (adr G 30)), (2, .int 3), (3, .int x35), (5, .int x37)]) hx hb dL_step_107 hl (by decide) rfl (fun ls hl => ?_)
                  refine lv_iload hx hb dL_step_109 (lv_at hl 5 rfl) ?_
                  refine lv_iconst (v := 1) hx hb dL_step_111 rfl ?_
                  refine lv_iadd hx hb dL_step_112 ?_
                  refine lv_bipush (v := 7) hx hb dL_step_113 rfl ?_
                  refine lv_irem hx hb dL_step_115 (by decide) ?_
                  refine lv_istore (lv' := [(5, .int ((x37 + 1) - (x37 + 1) / 7 * 7)), (4, .int (x36 + ((if x37 = 2 then 1 else (if x37 = 6 then 1 else 2)) : Int32))), (0, .int a1), (1, .ref (adr G 30)), (2, .int 3), (3, .int x35)]) hx hb dL_step_116 hl (by decide) rfl (fun ls hl => ?_)
                  refine lv_iinc (v := (x35 + 1)) (lv' := [(3, .int (x35 + 1)), (5, .int ((x37 + 1) - (x37 + 1) / 7 * 7)), (4, .int (x36 + ((if x37 = 2 then 1 else (if x37 = 6 then 1 else 2)) : Int32))), (0, .int a1), (1, .ref (adr G 30)), (2, .int 3)]) hx hb dL_step_118 hl (k := 5) rfl rfl (by decide) rfl (fun ls hl => ?_)
                  refine lv_goto (tgt := 80) hx hb dL_step_121 (by decide) ?_
                  exact ih (x35 + 1) (x36 + ((if x37 = 2 then 1 else (if x37 = 6 then 1 else 2)) : Int32)) ((x37 + 1) - (x37 + 1) / 7 * 7) _ h  _ _ ls hP hS (lv_sub hl [3, 4, 5, 0, 2, 1] rfl) kk
                refine lv_icmp_eq (tgt := 101) hx hb dL_step_91 (by decide) (fun c39 => ?_) (fun c39 => ?_)
                · refine lv_iconst (v := 1) hx hb dL_step_101 rfl ?_
                  refine lv_goto (tgt := 106) hx hb dL_step_102 (by decide) ?_
                  exact J41 _ _ ls 1 (by rw [if_pos c39] <;> rfl) hP hS (lv_sub hl [0, 1, 2, 3, 4, 5] rfl)
                · refine lv_iload hx hb dL_step_94 (lv_at hl 5 rfl) ?_
                  refine lv_bipush (v := 6) hx hb dL_step_96 rfl ?_
                  refine lv_icmp_ne (tgt := 105) hx hb dL_step_98 (by decide) (fun c40 => ?_) (fun c40 => ?_)
                  · refine lv_iconst (v := 2) hx hb dL_step_105 rfl ?_
                    exact J41 _ _ ls 2 (by rw [if_neg c39, if_neg c40] <;> rfl) hP hS (lv_sub hl [0, 1, 2, 3, 4, 5] rfl)
                  · refine lv_iconst (v := 1) hx hb dL_step_101 rfl ?_
                    refine lv_goto (tgt := 106) hx hb dL_step_102 (by decide) ?_
                    exact J41 _ _ ls 1 (by rw [if_neg c39, if_pos c40] <;> rfl) hP hS (lv_sub hl [0, 1, 2, 3, 4, 5] rfl)
          obtain ⟨q43, hq43, h⟩ := hy_bind h
          refine L42 hyFu 3 v34 0 q43 hq43 _ _ ls hP hS (lv_sub hl [4, 5, 3, 2, 1, 0] rfl) ?_
          intro y35 y36 y37 e9 H locs ls hP hS hl
          subst e9
          try dsimp only at h
          refine lv_iload_n hx hb dL_step_124 rfl (lv_at hl 3 rfl) ?_
          exact hy_iret (T := (Mc, M, Mo)) hx hb hr hlocks hP hS (Nat.zero_le _) (Nat.zero_le _) (by rw [← (Option.some.inj h)] <;> rfl) dL_step_125
      · rw [if_neg c6] at h
        refine lv_iconst (v := 2) hx hb dL_step_28 rfl ?_
        refine lv_goto (tgt := 69) hx hb dL_step_29 (by decide) ?_
        refine lv_istore_n (lv' := [(2, .int 2), (0, .int a1), (1, .ref (adr G 30))]) hx hb dL_step_69 rfl hl (by decide) rfl (fun ls hl => ?_)
        refine lv_iload_n hx hb dL_step_70 rfl (lv_at hl 0 rfl) ?_
        refine lv_istore_n (lv' := [(3, .int 2), (2, .int 2), (0, .int a1), (1, .ref (adr G 30))]) hx hb dL_step_71 rfl hl (by decide) rfl (fun ls hl => ?_)
        refine lv_aload_n hx hb dL_step_72 rfl (lv_at hl 3 rfl) ?_
        refine lv_iconst (v := 0) hx hb dL_step_73 rfl ?_
        obtain ⟨v44, hv44, h⟩ := hy_bind h
        obtain ⟨nv44, hv44⟩ := ldE_some hv44
        refine hy_iald (T := (Mc, M, Mo)) hx hb hX hP 30 6 (M.1 30) (hy34 G (by decide)) rfl nv44 dL_step_74 ?_
        rw [hv44]
        refine lv_istore (lv' := [(4, .int v44), (3, .int 2), (2, .int 2), (0, .int a1), (1, .ref (adr G 30))]) hx hb dL_step_75 hl (by decide) rfl (fun ls hl => ?_)
        refine lv_iconst (v := 0) hx hb dL_step_77 rfl ?_
        refine lv_istore (lv' := [(5, .int 0), (4, .int v44), (3, .int 2), (2, .int 2), (0, .int a1), (1, .ref (adr G 30))]) hx hb dL_step_78 hl (by decide) rfl (fun ls hl => ?_)
        have L52 : ∀ (f : Nat) (x45 : Int32) (x46 : Int32) (x47 : Int32) (qL : (Int32 × Int32 × Int32)) (h : La_step_L80bbb a1 f x45 x46 x47 = some qL) (H : Heap) (locs : List Loc) (ls : Array Slot) (hP : va_P G.1 vwCl (wld G (Mc, M, Mo)) H) (hS : va_S (hyA G) s.heap H locs) (hl : lv_has ls 6 [(0, .int a1), (1, .ref (adr G 30)), (2, .int 2), (3, .int x45), (4, .int x46), (5, .int x47)]) (kk : ∀ (y45 : Int32) (y46 : Int32) (y47 : Int32), qL = (y45, y46, y47) → ∀ (H : Heap) (locs : List Loc) (ls : Array Slot), va_P G.1 vwCl (wld G (Mc, M, Mo)) H → va_S (hyA G) s.heap H locs → lv_has ls 6 [(0, .int a1), (1, .ref (adr G 30)), (2, .int 2), (3, .int y45), (4, .int y46), (5, .int y47)] → W p l e { frames := 0, cells := 0, slots := 6 * 0, locals := 0 } s m ([.int a1, .ref (adr G 30)] : List Value).toArray below meth c H locs 0 0 (vx_MQ below (hyQ G (.inr (some (.int res)), (Mc, M, Mo))) (hyXQ G (.inr (some (.int res)), (Mc, M, Mo))) ([.int a1, .ref (adr G 30)] : List Value).toArray s 0 (6 * 0) (hyA G)) (F0 m 124 ls [])), W p l e { frames := 0, cells := 0, slots := 6 * 0, locals := 0 } s m ([.int a1, .ref (adr G 30)] : List Value).toArray below meth c H locs 0 0 (vx_MQ below (hyQ G (.inr (some (.int res)), (Mc, M, Mo))) (hyXQ G (.inr (some (.int res)), (Mc, M, Mo))) ([.int a1, .ref (adr G 30)] : List Value).toArray s 0 (6 * 0) (hyA G)) (F0 m 80 ls []) := by
          intro f
          induction f with
          | zero =>
            intro x45 x46 x47 qL h H locs ls hP hS hl kk
            rw [La_step_L80bbb] at h
            cases h
          | succ f ih =>
            intro x45 x46 x47 qL h H locs ls hP hS hl kk
            rw [La_step_L80bbb] at h
            refine lv_iload hx hb dL_step_80 (lv_at hl 4 rfl) ?_
            refine lv_iload_n hx hb dL_step_82 rfl (lv_at hl 0 rfl) ?_
            refine lv_icmp_ge (tgt := 124) hx hb dL_step_83 (by decide) (fun c48 => ?_) (fun c48 => ?_)
            · rw [if_pos c48] at h
              exact kk x45 x46 x47 (Option.some.inj h).symm _ _ ls hP hS (lv_sub hl [0, 1, 2, 3, 4, 5] rfl)
            · rw [if_neg c48] at h
              refine lv_iload hx hb dL_step_86 (lv_at hl 4 rfl) ?_
              refine lv_iload hx hb dL_step_88 (lv_at hl 5 rfl) ?_
              refine lv_iconst (v := 2) hx hb dL_step_90 rfl ?_
              have J51 : ∀ (H : Heap) (locs : List Loc) (ls : Array Slot) (u1 : Int32), u1 = ((if x47 = 2 then 1 else (if x47 = 6 then 1 else 2)) : Int32) → va_P G.1 vwCl (wld G (Mc, M, Mo)) H → va_S (hyA G) s.heap H locs → lv_has ls 6 [(0, .int a1), (1, .ref (adr G 30)), (2, .int 2), (3, .int x45), (4, .int x46), (5, .int x47)] → W p l e { frames := 0, cells := 0, slots := 6 * 0, locals := 0 } s m ([.int a1, .ref (adr G 30)] : List Value).toArray below meth c H locs 0 0 (vx_MQ below (hyQ G (.inr (some (.int res)), (Mc, M, Mo))) (hyXQ G (.inr (some (.int res)), (Mc, M, Mo))) ([.int a1, .ref (adr G 30)] : List Value).toArray s 0 (6 * 0) (hyA G)) (F0 m 106 ls [.int u1, .int x46]) := by
                intro H locs ls u1 eu1 hP hS hl
                subst eu1
                refine lv_iadd hx hb dL_step_106 ?_
                refine lv_istore (lv' := [(4, .int (x46 + ((if x47 = 2 then 1 else (if x47 = 6 then 1 else 2)) : Int32))), (0, .int a1), (1, .ref (adr G 30)), (2, .int 2), (3, .int x45), (5, .int x47)]) hx hb dL_step_107 hl (by decide) rfl (fun ls hl => ?_)
                refine lv_iload hx hb dL_step_109 (lv_at hl 5 rfl) ?_
                refine lv_iconst (v := 1) hx hb dL_step_111 rfl ?_
                refine lv_iadd hx hb dL_step_112 ?_
                refine lv_bipush (v := 7) hx hb dL_step_113 rfl ?_
                refine lv_irem hx hb dL_step_115 (by decide) ?_
                refine lv_istore (lv' := [(5, .int ((x47 + 1) - (x47 + 1) / 7 * 7)), (4, .int (x46 + ((if x47 = 2 then 1 else (if x47 = 6 then 1 else 2)) : Int32))), (0, .int a1), (1, .ref (adr G 30)), (2, .int 2), (3, .int x45)]) hx hb dL_step_116 hl (by decide) rfl (fun ls hl => ?_)
                refine lv_iinc (v := (x45 + 1)) (lv' := [(3, .int (x45 + 1)), (5, .int ((x47 + 1) - (x47 + 1) / 7 * 7)), (4, .int (x46 + ((if x47 = 2 then 1 else (if x47 = 6 then 1 else 2)) : Int32))), (0, .int a1), (1, .ref (adr G 30)), (2, .int 2)]) hx hb dL_step_118 hl (k := 5) rfl rfl (by decide) rfl (fun ls hl => ?_)
                refine lv_goto (tgt := 80) hx hb dL_step_121 (by decide) ?_
                exact ih (x45 + 1) (x46 + ((if x47 = 2 then 1 else (if x47 = 6 then 1 else 2)) : Int32)) ((x47 + 1) - (x47 + 1) / 7 * 7) _ h  _ _ ls hP hS (lv_sub hl [3, 4, 5, 0, 2, 1] rfl) kk
              refine lv_icmp_eq (tgt := 101) hx hb dL_step_91 (by decide) (fun c49 => ?_) (fun c49 => ?_)
              · refine lv_iconst (v := 1) hx hb dL_step_101 rfl ?_
                refine lv_goto (tgt := 106) hx hb dL_step_102 (by decide) ?_
                exact J51 _ _ ls 1 (by rw [if_pos c49] <;> rfl) hP hS (lv_sub hl [0, 1, 2, 3, 4, 5] rfl)
              · refine lv_iload hx hb dL_step_94 (lv_at hl 5 rfl) ?_
                refine lv_bipush (v := 6) hx hb dL_step_96 rfl ?_
                refine lv_icmp_ne (tgt := 105) hx hb dL_step_98 (by decide) (fun c50 => ?_) (fun c50 => ?_)
                · refine lv_iconst (v := 2) hx hb dL_step_105 rfl ?_
                  exact J51 _ _ ls 2 (by rw [if_neg c49, if_neg c50] <;> rfl) hP hS (lv_sub hl [0, 1, 2, 3, 4, 5] rfl)
                · refine lv_iconst (v := 1) hx hb dL_step_101 rfl ?_
                  refine lv_goto (tgt := 106) hx hb dL_step_102 (by decide) ?_
                  exact J51 _ _ ls 1 (by rw [if_neg c49, if_pos c50] <;> rfl) hP hS (lv_sub hl [0, 1, 2, 3, 4, 5] rfl)
        obtain ⟨q53, hq53, h⟩ := hy_bind h
        refine L52 hyFu 2 v44 0 q53 hq53 _ _ ls hP hS (lv_sub hl [4, 5, 3, 2, 1, 0] rfl) ?_
        intro y45 y46 y47 e9 H locs ls hP hS hl
        subst e9
        try dsimp only at h
        refine lv_iload_n hx hb dL_step_124 rfl (lv_at hl 3 rfl) ?_
        exact hy_iret (T := (Mc, M, Mo)) hx hb hr hlocks hP hS (Nat.zero_le _) (Nat.zero_le _) (by rw [← (Option.some.inj h)] <;> rfl) dL_step_125
    · rw [if_neg c4] at h
      refine lv_iconst (v := 1) hx hb dL_step_17 rfl ?_
      refine lv_goto (tgt := 69) hx hb dL_step_18 (by decide) ?_
      refine lv_istore_n (lv' := [(2, .int 1), (0, .int a1), (1, .ref (adr G 30))]) hx hb dL_step_69 rfl hl (by decide) rfl (fun ls hl => ?_)
      refine lv_iload_n hx hb dL_step_70 rfl (lv_at hl 0 rfl) ?_
      refine lv_istore_n (lv' := [(3, .int 1), (2, .int 1), (0, .int a1), (1, .ref (adr G 30))]) hx hb dL_step_71 rfl hl (by decide) rfl (fun ls hl => ?_)
      refine lv_aload_n hx hb dL_step_72 rfl (lv_at hl 3 rfl) ?_
      refine lv_iconst (v := 0) hx hb dL_step_73 rfl ?_
      obtain ⟨v54, hv54, h⟩ := hy_bind h
      obtain ⟨nv54, hv54⟩ := ldE_some hv54
      refine hy_iald (T := (Mc, M, Mo)) hx hb hX hP 30 6 (M.1 30) (hy34 G (by decide)) rfl nv54 dL_step_74 ?_
      rw [hv54]
      refine lv_istore (lv' := [(4, .int v54), (3, .int 1), (2, .int 1), (0, .int a1), (1, .ref (adr G 30))]) hx hb dL_step_75 hl (by decide) rfl (fun ls hl => ?_)
      refine lv_iconst (v := 0) hx hb dL_step_77 rfl ?_
      refine lv_istore (lv' := [(5, .int 0), (4, .int v54), (3, .int 1), (2, .int 1), (0, .int a1), (1, .ref (adr G 30))]) hx hb dL_step_78 hl (by decide) rfl (fun ls hl => ?_)
      have L62 : ∀ (f : Nat) (x55 : Int32) (x56 : Int32) (x57 : Int32) (qL : (Int32 × Int32 × Int32)) (h : La_step_L80bbbb a1 f x55 x56 x57 = some qL) (H : Heap) (locs : List Loc) (ls : Array Slot) (hP : va_P G.1 vwCl (wld G (Mc, M, Mo)) H) (hS : va_S (hyA G) s.heap H locs) (hl : lv_has ls 6 [(0, .int a1), (1, .ref (adr G 30)), (2, .int 1), (3, .int x55), (4, .int x56), (5, .int x57)]) (kk : ∀ (y55 : Int32) (y56 : Int32) (y57 : Int32), qL = (y55, y56, y57) → ∀ (H : Heap) (locs : List Loc) (ls : Array Slot), va_P G.1 vwCl (wld G (Mc, M, Mo)) H → va_S (hyA G) s.heap H locs → lv_has ls 6 [(0, .int a1), (1, .ref (adr G 30)), (2, .int 1), (3, .int y55), (4, .int y56), (5, .int y57)] → W p l e { frames := 0, cells := 0, slots := 6 * 0, locals := 0 } s m ([.int a1, .ref (adr G 30)] : List Value).toArray below meth c H locs 0 0 (vx_MQ below (hyQ G (.inr (some (.int res)), (Mc, M, Mo))) (hyXQ G (.inr (some (.int res)), (Mc, M, Mo))) ([.int a1, .ref (adr G 30)] : List Value).toArray s 0 (6 * 0) (hyA G)) (F0 m 124 ls [])), W p l e { frames := 0, cells := 0, slots := 6 * 0, locals := 0 } s m ([.int a1, .ref (adr G 30)] : List Value).toArray below meth c H locs 0 0 (vx_MQ below (hyQ G (.inr (some (.int res)), (Mc, M, Mo))) (hyXQ G (.inr (some (.int res)), (Mc, M, Mo))) ([.int a1, .ref (adr G 30)] : List Value).toArray s 0 (6 * 0) (hyA G)) (F0 m 80 ls []) := by
        intro f
        induction f with
        | zero =>
          intro x55 x56 x57 qL h H locs ls hP hS hl kk
          rw [La_step_L80bbbb] at h
          cases h
        | succ f ih =>
          intro x55 x56 x57 qL h H locs ls hP hS hl kk
          rw [La_step_L80bbbb] at h
          refine lv_iload hx hb dL_step_80 (lv_at hl 4 rfl) ?_
          refine lv_iload_n hx hb dL_step_82 rfl (lv_at hl 0 rfl) ?_
          refine lv_icmp_ge (tgt := 124) hx hb dL_step_83 (by decide) (fun c58 => ?_) (fun c58 => ?_)
          · rw [if_pos c58] at h
            exact kk x55 x56 x57 (Option.some.inj h).symm _ _ ls hP hS (lv_sub hl [0, 1, 2, 3, 4, 5] rfl)
          · rw [if_neg c58] at h
            refine lv_iload hx hb dL_step_86 (lv_at hl 4 rfl) ?_
            refine lv_iload hx hb dL_step_88 (lv_at hl 5 rfl) ?_
            refine lv_iconst (v := 2) hx hb dL_step_90 rfl ?_
            have J61 : ∀ (H : Heap) (locs : List Loc) (ls : Array Slot) (u1 : Int32), u1 = ((if x57 = 2 then 1 else (if x57 = 6 then 1 else 2)) : Int32) → va_P G.1 vwCl (wld G (Mc, M, Mo)) H → va_S (hyA G) s.heap H locs → lv_has ls 6 [(0, .int a1), (1, .ref (adr G 30)), (2, .int 1), (3, .int x55), (4, .int x56), (5, .int x57)] → W p l e { frames := 0, cells := 0, slots := 6 * 0, locals := 0 } s m ([.int a1, .ref (adr G 30)] : List Value).toArray below meth c H locs 0 0 (vx_MQ below (hyQ G (.inr (some (.int res)), (Mc, M, Mo))) (hyXQ G (.inr (some (.int res)), (Mc, M, Mo))) ([.int a1, .ref (adr G 30)] : List Value).toArray s 0 (6 * 0) (hyA G)) (F0 m 106 ls [.int u1, .int x56]) := by
              intro H locs ls u1 eu1 hP hS hl
              subst eu1
              refine lv_iadd hx hb dL_step_106 ?_
              refine lv_istore (lv' := [(4, .int (x56 + ((if x57 = 2 then 1 else (if x57 = 6 then 1 else 2)) : Int32))), (0, .int a1), (1, .ref (adr G 30)), (2, .int 1), (3, .int x55), (5, .int x57)]) hx hb dL_step_107 hl (by decide) rfl (fun ls hl => ?_)
              refine lv_iload hx hb dL_step_109 (lv_at hl 5 rfl) ?_
              refine lv_iconst (v := 1) hx hb dL_step_111 rfl ?_
              refine lv_iadd hx hb dL_step_112 ?_
              refine lv_bipush (v := 7) hx hb dL_step_113 rfl ?_
              refine lv_irem hx hb dL_step_115 (by decide) ?_
              refine lv_istore (lv' := [(5, .int ((x57 + 1) - (x57 + 1) / 7 * 7)), (4, .int (x56 + ((if x57 = 2 then 1 else (if x57 = 6 then 1 else 2)) : Int32))), (0, .int a1), (1, .ref (adr G 30)), (2, .int 1), (3, .int x55)]) hx hb dL_step_116 hl (by decide) rfl (fun ls hl => ?_)
              refine lv_iinc (v := (x55 + 1)) (lv' := [(3, .int (x55 + 1)), (5, .int ((x57 + 1) - (x57 + 1) / 7 * 7)), (4, .int (x56 + ((if x57 = 2 then 1 else (if x57 = 6 then 1 else 2)) : Int32))), (0, .int a1), (1, .ref (adr G 30)), (2, .int 1)]) hx hb dL_step_118 hl (k := 5) rfl rfl (by decide) rfl (fun ls hl => ?_)
              refine lv_goto (tgt := 80) hx hb dL_step_121 (by decide) ?_
              exact ih (x55 + 1) (x56 + ((if x57 = 2 then 1 else (if x57 = 6 then 1 else 2)) : Int32)) ((x57 + 1) - (x57 + 1) / 7 * 7) _ h  _ _ ls hP hS (lv_sub hl [3, 4, 5, 0, 2, 1] rfl) kk
            refine lv_icmp_eq (tgt := 101) hx hb dL_step_91 (by decide) (fun c59 => ?_) (fun c59 => ?_)
            · refine lv_iconst (v := 1) hx hb dL_step_101 rfl ?_
              refine lv_goto (tgt := 106) hx hb dL_step_102 (by decide) ?_
              exact J61 _ _ ls 1 (by rw [if_pos c59] <;> rfl) hP hS (lv_sub hl [0, 1, 2, 3, 4, 5] rfl)
            · refine lv_iload hx hb dL_step_94 (lv_at hl 5 rfl) ?_
              refine lv_bipush (v := 6) hx hb dL_step_96 rfl ?_
              refine lv_icmp_ne (tgt := 105) hx hb dL_step_98 (by decide) (fun c60 => ?_) (fun c60 => ?_)
              · refine lv_iconst (v := 2) hx hb dL_step_105 rfl ?_
                exact J61 _ _ ls 2 (by rw [if_neg c59, if_neg c60] <;> rfl) hP hS (lv_sub hl [0, 1, 2, 3, 4, 5] rfl)
              · refine lv_iconst (v := 1) hx hb dL_step_101 rfl ?_
                refine lv_goto (tgt := 106) hx hb dL_step_102 (by decide) ?_
                exact J61 _ _ ls 1 (by rw [if_neg c59, if_pos c60] <;> rfl) hP hS (lv_sub hl [0, 1, 2, 3, 4, 5] rfl)
      obtain ⟨q63, hq63, h⟩ := hy_bind h
      refine L62 hyFu 1 v54 0 q63 hq63 _ _ ls hP hS (lv_sub hl [4, 5, 3, 2, 1, 0] rfl) ?_
      intro y55 y56 y57 e9 H locs ls hP hS hl
      subst e9
      try dsimp only at h
      refine lv_iload_n hx hb dL_step_124 rfl (lv_at hl 3 rfl) ?_
      exact hy_iret (T := (Mc, M, Mo)) hx hb hr hlocks hP hS (Nat.zero_le _) (Nat.zero_le _) (by rw [← (Option.some.inj h)] <;> rfl) dL_step_125
  · rw [if_pos (c2)] at h
    refine lv_iconst (v := 0) hx hb dL_step_6 rfl ?_
    refine lv_goto (tgt := 69) hx hb dL_step_7 (by decide) ?_
    refine lv_istore_n (lv' := [(2, .int 0), (0, .int a1), (1, .ref (adr G 30))]) hx hb dL_step_69 rfl hl (by decide) rfl (fun ls hl => ?_)
    refine lv_iload_n hx hb dL_step_70 rfl (lv_at hl 0 rfl) ?_
    refine lv_istore_n (lv' := [(3, .int 0), (2, .int 0), (0, .int a1), (1, .ref (adr G 30))]) hx hb dL_step_71 rfl hl (by decide) rfl (fun ls hl => ?_)
    refine lv_aload_n hx hb dL_step_72 rfl (lv_at hl 3 rfl) ?_
    refine lv_iconst (v := 0) hx hb dL_step_73 rfl ?_
    obtain ⟨v64, hv64, h⟩ := hy_bind h
    obtain ⟨nv64, hv64⟩ := ldE_some hv64
    refine hy_iald (T := (Mc, M, Mo)) hx hb hX hP 30 6 (M.1 30) (hy34 G (by decide)) rfl nv64 dL_step_74 ?_
    rw [hv64]
    refine lv_istore (lv' := [(4, .int v64), (3, .int 0), (2, .int 0), (0, .int a1), (1, .ref (adr G 30))]) hx hb dL_step_75 hl (by decide) rfl (fun ls hl => ?_)
    refine lv_iconst (v := 0) hx hb dL_step_77 rfl ?_
    refine lv_istore (lv' := [(5, .int 0), (4, .int v64), (3, .int 0), (2, .int 0), (0, .int a1), (1, .ref (adr G 30))]) hx hb dL_step_78 hl (by decide) rfl (fun ls hl => ?_)
    have L72 : ∀ (f : Nat) (x65 : Int32) (x66 : Int32) (x67 : Int32) (qL : (Int32 × Int32 × Int32)) (h : La_step_L80bbbbb a1 f x65 x66 x67 = some qL) (H : Heap) (locs : List Loc) (ls : Array Slot) (hP : va_P G.1 vwCl (wld G (Mc, M, Mo)) H) (hS : va_S (hyA G) s.heap H locs) (hl : lv_has ls 6 [(0, .int a1), (1, .ref (adr G 30)), (2, .int 0), (3, .int x65), (4, .int x66), (5, .int x67)]) (kk : ∀ (y65 : Int32) (y66 : Int32) (y67 : Int32), qL = (y65, y66, y67) → ∀ (H : Heap) (locs : List Loc) (ls : Array Slot), va_P G.1 vwCl (wld G (Mc, M, Mo)) H → va_S (hyA G) s.heap H locs → lv_has ls 6 [(0, .int a1), (1, .ref (adr G 30)), (2, .int 0), (3, .int y65), (4, .int y66), (5, .int y67)] → W p l e { frames := 0, cells := 0, slots := 6 * 0, locals := 0 } s m ([.int a1, .ref (adr G 30)] : List Value).toArray below meth c H locs 0 0 (vx_MQ below (hyQ G (.inr (some (.int res)), (Mc, M, Mo))) (hyXQ G (.inr (some (.int res)), (Mc, M, Mo))) ([.int a1, .ref (adr G 30)] : List Value).toArray s 0 (6 * 0) (hyA G)) (F0 m 124 ls [])), W p l e { frames := 0, cells := 0, slots := 6 * 0, locals := 0 } s m ([.int a1, .ref (adr G 30)] : List Value).toArray below meth c H locs 0 0 (vx_MQ below (hyQ G (.inr (some (.int res)), (Mc, M, Mo))) (hyXQ G (.inr (some (.int res)), (Mc, M, Mo))) ([.int a1, .ref (adr G 30)] : List Value).toArray s 0 (6 * 0) (hyA G)) (F0 m 80 ls []) := by
      intro f
      induction f with
      | zero =>
        intro x65 x66 x67 qL h H locs ls hP hS hl kk
        rw [La_step_L80bbbbb] at h
        cases h
      | succ f ih =>
        intro x65 x66 x67 qL h H locs ls hP hS hl kk
        rw [La_step_L80bbbbb] at h
        refine lv_iload hx hb dL_step_80 (lv_at hl 4 rfl) ?_
        refine lv_iload_n hx hb dL_step_82 rfl (lv_at hl 0 rfl) ?_
        refine lv_icmp_ge (tgt := 124) hx hb dL_step_83 (by decide) (fun c68 => ?_) (fun c68 => ?_)
        · rw [if_pos c68] at h
          exact kk x65 x66 x67 (Option.some.inj h).symm _ _ ls hP hS (lv_sub hl [0, 1, 2, 3, 4, 5] rfl)
        · rw [if_neg c68] at h
          refine lv_iload hx hb dL_step_86 (lv_at hl 4 rfl) ?_
          refine lv_iload hx hb dL_step_88 (lv_at hl 5 rfl) ?_
          refine lv_iconst (v := 2) hx hb dL_step_90 rfl ?_
          have J71 : ∀ (H : Heap) (locs : List Loc) (ls : Array Slot) (u1 : Int32), u1 = ((if x67 = 2 then 1 else (if x67 = 6 then 1 else 2)) : Int32) → va_P G.1 vwCl (wld G (Mc, M, Mo)) H → va_S (hyA G) s.heap H locs → lv_has ls 6 [(0, .int a1), (1, .ref (adr G 30)), (2, .int 0), (3, .int x65), (4, .int x66), (5, .int x67)] → W p l e { frames := 0, cells := 0, slots := 6 * 0, locals := 0 } s m ([.int a1, .ref (adr G 30)] : List Value).toArray below meth c H locs 0 0 (vx_MQ below (hyQ G (.inr (some (.int res)), (Mc, M, Mo))) (hyXQ G (.inr (some (.int res)), (Mc, M, Mo))) ([.int a1, .ref (adr G 30)] : List Value).toArray s 0 (6 * 0) (hyA G)) (F0 m 106 ls [.int u1, .int x66]) := by
            intro H locs ls u1 eu1 hP hS hl
            subst eu1
            refine lv_iadd hx hb dL_step_106 ?_
            refine lv_istore (lv' := [(4, .int (x66 + ((if x67 = 2 then 1 else (if x67 = 6 then 1 else 2)) : Int32))), (0, .int a1), (1, .ref (adr G 30)), (2, .int 0), (3, .int x65), (5, .int x67)]) hx hb dL_step_107 hl (by decide) rfl (fun ls hl => ?_)
            refine lv_iload hx hb dL_step_109 (lv_at hl 5 rfl) ?_
            refine lv_iconst (v := 1) hx hb dL_step_111 rfl ?_
            refine lv_iadd hx hb dL_step_112 ?_
            refine lv_bipush (v := 7) hx hb dL_step_113 rfl ?_
            refine lv_irem hx hb dL_step_115 (by decide) ?_
            refine lv_istore (lv' := [(5, .int ((x67 + 1) - (x67 + 1) / 7 * 7)), (4, .int (x66 + ((if x67 = 2 then 1 else (if x67 = 6 then 1 else 2)) : Int32))), (0, .int a1), (1, .ref (adr G 30)), (2, .int 0), (3, .int x65)]) hx hb dL_step_116 hl (by decide) rfl (fun ls hl => ?_)
            refine lv_iinc (v := (x65 + 1)) (lv' := [(3, .int (x65 + 1)), (5, .int ((x67 + 1) - (x67 + 1) / 7 * 7)), (4, .int (x66 + ((if x67 = 2 then 1 else (if x67 = 6 then 1 else 2)) : Int32))), (0, .int a1), (1, .ref (adr G 30)), (2, .int 0)]) hx hb dL_step_118 hl (k := 5) rfl rfl (by decide) rfl (fun ls hl => ?_)
            refine lv_goto (tgt := 80) hx hb dL_step_121 (by decide) ?_
            exact ih (x65 + 1) (x66 + ((if x67 = 2 then 1 else (if x67 = 6 then 1 else 2)) : Int32)) ((x67 + 1) - (x67 + 1) / 7 * 7) _ h  _ _ ls hP hS (lv_sub hl [3, 4, 5, 0, 2, 1] rfl) kk
          refine lv_icmp_eq (tgt := 101) hx hb dL_step_91 (by decide) (fun c69 => ?_) (fun c69 => ?_)
          · refine lv_iconst (v := 1) hx hb dL_step_101 rfl ?_
            refine lv_goto (tgt := 106) hx hb dL_step_102 (by decide) ?_
            exact J71 _ _ ls 1 (by rw [if_pos c69] <;> rfl) hP hS (lv_sub hl [0, 1, 2, 3, 4, 5] rfl)
          · refine lv_iload hx hb dL_step_94 (lv_at hl 5 rfl) ?_
            refine lv_bipush (v := 6) hx hb dL_step_96 rfl ?_
            refine lv_icmp_ne (tgt := 105) hx hb dL_step_98 (by decide) (fun c70 => ?_) (fun c70 => ?_)
            · refine lv_iconst (v := 2) hx hb dL_step_105 rfl ?_
              exact J71 _ _ ls 2 (by rw [if_neg c69, if_neg c70] <;> rfl) hP hS (lv_sub hl [0, 1, 2, 3, 4, 5] rfl)
            · refine lv_iconst (v := 1) hx hb dL_step_101 rfl ?_
              refine lv_goto (tgt := 106) hx hb dL_step_102 (by decide) ?_
              exact J71 _ _ ls 1 (by rw [if_neg c69, if_pos c70] <;> rfl) hP hS (lv_sub hl [0, 1, 2, 3, 4, 5] rfl)
    obtain ⟨q73, hq73, h⟩ := hy_bind h
    refine L72 hyFu 0 v64 0 q73 hq73 _ _ ls hP hS (lv_sub hl [4, 5, 3, 2, 1, 0] rfl) ?_
    intro y65 y66 y67 e9 H locs ls hP hS hl
    subst e9
    try dsimp only at h
    refine lv_iload_n hx hb dL_step_124 rfl (lv_at hl 3 rfl) ?_
    exact hy_iret (T := (Mc, M, Mo)) hx hb hr hlocks hP hS (Nat.zero_le _) (Nat.zero_le _) (by rw [← (Option.some.inj h)] <;> rfl) dL_step_125
set_option maxHeartbeats 1000000 in
set_option maxRecDepth 100000 in
theorem c_La_stepOf {l : Launch} {G : hyG} (Mc Mo : hyM) (a1 : Int32) (M : hyM) {res : Int32} (h : La_stepOf a1 M = some res) : hyC l yL_stepOf (.code yL_stepOf cL_stepOf 2 (some .int)) 2 42 (0) G [.int a1, .ref (adr G 30)] (Mc, M, Mo) (.inr (some (.int res)), (Mc, M, Mo)) := by
  refine hy_of (by decide +kernel) (Nat.le_of_ble_eq_true rfl) ?_
  intro p e s m below meth c hx hb hml hown hts hr hlocks ht hX hP hS ls hl
  have hl : lv_has ls 2 [(0, .int a1), (1, .ref (adr G 30))] := hl
  rw [La_stepOf] at h
  refine lv_iload_n hx hb dL_stepOf_0 rfl (lv_at hl 0 rfl) ?_
  refine lv_aload_n hx hb dL_stepOf_1 rfl (lv_at hl 1 rfl) ?_
  obtain ⟨v1, hv1, h⟩ := hy_bind h
  refine hy_ret (hy_rS0 (T := (Mc, M, Mo)) (v := some (.int v1)) (T2 := (Mc, M, Mo)) (As := [.int a1, .ref (adr G 30)]) (rest := []) (n := 0) hx hb hml hown hts hX hP hS hl (c_La_degree Mc Mo a1 M hv1) m_La_degree q_732 rfl rfl (Nat.le_of_ble_eq_true rfl) dL_stepOf_2 ⟨Nat.le_of_ble_eq_true rfl, Nat.le_of_ble_eq_true rfl⟩ ⟨Nat.zero_le _, Nat.zero_le _⟩) hS (fun H locs hP hS => ?_)
  have J4 : ∀ (H : Heap) (locs : List Loc) (ls : Array Slot) (u1 : Int32), u1 = ((if 0 ≤ v1 then a1 else (a1 - 1)) : Int32) → va_P G.1 vwCl (wld G (Mc, M, Mo)) H → va_S (hyA G) s.heap H locs → lv_has ls 2 [(0, .int a1), (1, .ref (adr G 30))] → W p l e { frames := 2, cells := 0, slots := 6 * 0, locals := 42 } s m ([.int a1, .ref (adr G 30)] : List Value).toArray below meth c H locs 0 0 (vx_MQ below (hyQ G (.inr (some (.int res)), (Mc, M, Mo))) (hyXQ G (.inr (some (.int res)), (Mc, M, Mo))) ([.int a1, .ref (adr G 30)] : List Value).toArray s 0 (6 * 0) (hyA G)) (F0 m 15 ls [.int u1]) := by
    intro H locs ls u1 eu1 hP hS hl
    subst eu1
    refine lv_aload_n hx hb dL_stepOf_15 rfl (lv_at hl 1 rfl) ?_
    obtain ⟨v3, hv3, h⟩ := hy_bind h
    refine hy_ret (hy_rS0 (T := (Mc, M, Mo)) (v := some (.int v3)) (T2 := (Mc, M, Mo)) (As := [.int ((if 0 ≤ v1 then a1 else (a1 - 1)) : Int32), .ref (adr G 30)]) (rest := []) (n := 0) hx hb hml hown hts hX hP hS hl (c_La_step Mc Mo ((if 0 ≤ v1 then a1 else (a1 - 1)) : Int32) M hv3) m_La_step q_741 rfl rfl (Nat.le_of_ble_eq_true rfl) dL_stepOf_16 ⟨Nat.le_of_ble_eq_true rfl, Nat.le_of_ble_eq_true rfl⟩ ⟨Nat.zero_le _, Nat.zero_le _⟩) hS (fun H locs hP hS => ?_)
    exact hy_iret (T := (Mc, M, Mo)) hx hb hr hlocks hP hS (Nat.zero_le _) (Nat.zero_le _) (by rw [← (Option.some.inj h)] <;> rfl) dL_stepOf_19
  refine lv_if_ge (tgt := 14) hx hb dL_stepOf_5 (by decide) (fun c2 => ?_) (fun c2 => ?_)
  · refine lv_iload_n hx hb dL_stepOf_14 rfl (lv_at hl 0 rfl) ?_
    exact J4 _ _ ls a1 (by rw [if_pos c2] <;> rfl) hP hS (lv_sub hl [0, 1] rfl)
  · refine lv_iload_n hx hb dL_stepOf_8 rfl (lv_at hl 0 rfl) ?_
    refine lv_iconst (v := 1) hx hb dL_stepOf_9 rfl ?_
    refine lv_isub hx hb dL_stepOf_10 ?_
    refine lv_goto (tgt := 15) hx hb dL_stepOf_11 (by decide) ?_
    exact J4 _ _ ls (a1 - 1) (by rw [if_neg c2] <;> rfl) hP hS (lv_sub hl [0, 1] rfl)
set_option maxHeartbeats 1000000 in
set_option maxRecDepth 100000 in
theorem c_La_apart {l : Launch} {G : hyG} (Mc Mo : hyM) (a1 : Int32) (a2 : Int32) (M : hyM) {res : Int32} (h : La_apart a1 a2 M = res) : hyC l yL_apart (.code yL_apart cL_apart 2 (some .int)) 0 0 (0) G [.int a1, .int a2] (Mc, M, Mo) (.inr (some (.int res)), (Mc, M, Mo)) := by
  refine hy_of (by decide +kernel) (Nat.le_of_ble_eq_true rfl) ?_
  intro p e s m below meth c hx hb hml hown hts hr hlocks ht hX hP hS ls hl
  have hl : lv_has ls 2 [(0, .int a1), (1, .int a2)] := hl
  rw [La_apart] at h
  refine lv_iload_n hx hb dL_apart_0 rfl (lv_at hl 0 rfl) ?_
  refine lv_iload_n hx hb dL_apart_1 rfl (lv_at hl 1 rfl) ?_
  have J2 : ∀ (H : Heap) (locs : List Loc) (ls : Array Slot) (u1 : Int32), u1 = ((if a1 ≤ a2 then (a2 - a1) else (a1 - a2)) : Int32) → va_P G.1 vwCl (wld G (Mc, M, Mo)) H → va_S (hyA G) s.heap H locs → lv_has ls 2 [(0, .int a1), (1, .int a2)] → W p l e { frames := 0, cells := 0, slots := 6 * 0, locals := 0 } s m ([.int a1, .int a2] : List Value).toArray below meth c H locs 0 0 (vx_MQ below (hyQ G (.inr (some (.int res)), (Mc, M, Mo))) (hyXQ G (.inr (some (.int res)), (Mc, M, Mo))) ([.int a1, .int a2] : List Value).toArray s 0 (6 * 0) (hyA G)) (F0 m 14 ls [.int u1]) := by
    intro H locs ls u1 eu1 hP hS hl
    subst eu1
    exact hy_iret (T := (Mc, M, Mo)) hx hb hr hlocks hP hS (Nat.zero_le _) (Nat.zero_le _) (by rw [← h] <;> rfl) dL_apart_14
  refine lv_icmp_le (tgt := 11) hx hb dL_apart_2 (by decide) (fun c1 => ?_) (fun c1 => ?_)
  · refine lv_iload_n hx hb dL_apart_11 rfl (lv_at hl 1 rfl) ?_
    refine lv_iload_n hx hb dL_apart_12 rfl (lv_at hl 0 rfl) ?_
    refine lv_isub hx hb dL_apart_13 ?_
    exact J2 _ _ ls (a2 - a1) (by rw [if_pos c1] <;> rfl) hP hS (lv_sub hl [0, 1] rfl)
  · refine lv_iload_n hx hb dL_apart_5 rfl (lv_at hl 0 rfl) ?_
    refine lv_iload_n hx hb dL_apart_6 rfl (lv_at hl 1 rfl) ?_
    refine lv_isub hx hb dL_apart_7 ?_
    refine lv_goto (tgt := 14) hx hb dL_apart_8 (by decide) ?_
    exact J2 _ _ ls (a1 - a2) (by rw [if_neg c1] <;> rfl) hP hS (lv_sub hl [0, 1] rfl)
set_option maxHeartbeats 1000000 in
set_option maxRecDepth 100000 in
theorem c_La_parallels {l : Launch} {G : hyG} (Mc Mo : hyM) (a1 : Int32) (M : hyM) {res : Int32} (h : La_parallels a1 M = some res) : hyC l yL_parallels (.code yL_parallels cL_parallels 11 (some .int)) 0 0 (0) G [.int a1, .ref (adr G 31)] (Mc, M, Mo) (.inr (some (.int res)), (Mc, M, Mo)) := by
  refine hy_of (by decide +kernel) (Nat.le_of_ble_eq_true rfl) ?_
  intro p e s m below meth c hx hb hml hown hts hr hlocks ht hX hP hS ls hl
  have hl : lv_has ls 11 [(0, .int a1), (1, .ref (adr G 31))] := hl
  rw [La_parallels] at h
  refine lv_iconst (v := 0) hx hb dL_parallels_0 rfl ?_
  refine lv_istore_n (lv' := [(2, .int 0), (0, .int a1), (1, .ref (adr G 31))]) hx hb dL_parallels_1 rfl hl (by decide) rfl (fun ls hl => ?_)
  refine lv_iconst (v := 0) hx hb dL_parallels_2 rfl ?_
  refine lv_istore_n (lv' := [(3, .int 0), (2, .int 0), (0, .int a1), (1, .ref (adr G 31))]) hx hb dL_parallels_3 rfl hl (by decide) rfl (fun ls hl => ?_)
  refine lv_iconst (v := 0) hx hb dL_parallels_4 rfl ?_
  refine lv_istore (lv' := [(4, .int 0), (3, .int 0), (2, .int 0), (0, .int a1), (1, .ref (adr G 31))]) hx hb dL_parallels_5 hl (by decide) rfl (fun ls hl => ?_)
  have L67 : ∀ (f : Nat) (x1 : Int32) (x2 : Int32) (x3 : Int32) (qL : (Int32 × Int32 × Int32)) (h : La_parallels_L7 a1 M f x1 x2 x3 = some qL) (H : Heap) (locs : List Loc) (ls : Array Slot) (hP : va_P G.1 vwCl (wld G (Mc, M, Mo)) H) (hS : va_S (hyA G) s.heap H locs) (hl : lv_has ls 11 [(0, .int a1), (1, .ref (adr G 31)), (2, .int x1), (3, .int x2), (4, .int x3)]) (kk : ∀ (y1 : Int32) (y2 : Int32) (y3 : Int32), qL = (y1, y2, y3) → ∀ (H : Heap) (locs : List Loc) (ls : Array Slot), va_P G.1 vwCl (wld G (Mc, M, Mo)) H → va_S (hyA G) s.heap H locs → lv_has ls 11 [(0, .int a1), (1, .ref (adr G 31)), (2, .int y1), (3, .int y2), (4, .int y3)] → W p l e { frames := 0, cells := 0, slots := 6 * 0, locals := 0 } s m ([.int a1, .ref (adr G 31)] : List Value).toArray below meth c H locs 0 0 (vx_MQ below (hyQ G (.inr (some (.int res)), (Mc, M, Mo))) (hyXQ G (.inr (some (.int res)), (Mc, M, Mo))) ([.int a1, .ref (adr G 31)] : List Value).toArray s 0 (6 * 0) (hyA G)) (F0 m 211 ls [])), W p l e { frames := 0, cells := 0, slots := 6 * 0, locals := 0 } s m ([.int a1, .ref (adr G 31)] : List Value).toArray below meth c H locs 0 0 (vx_MQ below (hyQ G (.inr (some (.int res)), (Mc, M, Mo))) (hyXQ G (.inr (some (.int res)), (Mc, M, Mo))) ([.int a1, .ref (adr G 31)] : List Value).toArray s 0 (6 * 0) (hyA G)) (F0 m 7 ls []) := by
    intro f
    induction f with
    | zero =>
      intro x1 x2 x3 qL h H locs ls hP hS hl kk
      rw [La_parallels_L7] at h
      cases h
    | succ f ih =>
      intro x1 x2 x3 qL h H locs ls hP hS hl kk
      rw [La_parallels_L7] at h
      refine lv_iload hx hb dL_parallels_7 (lv_at hl 4 rfl) ?_
      refine lv_iconst (v := 4) hx hb dL_parallels_9 rfl ?_
      refine lv_icmp_ge (tgt := 211) hx hb dL_parallels_10 (by decide) (fun c4 => ?_) (fun c4 => ?_)
      · rw [if_pos c4] at h
        exact kk x1 x2 x3 (Option.some.inj h).symm _ _ ls hP hS (lv_sub hl [0, 1, 2, 3, 4] rfl)
      · rw [if_neg c4] at h
        refine lv_iload hx hb dL_parallels_13 (lv_at hl 4 rfl) ?_
        refine lv_iconst (v := 1) hx hb dL_parallels_15 rfl ?_
        refine lv_iadd hx hb dL_parallels_16 ?_
        refine lv_istore (lv' := [(5, .int (x3 + 1)), (0, .int a1), (1, .ref (adr G 31)), (2, .int x1), (3, .int x2), (4, .int x3)]) hx hb dL_parallels_17 hl (by decide) rfl (fun ls hl => ?_)
        have L65 : ∀ (f : Nat) (x5 : Int32) (x6 : Int32) (x7 : Int32) (qL : (Int32 × Int32 × Int32)) (h : La_parallels_L19 a1 M x3 f x5 x6 x7 = some qL) (H : Heap) (locs : List Loc) (ls : Array Slot) (hP : va_P G.1 vwCl (wld G (Mc, M, Mo)) H) (hS : va_S (hyA G) s.heap H locs) (hl : lv_has ls 11 [(0, .int a1), (1, .ref (adr G 31)), (2, .int x5), (3, .int x6), (4, .int x3), (5, .int x7)]) (kk : ∀ (y5 : Int32) (y6 : Int32) (y7 : Int32), qL = (y5, y6, y7) → ∀ (H : Heap) (locs : List Loc) (ls : Array Slot), va_P G.1 vwCl (wld G (Mc, M, Mo)) H → va_S (hyA G) s.heap H locs → lv_has ls 11 [(0, .int a1), (1, .ref (adr G 31)), (2, .int y5), (3, .int y6), (4, .int x3), (5, .int y7)] → W p l e { frames := 0, cells := 0, slots := 6 * 0, locals := 0 } s m ([.int a1, .ref (adr G 31)] : List Value).toArray below meth c H locs 0 0 (vx_MQ below (hyQ G (.inr (some (.int res)), (Mc, M, Mo))) (hyXQ G (.inr (some (.int res)), (Mc, M, Mo))) ([.int a1, .ref (adr G 31)] : List Value).toArray s 0 (6 * 0) (hyA G)) (F0 m 205 ls [])), W p l e { frames := 0, cells := 0, slots := 6 * 0, locals := 0 } s m ([.int a1, .ref (adr G 31)] : List Value).toArray below meth c H locs 0 0 (vx_MQ below (hyQ G (.inr (some (.int res)), (Mc, M, Mo))) (hyXQ G (.inr (some (.int res)), (Mc, M, Mo))) ([.int a1, .ref (adr G 31)] : List Value).toArray s 0 (6 * 0) (hyA G)) (F0 m 19 ls []) := by
          intro f
          induction f with
          | zero =>
            intro x5 x6 x7 qL h H locs ls hP hS hl kk
            rw [La_parallels_L19] at h
            cases h
          | succ f ih =>
            intro x5 x6 x7 qL h H locs ls hP hS hl kk
            rw [La_parallels_L19] at h
            refine lv_iload hx hb dL_parallels_19 (lv_at hl 5 rfl) ?_
            refine lv_iconst (v := 4) hx hb dL_parallels_21 rfl ?_
            refine lv_icmp_ge (tgt := 205) hx hb dL_parallels_22 (by decide) (fun c8 => ?_) (fun c8 => ?_)
            · rw [if_pos c8] at h
              exact kk x5 x6 x7 (Option.some.inj h).symm _ _ ls hP hS (lv_sub hl [0, 1, 2, 3, 4, 5] rfl)
            · rw [if_neg c8] at h
              refine lv_aload_n hx hb dL_parallels_25 rfl (lv_at hl 1 rfl) ?_
              refine lv_iconst (v := 5) hx hb dL_parallels_26 rfl ?_
              refine lv_iload_n hx hb dL_parallels_27 rfl (lv_at hl 0 rfl) ?_
              refine lv_imul hx hb dL_parallels_28 ?_
              refine lv_iconst (v := 1) hx hb dL_parallels_29 rfl ?_
              refine lv_iadd hx hb dL_parallels_30 ?_
              refine lv_iload hx hb dL_parallels_31 (lv_at hl 4 rfl) ?_
              refine lv_iadd hx hb dL_parallels_33 ?_
              obtain ⟨v9, hv9, h⟩ := hy_bind h
              obtain ⟨nv9, hv9⟩ := ldE_some hv9
              refine hy_iald (T := (Mc, M, Mo)) hx hb hX hP 31 60 (M.1 31) (hy34 G (by decide)) rfl nv9 dL_parallels_34 ?_
              rw [hv9]
              refine lv_istore (lv' := [(6, .int v9), (0, .int a1), (1, .ref (adr G 31)), (2, .int x5), (3, .int x6), (4, .int x3), (5, .int x7)]) hx hb dL_parallels_35 hl (by decide) rfl (fun ls hl => ?_)
              refine lv_aload_n hx hb dL_parallels_37 rfl (lv_at hl 2 rfl) ?_
              refine lv_iconst (v := 5) hx hb dL_parallels_38 rfl ?_
              refine lv_iload_n hx hb dL_parallels_39 rfl (lv_at hl 1 rfl) ?_
              refine lv_imul hx hb dL_parallels_40 ?_
              refine lv_iconst (v := 1) hx hb dL_parallels_41 rfl ?_
              refine lv_iadd hx hb dL_parallels_42 ?_
              refine lv_iload hx hb dL_parallels_43 (lv_at hl 6 rfl) ?_
              refine lv_iadd hx hb dL_parallels_45 ?_
              obtain ⟨v10, hv10, h⟩ := hy_bind h
              obtain ⟨nv10, hv10⟩ := ldE_some hv10
              refine hy_iald (T := (Mc, M, Mo)) hx hb hX hP 31 60 (M.1 31) (hy34 G (by decide)) rfl nv10 dL_parallels_46 ?_
              rw [hv10]
              refine lv_istore (lv' := [(7, .int v10), (6, .int v9), (0, .int a1), (1, .ref (adr G 31)), (2, .int x5), (3, .int x6), (4, .int x3), (5, .int x7)]) hx hb dL_parallels_47 hl (by decide) rfl (fun ls hl => ?_)
              refine lv_iload_n hx hb dL_parallels_49 rfl (lv_at hl 2 rfl) ?_
              refine lv_if_ne (tgt := 58) hx hb dL_parallels_50 (by decide) (fun c11 => ?_) (fun c11 => ?_)
              · rw [if_neg c11] at h
                refine lv_aload_n hx hb dL_parallels_58 rfl (lv_at hl 3 rfl) ?_
                refine lv_iconst (v := 5) hx hb dL_parallels_59 rfl ?_
                refine lv_iload_n hx hb dL_parallels_60 rfl (lv_at hl 2 rfl) ?_
                refine lv_imul hx hb dL_parallels_61 ?_
                refine lv_iconst (v := 4) hx hb dL_parallels_62 rfl ?_
                refine lv_isub hx hb dL_parallels_63 ?_
                refine lv_iload hx hb dL_parallels_64 (lv_at hl 6 rfl) ?_
                refine lv_iadd hx hb dL_parallels_66 ?_
                obtain ⟨v12, hv12, h⟩ := hy_bind h
                obtain ⟨nv12, hv12⟩ := ldE_some hv12
                refine hy_iald (T := (Mc, M, Mo)) hx hb hX hP 31 60 (M.1 31) (hy34 G (by decide)) rfl nv12 dL_parallels_67 ?_
                rw [hv12]
                refine lv_istore (lv' := [(8, .int v12), (7, .int v10), (6, .int v9), (0, .int a1), (1, .ref (adr G 31)), (2, .int x5), (3, .int x6), (4, .int x3), (5, .int x7)]) hx hb dL_parallels_68 hl (by decide) rfl (fun ls hl => ?_)
                refine lv_iload_n hx hb dL_parallels_70 rfl (lv_at hl 3 rfl) ?_
                refine lv_if_ne (tgt := 79) hx hb dL_parallels_71 (by decide) (fun c13 => ?_) (fun c13 => ?_)
                · rw [if_neg c13] at h
                  refine lv_aload_n hx hb dL_parallels_79 rfl (lv_at hl 4 rfl) ?_
                  refine lv_iconst (v := 5) hx hb dL_parallels_80 rfl ?_
                  refine lv_iload_n hx hb dL_parallels_81 rfl (lv_at hl 3 rfl) ?_
                  refine lv_imul hx hb dL_parallels_82 ?_
                  refine lv_iconst (v := 4) hx hb dL_parallels_83 rfl ?_
                  refine lv_isub hx hb dL_parallels_84 ?_
                  refine lv_iload hx hb dL_parallels_85 (lv_at hl 8 rfl) ?_
                  refine lv_iadd hx hb dL_parallels_87 ?_
                  obtain ⟨v14, hv14, h⟩ := hy_bind h
                  obtain ⟨nv14, hv14⟩ := ldE_some hv14
                  refine hy_iald (T := (Mc, M, Mo)) hx hb hX hP 31 60 (M.1 31) (hy34 G (by decide)) rfl nv14 dL_parallels_88 ?_
                  rw [hv14]
                  refine lv_istore (lv' := [(9, .int v14), (8, .int v12), (7, .int v10), (6, .int v9), (0, .int a1), (1, .ref (adr G 31)), (2, .int x5), (3, .int x6), (4, .int x3), (5, .int x7)]) hx hb dL_parallels_89 hl (by decide) rfl (fun ls hl => ?_)
                  refine lv_iload hx hb dL_parallels_91 (lv_at hl 3 rfl) ?_
                  refine lv_iload hx hb dL_parallels_93 (lv_at hl 2 rfl) ?_
                  refine lv_isub hx hb dL_parallels_95 ?_
                  refine lv_bipush (v := 120) hx hb dL_parallels_96 rfl ?_
                  refine lv_iadd hx hb dL_parallels_98 ?_
                  refine lv_bipush (v := 12) hx hb dL_parallels_99 rfl ?_
                  refine lv_irem hx hb dL_parallels_101 (by decide) ?_
                  refine lv_iload hx hb dL_parallels_102 (lv_at hl 1 rfl) ?_
                  refine lv_iload hx hb dL_parallels_104 (lv_at hl 0 rfl) ?_
                  refine lv_isub hx hb dL_parallels_106 ?_
                  refine lv_bipush (v := 120) hx hb dL_parallels_107 rfl ?_
                  refine lv_iadd hx hb dL_parallels_109 ?_
                  refine lv_bipush (v := 12) hx hb dL_parallels_110 rfl ?_
                  refine lv_irem hx hb dL_parallels_112 (by decide) ?_
                  have J26 : ∀ (H : Heap) (locs : List Loc) (ls : Array Slot) (u1 : Int32), u1 = (bI (if (((v9 - v10) + 120) - ((v9 - v10) + 120) / 12 * 12) = (((v12 - v14) + 120) - ((v12 - v14) + 120) / 12 * 12) then (if (((v9 - v10) + 120) - ((v9 - v10) + 120) / 12 * 12) = 0 then true else (decide ((((v9 - v10) + 120) - ((v9 - v10) + 120) / 12 * 12) = 7))) else false)) → va_P G.1 vwCl (wld G (Mc, M, Mo)) H → va_S (hyA G) s.heap H locs → lv_has ls 11 [(0, .int a1), (1, .ref (adr G 31)), (2, .int x5), (3, .int x6), (4, .int x3), (5, .int x7), (6, .int v9), (7, .int v10), (8, .int v12), (9, .int v14)] → W p l e { frames := 0, cells := 0, slots := 6 * 0, locals := 0 } s m ([.int a1, .ref (adr G 31)] : List Value).toArray below meth c H locs 0 0 (vx_MQ below (hyQ G (.inr (some (.int res)), (Mc, M, Mo))) (hyXQ G (.inr (some (.int res)), (Mc, M, Mo))) ([.int a1, .ref (adr G 31)] : List Value).toArray s 0 (6 * 0) (hyA G)) (F0 m 151 ls [.int u1]) := by
                    intro H locs ls u1 eu1 hP hS hl
                    subst eu1
                    refine lv_istore (lv' := [(10, .int (bI (if (((v9 - v10) + 120) - ((v9 - v10) + 120) / 12 * 12) = (((v12 - v14) + 120) - ((v12 - v14) + 120) / 12 * 12) then (if (((v9 - v10) + 120) - ((v9 - v10) + 120) / 12 * 12) = 0 then true else (decide ((((v9 - v10) + 120) - ((v9 - v10) + 120) / 12 * 12) = 7))) else false))), (0, .int a1), (1, .ref (adr G 31)), (2, .int x5), (3, .int x6), (4, .int x3), (5, .int x7), (6, .int v9), (7, .int v10), (8, .int v12), (9, .int v14)]) hx hb dL_parallels_151 hl (by decide) rfl (fun ls hl => ?_)
                    refine lv_iload_n hx hb dL_parallels_153 rfl (lv_at hl 3 rfl) ?_
                    refine lv_iload hx hb dL_parallels_154 (lv_at hl 0 rfl) ?_
                    have J25 : ∀ (H : Heap) (locs : List Loc) (ls : Array Slot) (u1 : Int32), u1 = ((if (if (((v9 - v10) + 120) - ((v9 - v10) + 120) / 12 * 12) = (((v12 - v14) + 120) - ((v12 - v14) + 120) / 12 * 12) then (if (((v9 - v10) + 120) - ((v9 - v10) + 120) / 12 * 12) = 0 then true else (decide ((((v9 - v10) + 120) - ((v9 - v10) + 120) / 12 * 12) = 7))) else false) then (if v9 ≤ v12 then (if v12 ≤ v9 then 0 else (if v14 ≤ v10 then 0 else ((1 : Int32) <<< (x6 &&& 31)))) else (if v14 < v10 then ((1 : Int32) <<< (x6 &&& 31)) else (if v12 ≤ v9 then 0 else (if v14 ≤ v10 then 0 else ((1 : Int32) <<< (x6 &&& 31)))))) else 0) : Int32) → va_P G.1 vwCl (wld G (Mc, M, Mo)) H → va_S (hyA G) s.heap H locs → lv_has ls 11 [(0, .int a1), (1, .ref (adr G 31)), (2, .int x5), (3, .int x6), (4, .int x3), (5, .int x7), (6, .int v9), (7, .int v10), (8, .int v12), (9, .int v14), (10, .int (bI (if (((v9 - v10) + 120) - ((v9 - v10) + 120) / 12 * 12) = (((v12 - v14) + 120) - ((v12 - v14) + 120) / 12 * 12) then (if (((v9 - v10) + 120) - ((v9 - v10) + 120) / 12 * 12) = 0 then true else (decide ((((v9 - v10) + 120) - ((v9 - v10) + 120) / 12 * 12) = 7))) else false)))] → W p l e { frames := 0, cells := 0, slots := 6 * 0, locals := 0 } s m ([.int a1, .ref (adr G 31)] : List Value).toArray below meth c H locs 0 0 (vx_MQ below (hyQ G (.inr (some (.int res)), (Mc, M, Mo))) (hyXQ G (.inr (some (.int res)), (Mc, M, Mo))) ([.int a1, .ref (adr G 31)] : List Value).toArray s 0 (6 * 0) (hyA G)) (F0 m 194 ls [.int u1, .int x5]) := by
                      intro H locs ls u1 eu1 hP hS hl
                      subst eu1
                      refine lv_ior hx hb dL_parallels_194 ?_
                      refine lv_istore_n (lv' := [(2, .int (x5 ||| ((if (if (((v9 - v10) + 120) - ((v9 - v10) + 120) / 12 * 12) = (((v12 - v14) + 120) - ((v12 - v14) + 120) / 12 * 12) then (if (((v9 - v10) + 120) - ((v9 - v10) + 120) / 12 * 12) = 0 then true else (decide ((((v9 - v10) + 120) - ((v9 - v10) + 120) / 12 * 12) = 7))) else false) then (if v9 ≤ v12 then (if v12 ≤ v9 then 0 else (if v14 ≤ v10 then 0 else ((1 : Int32) <<< (x6 &&& 31)))) else (if v14 < v10 then ((1 : Int32) <<< (x6 &&& 31)) else (if v12 ≤ v9 then 0 else (if v14 ≤ v10 then 0 else ((1 : Int32) <<< (x6 &&& 31)))))) else 0) : Int32))), (0, .int a1), (1, .ref (adr G 31)), (3, .int x6), (4, .int x3), (5, .int x7), (6, .int v9), (7, .int v10), (8, .int v12), (9, .int v14), (10, .int (bI (if (((v9 - v10) + 120) - ((v9 - v10) + 120) / 12 * 12) = (((v12 - v14) + 120) - ((v12 - v14) + 120) / 12 * 12) then (if (((v9 - v10) + 120) - ((v9 - v10) + 120) / 12 * 12) = 0 then true else (decide ((((v9 - v10) + 120) - ((v9 - v10) + 120) / 12 * 12) = 7))) else false)))]) hx hb dL_parallels_195 rfl hl (by decide) rfl (fun ls hl => ?_)
                      refine lv_iinc (v := (x6 + 1)) (lv' := [(3, .int (x6 + 1)), (2, .int (x5 ||| ((if (if (((v9 - v10) + 120) - ((v9 - v10) + 120) / 12 * 12) = (((v12 - v14) + 120) - ((v12 - v14) + 120) / 12 * 12) then (if (((v9 - v10) + 120) - ((v9 - v10) + 120) / 12 * 12) = 0 then true else (decide ((((v9 - v10) + 120) - ((v9 - v10) + 120) / 12 * 12) = 7))) else false) then (if v9 ≤ v12 then (if v12 ≤ v9 then 0 else (if v14 ≤ v10 then 0 else ((1 : Int32) <<< (x6 &&& 31)))) else (if v14 < v10 then ((1 : Int32) <<< (x6 &&& 31)) else (if v12 ≤ v9 then 0 else (if v14 ≤ v10 then 0 else ((1 : Int32) <<< (x6 &&& 31)))))) else 0) : Int32))), (0, .int a1), (1, .ref (adr G 31)), (4, .int x3), (5, .int x7), (6, .int v9), (7, .int v10), (8, .int v12), (9, .int v14), (10, .int (bI (if (((v9 - v10) + 120) - ((v9 - v10) + 120) / 12 * 12) = (((v12 - v14) + 120) - ((v12 - v14) + 120) / 12 * 12) then (if (((v9 - v10) + 120) - ((v9 - v10) + 120) / 12 * 12) = 0 then true else (decide ((((v9 - v10) + 120) - ((v9 - v10) + 120) / 12 * 12) = 7))) else false)))]) hx hb dL_parallels_196 hl (k := 3) rfl rfl (by decide) rfl (fun ls hl => ?_)
                      refine lv_iinc (v := (x7 + 1)) (lv' := [(5, .int (x7 + 1)), (3, .int (x6 + 1)), (2, .int (x5 ||| ((if (if (((v9 - v10) + 120) - ((v9 - v10) + 120) / 12 * 12) = (((v12 - v14) + 120) - ((v12 - v14) + 120) / 12 * 12) then (if (((v9 - v10) + 120) - ((v9 - v10) + 120) / 12 * 12) = 0 then true else (decide ((((v9 - v10) + 120) - ((v9 - v10) + 120) / 12 * 12) = 7))) else false) then (if v9 ≤ v12 then (if v12 ≤ v9 then 0 else (if v14 ≤ v10 then 0 else ((1 : Int32) <<< (x6 &&& 31)))) else (if v14 < v10 then ((1 : Int32) <<< (x6 &&& 31)) else (if v12 ≤ v9 then 0 else (if v14 ≤ v10 then 0 else ((1 : Int32) <<< (x6 &&& 31)))))) else 0) : Int32))), (0, .int a1), (1, .ref (adr G 31)), (4, .int x3), (6, .int v9), (7, .int v10), (8, .int v12), (9, .int v14), (10, .int (bI (if (((v9 - v10) + 120) - ((v9 - v10) + 120) / 12 * 12) = (((v12 - v14) + 120) - ((v12 - v14) + 120) / 12 * 12) then (if (((v9 - v10) + 120) - ((v9 - v10) + 120) / 12 * 12) = 0 then true else (decide ((((v9 - v10) + 120) - ((v9 - v10) + 120) / 12 * 12) = 7))) else false)))]) hx hb dL_parallels_199 hl (k := 5) rfl rfl (by decide) rfl (fun ls hl => ?_)
                      refine lv_goto (tgt := 19) hx hb dL_parallels_202 (by decide) ?_
                      exact ih (x5 ||| ((if (if (((v9 - v10) + 120) - ((v9 - v10) + 120) / 12 * 12) = (((v12 - v14) + 120) - ((v12 - v14) + 120) / 12 * 12) then (if (((v9 - v10) + 120) - ((v9 - v10) + 120) / 12 * 12) = 0 then true else (decide ((((v9 - v10) + 120) - ((v9 - v10) + 120) / 12 * 12) = 7))) else false) then (if v9 ≤ v12 then (if v12 ≤ v9 then 0 else (if v14 ≤ v10 then 0 else ((1 : Int32) <<< (x6 &&& 31)))) else (if v14 < v10 then ((1 : Int32) <<< (x6 &&& 31)) else (if v12 ≤ v9 then 0 else (if v14 ≤ v10 then 0 else ((1 : Int32) <<< (x6 &&& 31)))))) else 0) : Int32)) (x6 + 1) (x7 + 1) _ h  _ _ ls hP hS (lv_sub hl [3, 4, 2, 1, 5, 0] rfl) kk
                    refine lv_if_eq (tgt := 193) hx hb dL_parallels_156 (by decide) (fun c18 => ?_) (fun c18 => ?_)
                    · refine lv_iconst (v := 0) hx hb dL_parallels_193 rfl ?_
                      exact J25 _ _ ls 0 (by rw [if_neg (bI_0 c18)] <;> rfl) hP hS (lv_sub hl [1, 2, 3, 4, 5, 6, 7, 8, 9, 10, 0] rfl)
                    · refine lv_iload hx hb dL_parallels_159 (lv_at hl 7 rfl) ?_
                      refine lv_iload hx hb dL_parallels_161 (lv_at hl 9 rfl) ?_
                      refine lv_icmp_le (tgt := 173) hx hb dL_parallels_163 (by decide) (fun c19 => ?_) (fun c19 => ?_)
                      · refine lv_iload hx hb dL_parallels_173 (lv_at hl 7 rfl) ?_
                        refine lv_iload hx hb dL_parallels_175 (lv_at hl 9 rfl) ?_
                        refine lv_icmp_ge (tgt := 193) hx hb dL_parallels_177 (by decide) (fun c20 => ?_) (fun c20 => ?_)
                        · refine lv_iconst (v := 0) hx hb dL_parallels_193 rfl ?_
                          exact J25 _ _ ls 0 (by rw [if_pos (bI_1 c18), if_pos c19, if_pos c20] <;> rfl) hP hS (lv_sub hl [1, 2, 3, 4, 5, 6, 7, 8, 9, 10, 0] rfl)
                        · refine lv_iload hx hb dL_parallels_180 (lv_at hl 8 rfl) ?_
                          refine lv_iload hx hb dL_parallels_182 (lv_at hl 10 rfl) ?_
                          refine lv_icmp_ge (tgt := 193) hx hb dL_parallels_184 (by decide) (fun c21 => ?_) (fun c21 => ?_)
                          · refine lv_iconst (v := 0) hx hb dL_parallels_193 rfl ?_
                            exact J25 _ _ ls 0 (by rw [if_pos (bI_1 c18), if_pos c19, if_neg c20, if_pos c21] <;> rfl) hP hS (lv_sub hl [1, 2, 3, 4, 5, 6, 7, 8, 9, 10, 0] rfl)
                          · refine lv_iconst (v := 1) hx hb dL_parallels_187 rfl ?_
                            refine lv_iload_n hx hb dL_parallels_188 rfl (lv_at hl 4 rfl) ?_
                            refine lv_ishl hx hb dL_parallels_189 ?_
                            refine lv_goto (tgt := 194) hx hb dL_parallels_190 (by decide) ?_
                            exact J25 _ _ ls ((1 : Int32) <<< (x6 &&& 31)) (by rw [if_pos (bI_1 c18), if_pos c19, if_neg c20, if_neg c21] <;> rfl) hP hS (lv_sub hl [1, 2, 3, 4, 5, 6, 7, 8, 9, 10, 0] rfl)
                      · refine lv_iload hx hb dL_parallels_166 (lv_at hl 8 rfl) ?_
                        refine lv_iload hx hb dL_parallels_168 (lv_at hl 10 rfl) ?_
                        refine lv_icmp_gt (tgt := 187) hx hb dL_parallels_170 (by decide) (fun c22 => ?_) (fun c22 => ?_)
                        · refine lv_iconst (v := 1) hx hb dL_parallels_187 rfl ?_
                          refine lv_iload_n hx hb dL_parallels_188 rfl (lv_at hl 4 rfl) ?_
                          refine lv_ishl hx hb dL_parallels_189 ?_
                          refine lv_goto (tgt := 194) hx hb dL_parallels_190 (by decide) ?_
                          exact J25 _ _ ls ((1 : Int32) <<< (x6 &&& 31)) (by rw [if_pos (bI_1 c18), if_neg c19, if_pos c22] <;> rfl) hP hS (lv_sub hl [1, 2, 3, 4, 5, 6, 7, 8, 9, 10, 0] rfl)
                        · refine lv_iload hx hb dL_parallels_173 (lv_at hl 7 rfl) ?_
                          refine lv_iload hx hb dL_parallels_175 (lv_at hl 9 rfl) ?_
                          refine lv_icmp_ge (tgt := 193) hx hb dL_parallels_177 (by decide) (fun c23 => ?_) (fun c23 => ?_)
                          · refine lv_iconst (v := 0) hx hb dL_parallels_193 rfl ?_
                            exact J25 _ _ ls 0 (by rw [if_pos (bI_1 c18), if_neg c19, if_neg c22, if_pos c23] <;> rfl) hP hS (lv_sub hl [1, 2, 3, 4, 5, 6, 7, 8, 9, 10, 0] rfl)
                          · refine lv_iload hx hb dL_parallels_180 (lv_at hl 8 rfl) ?_
                            refine lv_iload hx hb dL_parallels_182 (lv_at hl 10 rfl) ?_
                            refine lv_icmp_ge (tgt := 193) hx hb dL_parallels_184 (by decide) (fun c24 => ?_) (fun c24 => ?_)
                            · refine lv_iconst (v := 0) hx hb dL_parallels_193 rfl ?_
                              exact J25 _ _ ls 0 (by rw [if_pos (bI_1 c18), if_neg c19, if_neg c22, if_neg c23, if_pos c24] <;> rfl) hP hS (lv_sub hl [1, 2, 3, 4, 5, 6, 7, 8, 9, 10, 0] rfl)
                            · refine lv_iconst (v := 1) hx hb dL_parallels_187 rfl ?_
                              refine lv_iload_n hx hb dL_parallels_188 rfl (lv_at hl 4 rfl) ?_
                              refine lv_ishl hx hb dL_parallels_189 ?_
                              refine lv_goto (tgt := 194) hx hb dL_parallels_190 (by decide) ?_
                              exact J25 _ _ ls ((1 : Int32) <<< (x6 &&& 31)) (by rw [if_pos (bI_1 c18), if_neg c19, if_neg c22, if_neg c23, if_neg c24] <;> rfl) hP hS (lv_sub hl [1, 2, 3, 4, 5, 6, 7, 8, 9, 10, 0] rfl)
                  refine lv_icmp_ne (tgt := 150) hx hb dL_parallels_113 (by decide) (fun c15 => ?_) (fun c15 => ?_)
                  · refine lv_iconst (v := 0) hx hb dL_parallels_150 rfl ?_
                    exact J26 _ _ ls 0 (by rw [if_neg c15] <;> rfl) hP hS (lv_sub hl [4, 5, 6, 7, 8, 9, 3, 2, 1, 0] rfl)
                  · refine lv_iload hx hb dL_parallels_116 (lv_at hl 3 rfl) ?_
                    refine lv_iload hx hb dL_parallels_118 (lv_at hl 2 rfl) ?_
                    refine lv_isub hx hb dL_parallels_120 ?_
                    refine lv_bipush (v := 120) hx hb dL_parallels_121 rfl ?_
                    refine lv_iadd hx hb dL_parallels_123 ?_
                    refine lv_bipush (v := 12) hx hb dL_parallels_124 rfl ?_
                    refine lv_irem hx hb dL_parallels_126 (by decide) ?_
                    refine lv_if_eq (tgt := 146) hx hb dL_parallels_127 (by decide) (fun c16 => ?_) (fun c16 => ?_)
                    · refine lv_iconst (v := 1) hx hb dL_parallels_146 rfl ?_
                      refine lv_goto (tgt := 151) hx hb dL_parallels_147 (by decide) ?_
                      exact J26 _ _ ls 1 (by rw [if_pos c15, if_pos c16] <;> rfl) hP hS (lv_sub hl [4, 5, 6, 7, 8, 9, 3, 2, 1, 0] rfl)
                    · refine lv_iload hx hb dL_parallels_130 (lv_at hl 3 rfl) ?_
                      refine lv_iload hx hb dL_parallels_132 (lv_at hl 2 rfl) ?_
                      refine lv_isub hx hb dL_parallels_134 ?_
                      refine lv_bipush (v := 120) hx hb dL_parallels_135 rfl ?_
                      refine lv_iadd hx hb dL_parallels_137 ?_
                      refine lv_bipush (v := 12) hx hb dL_parallels_138 rfl ?_
                      refine lv_irem hx hb dL_parallels_140 (by decide) ?_
                      refine lv_bipush (v := 7) hx hb dL_parallels_141 rfl ?_
                      refine lv_icmp_ne (tgt := 150) hx hb dL_parallels_143 (by decide) (fun c17 => ?_) (fun c17 => ?_)
                      · refine lv_iconst (v := 0) hx hb dL_parallels_150 rfl ?_
                        exact J26 _ _ ls 0 (by rw [if_pos c15, if_neg c16, decide_eq_false c17] <;> rfl) hP hS (lv_sub hl [4, 5, 6, 7, 8, 9, 3, 2, 1, 0] rfl)
                      · refine lv_iconst (v := 1) hx hb dL_parallels_146 rfl ?_
                        refine lv_goto (tgt := 151) hx hb dL_parallels_147 (by decide) ?_
                        exact J26 _ _ ls 1 (by rw [if_pos c15, if_neg c16, decide_eq_true c17] <;> rfl) hP hS (lv_sub hl [4, 5, 6, 7, 8, 9, 3, 2, 1, 0] rfl)
                · rw [if_pos (c13)] at h
                  refine lv_iload hx hb dL_parallels_74 (lv_at hl 1 rfl) ?_
                  refine lv_goto (tgt := 89) hx hb dL_parallels_76 (by decide) ?_
                  refine lv_istore (lv' := [(9, .int v10), (8, .int v12), (7, .int v10), (6, .int v9), (0, .int a1), (1, .ref (adr G 31)), (2, .int x5), (3, .int x6), (4, .int x3), (5, .int x7)]) hx hb dL_parallels_89 hl (by decide) rfl (fun ls hl => ?_)
                  refine lv_iload hx hb dL_parallels_91 (lv_at hl 3 rfl) ?_
                  refine lv_iload hx hb dL_parallels_93 (lv_at hl 2 rfl) ?_
                  refine lv_isub hx hb dL_parallels_95 ?_
                  refine lv_bipush (v := 120) hx hb dL_parallels_96 rfl ?_
                  refine lv_iadd hx hb dL_parallels_98 ?_
                  refine lv_bipush (v := 12) hx hb dL_parallels_99 rfl ?_
                  refine lv_irem hx hb dL_parallels_101 (by decide) ?_
                  refine lv_iload hx hb dL_parallels_102 (lv_at hl 1 rfl) ?_
                  refine lv_iload hx hb dL_parallels_104 (lv_at hl 0 rfl) ?_
                  refine lv_isub hx hb dL_parallels_106 ?_
                  refine lv_bipush (v := 120) hx hb dL_parallels_107 rfl ?_
                  refine lv_iadd hx hb dL_parallels_109 ?_
                  refine lv_bipush (v := 12) hx hb dL_parallels_110 rfl ?_
                  refine lv_irem hx hb dL_parallels_112 (by decide) ?_
                  have J38 : ∀ (H : Heap) (locs : List Loc) (ls : Array Slot) (u1 : Int32), u1 = (bI (if (((v9 - v10) + 120) - ((v9 - v10) + 120) / 12 * 12) = (((v12 - v10) + 120) - ((v12 - v10) + 120) / 12 * 12) then (if (((v9 - v10) + 120) - ((v9 - v10) + 120) / 12 * 12) = 0 then true else (decide ((((v9 - v10) + 120) - ((v9 - v10) + 120) / 12 * 12) = 7))) else false)) → va_P G.1 vwCl (wld G (Mc, M, Mo)) H → va_S (hyA G) s.heap H locs → lv_has ls 11 [(0, .int a1), (1, .ref (adr G 31)), (2, .int x5), (3, .int x6), (4, .int x3), (5, .int x7), (6, .int v9), (7, .int v10), (8, .int v12), (9, .int v10)] → W p l e { frames := 0, cells := 0, slots := 6 * 0, locals := 0 } s m ([.int a1, .ref (adr G 31)] : List Value).toArray below meth c H locs 0 0 (vx_MQ below (hyQ G (.inr (some (.int res)), (Mc, M, Mo))) (hyXQ G (.inr (some (.int res)), (Mc, M, Mo))) ([.int a1, .ref (adr G 31)] : List Value).toArray s 0 (6 * 0) (hyA G)) (F0 m 151 ls [.int u1]) := by
                    intro H locs ls u1 eu1 hP hS hl
                    subst eu1
                    refine lv_istore (lv' := [(10, .int (bI (if (((v9 - v10) + 120) - ((v9 - v10) + 120) / 12 * 12) = (((v12 - v10) + 120) - ((v12 - v10) + 120) / 12 * 12) then (if (((v9 - v10) + 120) - ((v9 - v10) + 120) / 12 * 12) = 0 then true else (decide ((((v9 - v10) + 120) - ((v9 - v10) + 120) / 12 * 12) = 7))) else false))), (0, .int a1), (1, .ref (adr G 31)), (2, .int x5), (3, .int x6), (4, .int x3), (5, .int x7), (6, .int v9), (7, .int v10), (8, .int v12), (9, .int v10)]) hx hb dL_parallels_151 hl (by decide) rfl (fun ls hl => ?_)
                    refine lv_iload_n hx hb dL_parallels_153 rfl (lv_at hl 3 rfl) ?_
                    refine lv_iload hx hb dL_parallels_154 (lv_at hl 0 rfl) ?_
                    have J37 : ∀ (H : Heap) (locs : List Loc) (ls : Array Slot) (u1 : Int32), u1 = ((if (if (((v9 - v10) + 120) - ((v9 - v10) + 120) / 12 * 12) = (((v12 - v10) + 120) - ((v12 - v10) + 120) / 12 * 12) then (if (((v9 - v10) + 120) - ((v9 - v10) + 120) / 12 * 12) = 0 then true else (decide ((((v9 - v10) + 120) - ((v9 - v10) + 120) / 12 * 12) = 7))) else false) then (if v9 ≤ v12 then (if v12 ≤ v9 then 0 else (if v10 ≤ v10 then 0 else ((1 : Int32) <<< (x6 &&& 31)))) else (if v10 < v10 then ((1 : Int32) <<< (x6 &&& 31)) else (if v12 ≤ v9 then 0 else (if v10 ≤ v10 then 0 else ((1 : Int32) <<< (x6 &&& 31)))))) else 0) : Int32) → va_P G.1 vwCl (wld G (Mc, M, Mo)) H → va_S (hyA G) s.heap H locs → lv_has ls 11 [(0, .int a1), (1, .ref (adr G 31)), (2, .int x5), (3, .int x6), (4, .int x3), (5, .int x7), (6, .int v9), (7, .int v10), (8, .int v12), (9, .int v10), (10, .int (bI (if (((v9 - v10) + 120) - ((v9 - v10) + 120) / 12 * 12) = (((v12 - v10) + 120) - ((v12 - v10) + 120) / 12 * 12) then (if (((v9 - v10) + 120) - ((v9 - v10) + 120) / 12 * 12) = 0 then true else (decide ((((v9 - v10) + 120) - ((v9 - v10) + 120) / 12 * 12) = 7))) else false)))] → W p l e { frames := 0, cells := 0, slots := 6 * 0, locals := 0 } s m ([.int a1, .ref (adr G 31)] : List Value).toArray below meth c H locs 0 0 (vx_MQ below (hyQ G (.inr (some (.int res)), (Mc, M, Mo))) (hyXQ G (.inr (some (.int res)), (Mc, M, Mo))) ([.int a1, .ref (adr G 31)] : List Value).toArray s 0 (6 * 0) (hyA G)) (F0 m 194 ls [.int u1, .int x5]) := by
                      intro H locs ls u1 eu1 hP hS hl
                      subst eu1
                      refine lv_ior hx hb dL_parallels_194 ?_
                      refine lv_istore_n (lv' := [(2, .int (x5 ||| ((if (if (((v9 - v10) + 120) - ((v9 - v10) + 120) / 12 * 12) = (((v12 - v10) + 120) - ((v12 - v10) + 120) / 12 * 12) then (if (((v9 - v10) + 120) - ((v9 - v10) + 120) / 12 * 12) = 0 then true else (decide ((((v9 - v10) + 120) - ((v9 - v10) + 120) / 12 * 12) = 7))) else false) then (if v9 ≤ v12 then (if v12 ≤ v9 then 0 else (if v10 ≤ v10 then 0 else ((1 : Int32) <<< (x6 &&& 31)))) else (if v10 < v10 then ((1 : Int32) <<< (x6 &&& 31)) else (if v12 ≤ v9 then 0 else (if v10 ≤ v10 then 0 else ((1 : Int32) <<< (x6 &&& 31)))))) else 0) : Int32))), (0, .int a1), (1, .ref (adr G 31)), (3, .int x6), (4, .int x3), (5, .int x7), (6, .int v9), (7, .int v10), (8, .int v12), (9, .int v10), (10, .int (bI (if (((v9 - v10) + 120) - ((v9 - v10) + 120) / 12 * 12) = (((v12 - v10) + 120) - ((v12 - v10) + 120) / 12 * 12) then (if (((v9 - v10) + 120) - ((v9 - v10) + 120) / 12 * 12) = 0 then true else (decide ((((v9 - v10) + 120) - ((v9 - v10) + 120) / 12 * 12) = 7))) else false)))]) hx hb dL_parallels_195 rfl hl (by decide) rfl (fun ls hl => ?_)
                      refine lv_iinc (v := (x6 + 1)) (lv' := [(3, .int (x6 + 1)), (2, .int (x5 ||| ((if (if (((v9 - v10) + 120) - ((v9 - v10) + 120) / 12 * 12) = (((v12 - v10) + 120) - ((v12 - v10) + 120) / 12 * 12) then (if (((v9 - v10) + 120) - ((v9 - v10) + 120) / 12 * 12) = 0 then true else (decide ((((v9 - v10) + 120) - ((v9 - v10) + 120) / 12 * 12) = 7))) else false) then (if v9 ≤ v12 then (if v12 ≤ v9 then 0 else (if v10 ≤ v10 then 0 else ((1 : Int32) <<< (x6 &&& 31)))) else (if v10 < v10 then ((1 : Int32) <<< (x6 &&& 31)) else (if v12 ≤ v9 then 0 else (if v10 ≤ v10 then 0 else ((1 : Int32) <<< (x6 &&& 31)))))) else 0) : Int32))), (0, .int a1), (1, .ref (adr G 31)), (4, .int x3), (5, .int x7), (6, .int v9), (7, .int v10), (8, .int v12), (9, .int v10), (10, .int (bI (if (((v9 - v10) + 120) - ((v9 - v10) + 120) / 12 * 12) = (((v12 - v10) + 120) - ((v12 - v10) + 120) / 12 * 12) then (if (((v9 - v10) + 120) - ((v9 - v10) + 120) / 12 * 12) = 0 then true else (decide ((((v9 - v10) + 120) - ((v9 - v10) + 120) / 12 * 12) = 7))) else false)))]) hx hb dL_parallels_196 hl (k := 3) rfl rfl (by decide) rfl (fun ls hl => ?_)
                      refine lv_iinc (v := (x7 + 1)) (lv' := [(5, .int (x7 + 1)), (3, .int (x6 + 1)), (2, .int (x5 ||| ((if (if (((v9 - v10) + 120) - ((v9 - v10) + 120) / 12 * 12) = (((v12 - v10) + 120) - ((v12 - v10) + 120) / 12 * 12) then (if (((v9 - v10) + 120) - ((v9 - v10) + 120) / 12 * 12) = 0 then true else (decide ((((v9 - v10) + 120) - ((v9 - v10) + 120) / 12 * 12) = 7))) else false) then (if v9 ≤ v12 then (if v12 ≤ v9 then 0 else (if v10 ≤ v10 then 0 else ((1 : Int32) <<< (x6 &&& 31)))) else (if v10 < v10 then ((1 : Int32) <<< (x6 &&& 31)) else (if v12 ≤ v9 then 0 else (if v10 ≤ v10 then 0 else ((1 : Int32) <<< (x6 &&& 31)))))) else 0) : Int32))), (0, .int a1), (1, .ref (adr G 31)), (4, .int x3), (6, .int v9), (7, .int v10), (8, .int v12), (9, .int v10), (10, .int (bI (if (((v9 - v10) + 120) - ((v9 - v10) + 120) / 12 * 12) = (((v12 - v10) + 120) - ((v12 - v10) + 120) / 12 * 12) then (if (((v9 - v10) + 120) - ((v9 - v10) + 120) / 12 * 12) = 0 then true else (decide ((((v9 - v10) + 120) - ((v9 - v10) + 120) / 12 * 12) = 7))) else false)))]) hx hb dL_parallels_199 hl (k := 5) rfl rfl (by decide) rfl (fun ls hl => ?_)
                      refine lv_goto (tgt := 19) hx hb dL_parallels_202 (by decide) ?_
                      exact ih (x5 ||| ((if (if (((v9 - v10) + 120) - ((v9 - v10) + 120) / 12 * 12) = (((v12 - v10) + 120) - ((v12 - v10) + 120) / 12 * 12) then (if (((v9 - v10) + 120) - ((v9 - v10) + 120) / 12 * 12) = 0 then true else (decide ((((v9 - v10) + 120) - ((v9 - v10) + 120) / 12 * 12) = 7))) else false) then (if v9 ≤ v12 then (if v12 ≤ v9 then 0 else (if v10 ≤ v10 then 0 else ((1 : Int32) <<< (x6 &&& 31)))) else (if v10 < v10 then ((1 : Int32) <<< (x6 &&& 31)) else (if v12 ≤ v9 then 0 else (if v10 ≤ v10 then 0 else ((1 : Int32) <<< (x6 &&& 31)))))) else 0) : Int32)) (x6 + 1) (x7 + 1) _ h  _ _ ls hP hS (lv_sub hl [3, 4, 2, 1, 5, 0] rfl) kk
                    refine lv_if_eq (tgt := 193) hx hb dL_parallels_156 (by decide) (fun c30 => ?_) (fun c30 => ?_)
                    · refine lv_iconst (v := 0) hx hb dL_parallels_193 rfl ?_
                      exact J37 _ _ ls 0 (by rw [if_neg (bI_0 c30)] <;> rfl) hP hS (lv_sub hl [1, 2, 3, 4, 5, 6, 7, 8, 9, 10, 0] rfl)
                    · refine lv_iload hx hb dL_parallels_159 (lv_at hl 7 rfl) ?_
                      refine lv_iload hx hb dL_parallels_161 (lv_at hl 9 rfl) ?_
                      refine lv_icmp_le (tgt := 173) hx hb dL_parallels_163 (by decide) (fun c31 => ?_) (fun c31 => ?_)
                      · refine lv_iload hx hb dL_parallels_173 (lv_at hl 7 rfl) ?_
                        refine lv_iload hx hb dL_parallels_175 (lv_at hl 9 rfl) ?_
                        refine lv_icmp_ge (tgt := 193) hx hb dL_parallels_177 (by decide) (fun c32 => ?_) (fun c32 => ?_)
                        · refine lv_iconst (v := 0) hx hb dL_parallels_193 rfl ?_
                          exact J37 _ _ ls 0 (by rw [if_pos (bI_1 c30), if_pos c31, if_pos c32] <;> rfl) hP hS (lv_sub hl [1, 2, 3, 4, 5, 6, 7, 8, 9, 10, 0] rfl)
                        · refine lv_iload hx hb dL_parallels_180 (lv_at hl 8 rfl) ?_
                          refine lv_iload hx hb dL_parallels_182 (lv_at hl 10 rfl) ?_
                          refine lv_icmp_ge (tgt := 193) hx hb dL_parallels_184 (by decide) (fun c33 => ?_) (fun c33 => ?_)
                          · refine lv_iconst (v := 0) hx hb dL_parallels_193 rfl ?_
                            exact J37 _ _ ls 0 (by rw [if_pos (bI_1 c30), if_pos c31, if_neg c32, if_pos c33] <;> rfl) hP hS (lv_sub hl [1, 2, 3, 4, 5, 6, 7, 8, 9, 10, 0] rfl)
                          · refine lv_iconst (v := 1) hx hb dL_parallels_187 rfl ?_
                            refine lv_iload_n hx hb dL_parallels_188 rfl (lv_at hl 4 rfl) ?_
                            refine lv_ishl hx hb dL_parallels_189 ?_
                            refine lv_goto (tgt := 194) hx hb dL_parallels_190 (by decide) ?_
                            exact J37 _ _ ls ((1 : Int32) <<< (x6 &&& 31)) (by rw [if_pos (bI_1 c30), if_pos c31, if_neg c32, if_neg c33] <;> rfl) hP hS (lv_sub hl [1, 2, 3, 4, 5, 6, 7, 8, 9, 10, 0] rfl)
                      · refine lv_iload hx hb dL_parallels_166 (lv_at hl 8 rfl) ?_
                        refine lv_iload hx hb dL_parallels_168 (lv_at hl 10 rfl) ?_
                        refine lv_icmp_gt (tgt := 187) hx hb dL_parallels_170 (by decide) (fun c34 => ?_) (fun c34 => ?_)
                        · refine lv_iconst (v := 1) hx hb dL_parallels_187 rfl ?_
                          refine lv_iload_n hx hb dL_parallels_188 rfl (lv_at hl 4 rfl) ?_
                          refine lv_ishl hx hb dL_parallels_189 ?_
                          refine lv_goto (tgt := 194) hx hb dL_parallels_190 (by decide) ?_
                          exact J37 _ _ ls ((1 : Int32) <<< (x6 &&& 31)) (by rw [if_pos (bI_1 c30), if_neg c31, if_pos c34] <;> rfl) hP hS (lv_sub hl [1, 2, 3, 4, 5, 6, 7, 8, 9, 10, 0] rfl)
                        · refine lv_iload hx hb dL_parallels_173 (lv_at hl 7 rfl) ?_
                          refine lv_iload hx hb dL_parallels_175 (lv_at hl 9 rfl) ?_
                          refine lv_icmp_ge (tgt := 193) hx hb dL_parallels_177 (by decide) (fun c35 => ?_) (fun c35 => ?_)
                          · refine lv_iconst (v := 0) hx hb dL_parallels_193 rfl ?_
                            exact J37 _ _ ls 0 (by rw [if_pos (bI_1 c30), if_neg c31, if_neg c34, if_pos c35] <;> rfl) hP hS (lv_sub hl [1, 2, 3, 4, 5, 6, 7, 8, 9, 10, 0] rfl)
                          · refine lv_iload hx hb dL_parallels_180 (lv_at hl 8 rfl) ?_
                            refine lv_iload hx hb dL_parallels_182 (lv_at hl 10 rfl) ?_
                            refine lv_icmp_ge (tgt := 193) hx hb dL_parallels_184 (by decide) (fun c36 => ?_) (fun c36 => ?_)
                            · refine lv_iconst (v := 0) hx hb dL_parallels_193 rfl ?_
                              exact J37 _ _ ls 0 (by rw [if_pos (bI_1 c30), if_neg c31, if_neg c34, if_neg c35, if_pos c36] <;> rfl) hP hS (lv_sub hl [1, 2, 3, 4, 5, 6, 7, 8, 9, 10, 0] rfl)
                            · refine lv_iconst (v := 1) hx hb dL_parallels_187 rfl ?_
                              refine lv_iload_n hx hb dL_parallels_188 rfl (lv_at hl 4 rfl) ?_
                              refine lv_ishl hx hb dL_parallels_189 ?_
                              refine lv_goto (tgt := 194) hx hb dL_parallels_190 (by decide) ?_
                              exact J37 _ _ ls ((1 : Int32) <<< (x6 &&& 31)) (by rw [if_pos (bI_1 c30), if_neg c31, if_neg c34, if_neg c35, if_neg c36] <;> rfl) hP hS (lv_sub hl [1, 2, 3, 4, 5, 6, 7, 8, 9, 10, 0] rfl)
                  refine lv_icmp_ne (tgt := 150) hx hb dL_parallels_113 (by decide) (fun c27 => ?_) (fun c27 => ?_)
                  · refine lv_iconst (v := 0) hx hb dL_parallels_150 rfl ?_
                    exact J38 _ _ ls 0 (by rw [if_neg c27] <;> rfl) hP hS (lv_sub hl [4, 5, 6, 7, 8, 9, 3, 2, 1, 0] rfl)
                  · refine lv_iload hx hb dL_parallels_116 (lv_at hl 3 rfl) ?_
                    refine lv_iload hx hb dL_parallels_118 (lv_at hl 2 rfl) ?_
                    refine lv_isub hx hb dL_parallels_120 ?_
                    refine lv_bipush (v := 120) hx hb dL_parallels_121 rfl ?_
                    refine lv_iadd hx hb dL_parallels_123 ?_
                    refine lv_bipush (v := 12) hx hb dL_parallels_124 rfl ?_
                    refine lv_irem hx hb dL_parallels_126 (by decide) ?_
                    refine lv_if_eq (tgt := 146) hx hb dL_parallels_127 (by decide) (fun c28 => ?_) (fun c28 => ?_)
                    · refine lv_iconst (v := 1) hx hb dL_parallels_146 rfl ?_
                      refine lv_goto (tgt := 151) hx hb dL_parallels_147 (by decide) ?_
                      exact J38 _ _ ls 1 (by rw [if_pos c27, if_pos c28] <;> rfl) hP hS (lv_sub hl [4, 5, 6, 7, 8, 9, 3, 2, 1, 0] rfl)
                    · refine lv_iload hx hb dL_parallels_130 (lv_at hl 3 rfl) ?_
                      refine lv_iload hx hb dL_parallels_132 (lv_at hl 2 rfl) ?_
                      refine lv_isub hx hb dL_parallels_134 ?_
                      refine lv_bipush (v := 120) hx hb dL_parallels_135 rfl ?_
                      refine lv_iadd hx hb dL_parallels_137 ?_
                      refine lv_bipush (v := 12) hx hb dL_parallels_138 rfl ?_
                      refine lv_irem hx hb dL_parallels_140 (by decide) ?_
                      refine lv_bipush (v := 7) hx hb dL_parallels_141 rfl ?_
                      refine lv_icmp_ne (tgt := 150) hx hb dL_parallels_143 (by decide) (fun c29 => ?_) (fun c29 => ?_)
                      · refine lv_iconst (v := 0) hx hb dL_parallels_150 rfl ?_
                        exact J38 _ _ ls 0 (by rw [if_pos c27, if_neg c28, decide_eq_false c29] <;> rfl) hP hS (lv_sub hl [4, 5, 6, 7, 8, 9, 3, 2, 1, 0] rfl)
                      · refine lv_iconst (v := 1) hx hb dL_parallels_146 rfl ?_
                        refine lv_goto (tgt := 151) hx hb dL_parallels_147 (by decide) ?_
                        exact J38 _ _ ls 1 (by rw [if_pos c27, if_neg c28, decide_eq_true c29] <;> rfl) hP hS (lv_sub hl [4, 5, 6, 7, 8, 9, 3, 2, 1, 0] rfl)
              · rw [if_pos (c11)] at h
                refine lv_iload hx hb dL_parallels_53 (lv_at hl 1 rfl) ?_
                refine lv_goto (tgt := 68) hx hb dL_parallels_55 (by decide) ?_
                refine lv_istore (lv' := [(8, .int v9), (7, .int v10), (6, .int v9), (0, .int a1), (1, .ref (adr G 31)), (2, .int x5), (3, .int x6), (4, .int x3), (5, .int x7)]) hx hb dL_parallels_68 hl (by decide) rfl (fun ls hl => ?_)
                refine lv_iload_n hx hb dL_parallels_70 rfl (lv_at hl 3 rfl) ?_
                refine lv_if_ne (tgt := 79) hx hb dL_parallels_71 (by decide) (fun c39 => ?_) (fun c39 => ?_)
                · rw [if_neg c39] at h
                  refine lv_aload_n hx hb dL_parallels_79 rfl (lv_at hl 4 rfl) ?_
                  refine lv_iconst (v := 5) hx hb dL_parallels_80 rfl ?_
                  refine lv_iload_n hx hb dL_parallels_81 rfl (lv_at hl 3 rfl) ?_
                  refine lv_imul hx hb dL_parallels_82 ?_
                  refine lv_iconst (v := 4) hx hb dL_parallels_83 rfl ?_
                  refine lv_isub hx hb dL_parallels_84 ?_
                  refine lv_iload hx hb dL_parallels_85 (lv_at hl 8 rfl) ?_
                  refine lv_iadd hx hb dL_parallels_87 ?_
                  obtain ⟨v40, hv40, h⟩ := hy_bind h
                  obtain ⟨nv40, hv40⟩ := ldE_some hv40
                  refine hy_iald (T := (Mc, M, Mo)) hx hb hX hP 31 60 (M.1 31) (hy34 G (by decide)) rfl nv40 dL_parallels_88 ?_
                  rw [hv40]
                  refine lv_istore (lv' := [(9, .int v40), (8, .int v9), (7, .int v10), (6, .int v9), (0, .int a1), (1, .ref (adr G 31)), (2, .int x5), (3, .int x6), (4, .int x3), (5, .int x7)]) hx hb dL_parallels_89 hl (by decide) rfl (fun ls hl => ?_)
                  refine lv_iload hx hb dL_parallels_91 (lv_at hl 3 rfl) ?_
                  refine lv_iload hx hb dL_parallels_93 (lv_at hl 2 rfl) ?_
                  refine lv_isub hx hb dL_parallels_95 ?_
                  refine lv_bipush (v := 120) hx hb dL_parallels_96 rfl ?_
                  refine lv_iadd hx hb dL_parallels_98 ?_
                  refine lv_bipush (v := 12) hx hb dL_parallels_99 rfl ?_
                  refine lv_irem hx hb dL_parallels_101 (by decide) ?_
                  refine lv_iload hx hb dL_parallels_102 (lv_at hl 1 rfl) ?_
                  refine lv_iload hx hb dL_parallels_104 (lv_at hl 0 rfl) ?_
                  refine lv_isub hx hb dL_parallels_106 ?_
                  refine lv_bipush (v := 120) hx hb dL_parallels_107 rfl ?_
                  refine lv_iadd hx hb dL_parallels_109 ?_
                  refine lv_bipush (v := 12) hx hb dL_parallels_110 rfl ?_
                  refine lv_irem hx hb dL_parallels_112 (by decide) ?_
                  have J52 : ∀ (H : Heap) (locs : List Loc) (ls : Array Slot) (u1 : Int32), u1 = (bI (if (((v9 - v10) + 120) - ((v9 - v10) + 120) / 12 * 12) = (((v9 - v40) + 120) - ((v9 - v40) + 120) / 12 * 12) then (if (((v9 - v10) + 120) - ((v9 - v10) + 120) / 12 * 12) = 0 then true else (decide ((((v9 - v10) + 120) - ((v9 - v10) + 120) / 12 * 12) = 7))) else false)) → va_P G.1 vwCl (wld G (Mc, M, Mo)) H → va_S (hyA G) s.heap H locs → lv_has ls 11 [(0, .int a1), (1, .ref (adr G 31)), (2, .int x5), (3, .int x6), (4, .int x3), (5, .int x7), (6, .int v9), (7, .int v10), (8, .int v9), (9, .int v40)] → W p l e { frames := 0, cells := 0, slots := 6 * 0, locals := 0 } s m ([.int a1, .ref (adr G 31)] : List Value).toArray below meth c H locs 0 0 (vx_MQ below (hyQ G (.inr (some (.int res)), (Mc, M, Mo))) (hyXQ G (.inr (some (.int res)), (Mc, M, Mo))) ([.int a1, .ref (adr G 31)] : List Value).toArray s 0 (6 * 0) (hyA G)) (F0 m 151 ls [.int u1]) := by
                    intro H locs ls u1 eu1 hP hS hl
                    subst eu1
                    refine lv_istore (lv' := [(10, .int (bI (if (((v9 - v10) + 120) - ((v9 - v10) + 120) / 12 * 12) = (((v9 - v40) + 120) - ((v9 - v40) + 120) / 12 * 12) then (if (((v9 - v10) + 120) - ((v9 - v10) + 120) / 12 * 12) = 0 then true else (decide ((((v9 - v10) + 120) - ((v9 - v10) + 120) / 12 * 12) = 7))) else false))), (0, .int a1), (1, .ref (adr G 31)), (2, .int x5), (3, .int x6), (4, .int x3), (5, .int x7), (6, .int v9), (7, .int v10), (8, .int v9), (9, .int v40)]) hx hb dL_parallels_151 hl (by decide) rfl (fun ls hl => ?_)
                    refine lv_iload_n hx hb dL_parallels_153 rfl (lv_at hl 3 rfl) ?_
                    refine lv_iload hx hb dL_parallels_154 (lv_at hl 0 rfl) ?_
                    have J51 : ∀ (H : Heap) (locs : List Loc) (ls : Array Slot) (u1 : Int32), u1 = ((if (if (((v9 - v10) + 120) - ((v9 - v10) + 120) / 12 * 12) = (((v9 - v40) + 120) - ((v9 - v40) + 120) / 12 * 12) then (if (((v9 - v10) + 120) - ((v9 - v10) + 120) / 12 * 12) = 0 then true else (decide ((((v9 - v10) + 120) - ((v9 - v10) + 120) / 12 * 12) = 7))) else false) then (if v9 ≤ v9 then (if v9 ≤ v9 then 0 else (if v40 ≤ v10 then 0 else ((1 : Int32) <<< (x6 &&& 31)))) else (if v40 < v10 then ((1 : Int32) <<< (x6 &&& 31)) else (if v9 ≤ v9 then 0 else (if v40 ≤ v10 then 0 else ((1 : Int32) <<< (x6 &&& 31)))))) else 0) : Int32) → va_P G.1 vwCl (wld G (Mc, M, Mo)) H → va_S (hyA G) s.heap H locs → lv_has ls 11 [(0, .int a1), (1, .ref (adr G 31)), (2, .int x5), (3, .int x6), (4, .int x3), (5, .int x7), (6, .int v9), (7, .int v10), (8, .int v9), (9, .int v40), (10, .int (bI (if (((v9 - v10) + 120) - ((v9 - v10) + 120) / 12 * 12) = (((v9 - v40) + 120) - ((v9 - v40) + 120) / 12 * 12) then (if (((v9 - v10) + 120) - ((v9 - v10) + 120) / 12 * 12) = 0 then true else (decide ((((v9 - v10) + 120) - ((v9 - v10) + 120) / 12 * 12) = 7))) else false)))] → W p l e { frames := 0, cells := 0, slots := 6 * 0, locals := 0 } s m ([.int a1, .ref (adr G 31)] : List Value).toArray below meth c H locs 0 0 (vx_MQ below (hyQ G (.inr (some (.int res)), (Mc, M, Mo))) (hyXQ G (.inr (some (.int res)), (Mc, M, Mo))) ([.int a1, .ref (adr G 31)] : List Value).toArray s 0 (6 * 0) (hyA G)) (F0 m 194 ls [.int u1, .int x5]) := by
                      intro H locs ls u1 eu1 hP hS hl
                      subst eu1
                      refine lv_ior hx hb dL_parallels_194 ?_
                      refine lv_istore_n (lv' := [(2, .int (x5 ||| ((if (if (((v9 - v10) + 120) - ((v9 - v10) + 120) / 12 * 12) = (((v9 - v40) + 120) - ((v9 - v40) + 120) / 12 * 12) then (if (((v9 - v10) + 120) - ((v9 - v10) + 120) / 12 * 12) = 0 then true else (decide ((((v9 - v10) + 120) - ((v9 - v10) + 120) / 12 * 12) = 7))) else false) then (if v9 ≤ v9 then (if v9 ≤ v9 then 0 else (if v40 ≤ v10 then 0 else ((1 : Int32) <<< (x6 &&& 31)))) else (if v40 < v10 then ((1 : Int32) <<< (x6 &&& 31)) else (if v9 ≤ v9 then 0 else (if v40 ≤ v10 then 0 else ((1 : Int32) <<< (x6 &&& 31)))))) else 0) : Int32))), (0, .int a1), (1, .ref (adr G 31)), (3, .int x6), (4, .int x3), (5, .int x7), (6, .int v9), (7, .int v10), (8, .int v9), (9, .int v40), (10, .int (bI (if (((v9 - v10) + 120) - ((v9 - v10) + 120) / 12 * 12) = (((v9 - v40) + 120) - ((v9 - v40) + 120) / 12 * 12) then (if (((v9 - v10) + 120) - ((v9 - v10) + 120) / 12 * 12) = 0 then true else (decide ((((v9 - v10) + 120) - ((v9 - v10) + 120) / 12 * 12) = 7))) else false)))]) hx hb dL_parallels_195 rfl hl (by decide) rfl (fun ls hl => ?_)
                      refine lv_iinc (v := (x6 + 1)) (lv' := [(3, .int (x6 + 1)), (2, .int (x5 ||| ((if (if (((v9 - v10) + 120) - ((v9 - v10) + 120) / 12 * 12) = (((v9 - v40) + 120) - ((v9 - v40) + 120) / 12 * 12) then (if (((v9 - v10) + 120) - ((v9 - v10) + 120) / 12 * 12) = 0 then true else (decide ((((v9 - v10) + 120) - ((v9 - v10) + 120) / 12 * 12) = 7))) else false) then (if v9 ≤ v9 then (if v9 ≤ v9 then 0 else (if v40 ≤ v10 then 0 else ((1 : Int32) <<< (x6 &&& 31)))) else (if v40 < v10 then ((1 : Int32) <<< (x6 &&& 31)) else (if v9 ≤ v9 then 0 else (if v40 ≤ v10 then 0 else ((1 : Int32) <<< (x6 &&& 31)))))) else 0) : Int32))), (0, .int a1), (1, .ref (adr G 31)), (4, .int x3), (5, .int x7), (6, .int v9), (7, .int v10), (8, .int v9), (9, .int v40), (10, .int (bI (if (((v9 - v10) + 120) - ((v9 - v10) + 120) / 12 * 12) = (((v9 - v40) + 120) - ((v9 - v40) + 120) / 12 * 12) then (if (((v9 - v10) + 120) - ((v9 - v10) + 120) / 12 * 12) = 0 then true else (decide ((((v9 - v10) + 120) - ((v9 - v10) + 120) / 12 * 12) = 7))) else false)))]) hx hb dL_parallels_196 hl (k := 3) rfl rfl (by decide) rfl (fun ls hl => ?_)
                      refine lv_iinc (v := (x7 + 1)) (lv' := [(5, .int (x7 + 1)), (3, .int (x6 + 1)), (2, .int (x5 ||| ((if (if (((v9 - v10) + 120) - ((v9 - v10) + 120) / 12 * 12) = (((v9 - v40) + 120) - ((v9 - v40) + 120) / 12 * 12) then (if (((v9 - v10) + 120) - ((v9 - v10) + 120) / 12 * 12) = 0 then true else (decide ((((v9 - v10) + 120) - ((v9 - v10) + 120) / 12 * 12) = 7))) else false) then (if v9 ≤ v9 then (if v9 ≤ v9 then 0 else (if v40 ≤ v10 then 0 else ((1 : Int32) <<< (x6 &&& 31)))) else (if v40 < v10 then ((1 : Int32) <<< (x6 &&& 31)) else (if v9 ≤ v9 then 0 else (if v40 ≤ v10 then 0 else ((1 : Int32) <<< (x6 &&& 31)))))) else 0) : Int32))), (0, .int a1), (1, .ref (adr G 31)), (4, .int x3), (6, .int v9), (7, .int v10), (8, .int v9), (9, .int v40), (10, .int (bI (if (((v9 - v10) + 120) - ((v9 - v10) + 120) / 12 * 12) = (((v9 - v40) + 120) - ((v9 - v40) + 120) / 12 * 12) then (if (((v9 - v10) + 120) - ((v9 - v10) + 120) / 12 * 12) = 0 then true else (decide ((((v9 - v10) + 120) - ((v9 - v10) + 120) / 12 * 12) = 7))) else false)))]) hx hb dL_parallels_199 hl (k := 5) rfl rfl (by decide) rfl (fun ls hl => ?_)
                      refine lv_goto (tgt := 19) hx hb dL_parallels_202 (by decide) ?_
                      exact ih (x5 ||| ((if (if (((v9 - v10) + 120) - ((v9 - v10) + 120) / 12 * 12) = (((v9 - v40) + 120) - ((v9 - v40) + 120) / 12 * 12) then (if (((v9 - v10) + 120) - ((v9 - v10) + 120) / 12 * 12) = 0 then true else (decide ((((v9 - v10) + 120) - ((v9 - v10) + 120) / 12 * 12) = 7))) else false) then (if v9 ≤ v9 then (if v9 ≤ v9 then 0 else (if v40 ≤ v10 then 0 else ((1 : Int32) <<< (x6 &&& 31)))) else (if v40 < v10 then ((1 : Int32) <<< (x6 &&& 31)) else (if v9 ≤ v9 then 0 else (if v40 ≤ v10 then 0 else ((1 : Int32) <<< (x6 &&& 31)))))) else 0) : Int32)) (x6 + 1) (x7 + 1) _ h  _ _ ls hP hS (lv_sub hl [3, 4, 2, 1, 5, 0] rfl) kk
                    refine lv_if_eq (tgt := 193) hx hb dL_parallels_156 (by decide) (fun c44 => ?_) (fun c44 => ?_)
                    · refine lv_iconst (v := 0) hx hb dL_parallels_193 rfl ?_
                      exact J51 _ _ ls 0 (by rw [if_neg (bI_0 c44)] <;> rfl) hP hS (lv_sub hl [1, 2, 3, 4, 5, 6, 7, 8, 9, 10, 0] rfl)
                    · refine lv_iload hx hb dL_parallels_159 (lv_at hl 7 rfl) ?_
                      refine lv_iload hx hb dL_parallels_161 (lv_at hl 9 rfl) ?_
                      refine lv_icmp_le (tgt := 173) hx hb dL_parallels_163 (by decide) (fun c45 => ?_) (fun c45 => ?_)
                      · refine lv_iload hx hb dL_parallels_173 (lv_at hl 7 rfl) ?_
                        refine lv_iload hx hb dL_parallels_175 (lv_at hl 9 rfl) ?_
                        refine lv_icmp_ge (tgt := 193) hx hb dL_parallels_177 (by decide) (fun c46 => ?_) (fun c46 => ?_)
                        · refine lv_iconst (v := 0) hx hb dL_parallels_193 rfl ?_
                          exact J51 _ _ ls 0 (by rw [if_pos (bI_1 c44), if_pos c45, if_pos c46] <;> rfl) hP hS (lv_sub hl [1, 2, 3, 4, 5, 6, 7, 8, 9, 10, 0] rfl)
                        · refine lv_iload hx hb dL_parallels_180 (lv_at hl 8 rfl) ?_
                          refine lv_iload hx hb dL_parallels_182 (lv_at hl 10 rfl) ?_
                          refine lv_icmp_ge (tgt := 193) hx hb dL_parallels_184 (by decide) (fun c47 => ?_) (fun c47 => ?_)
                          · refine lv_iconst (v := 0) hx hb dL_parallels_193 rfl ?_
                            exact J51 _ _ ls 0 (by rw [if_pos (bI_1 c44), if_pos c45, if_neg c46, if_pos c47] <;> rfl) hP hS (lv_sub hl [1, 2, 3, 4, 5, 6, 7, 8, 9, 10, 0] rfl)
                          · refine lv_iconst (v := 1) hx hb dL_parallels_187 rfl ?_
                            refine lv_iload_n hx hb dL_parallels_188 rfl (lv_at hl 4 rfl) ?_
                            refine lv_ishl hx hb dL_parallels_189 ?_
                            refine lv_goto (tgt := 194) hx hb dL_parallels_190 (by decide) ?_
                            exact J51 _ _ ls ((1 : Int32) <<< (x6 &&& 31)) (by rw [if_pos (bI_1 c44), if_pos c45, if_neg c46, if_neg c47] <;> rfl) hP hS (lv_sub hl [1, 2, 3, 4, 5, 6, 7, 8, 9, 10, 0] rfl)
                      · refine lv_iload hx hb dL_parallels_166 (lv_at hl 8 rfl) ?_
                        refine lv_iload hx hb dL_parallels_168 (lv_at hl 10 rfl) ?_
                        refine lv_icmp_gt (tgt := 187) hx hb dL_parallels_170 (by decide) (fun c48 => ?_) (fun c48 => ?_)
                        · refine lv_iconst (v := 1) hx hb dL_parallels_187 rfl ?_
                          refine lv_iload_n hx hb dL_parallels_188 rfl (lv_at hl 4 rfl) ?_
                          refine lv_ishl hx hb dL_parallels_189 ?_
                          refine lv_goto (tgt := 194) hx hb dL_parallels_190 (by decide) ?_
                          exact J51 _ _ ls ((1 : Int32) <<< (x6 &&& 31)) (by rw [if_pos (bI_1 c44), if_neg c45, if_pos c48] <;> rfl) hP hS (lv_sub hl [1, 2, 3, 4, 5, 6, 7, 8, 9, 10, 0] rfl)
                        · refine lv_iload hx hb dL_parallels_173 (lv_at hl 7 rfl) ?_
                          refine lv_iload hx hb dL_parallels_175 (lv_at hl 9 rfl) ?_
                          refine lv_icmp_ge (tgt := 193) hx hb dL_parallels_177 (by decide) (fun c49 => ?_) (fun c49 => ?_)
                          · refine lv_iconst (v := 0) hx hb dL_parallels_193 rfl ?_
                            exact J51 _ _ ls 0 (by rw [if_pos (bI_1 c44), if_neg c45, if_neg c48, if_pos c49] <;> rfl) hP hS (lv_sub hl [1, 2, 3, 4, 5, 6, 7, 8, 9, 10, 0] rfl)
                          · refine lv_iload hx hb dL_parallels_180 (lv_at hl 8 rfl) ?_
                            refine lv_iload hx hb dL_parallels_182 (lv_at hl 10 rfl) ?_
                            refine lv_icmp_ge (tgt := 193) hx hb dL_parallels_184 (by decide) (fun c50 => ?_) (fun c50 => ?_)
                            · refine lv_iconst (v := 0) hx hb dL_parallels_193 rfl ?_
                              exact J51 _ _ ls 0 (by rw [if_pos (bI_1 c44), if_neg c45, if_neg c48, if_neg c49, if_pos c50] <;> rfl) hP hS (lv_sub hl [1, 2, 3, 4, 5, 6, 7, 8, 9, 10, 0] rfl)
                            · refine lv_iconst (v := 1) hx hb dL_parallels_187 rfl ?_
                              refine lv_iload_n hx hb dL_parallels_188 rfl (lv_at hl 4 rfl) ?_
                              refine lv_ishl hx hb dL_parallels_189 ?_
                              refine lv_goto (tgt := 194) hx hb dL_parallels_190 (by decide) ?_
                              exact J51 _ _ ls ((1 : Int32) <<< (x6 &&& 31)) (by rw [if_pos (bI_1 c44), if_neg c45, if_neg c48, if_neg c49, if_neg c50] <;> rfl) hP hS (lv_sub hl [1, 2, 3, 4, 5, 6, 7, 8, 9, 10, 0] rfl)
                  refine lv_icmp_ne (tgt := 150) hx hb dL_parallels_113 (by decide) (fun c41 => ?_) (fun c41 => ?_)
                  · refine lv_iconst (v := 0) hx hb dL_parallels_150 rfl ?_
                    exact J52 _ _ ls 0 (by rw [if_neg c41] <;> rfl) hP hS (lv_sub hl [4, 5, 6, 7, 8, 9, 3, 2, 1, 0] rfl)
                  · refine lv_iload hx hb dL_parallels_116 (lv_at hl 3 rfl) ?_
                    refine lv_iload hx hb dL_parallels_118 (lv_at hl 2 rfl) ?_
                    refine lv_isub hx hb dL_parallels_120 ?_
                    refine lv_bipush (v := 120) hx hb dL_parallels_121 rfl ?_
                    refine lv_iadd hx hb dL_parallels_123 ?_
                    refine lv_bipush (v := 12) hx hb dL_parallels_124 rfl ?_
                    refine lv_irem hx hb dL_parallels_126 (by decide) ?_
                    refine lv_if_eq (tgt := 146) hx hb dL_parallels_127 (by decide) (fun c42 => ?_) (fun c42 => ?_)
                    · refine lv_iconst (v := 1) hx hb dL_parallels_146 rfl ?_
                      refine lv_goto (tgt := 151) hx hb dL_parallels_147 (by decide) ?_
                      exact J52 _ _ ls 1 (by rw [if_pos c41, if_pos c42] <;> rfl) hP hS (lv_sub hl [4, 5, 6, 7, 8, 9, 3, 2, 1, 0] rfl)
                    · refine lv_iload hx hb dL_parallels_130 (lv_at hl 3 rfl) ?_
                      refine lv_iload hx hb dL_parallels_132 (lv_at hl 2 rfl) ?_
                      refine lv_isub hx hb dL_parallels_134 ?_
                      refine lv_bipush (v := 120) hx hb dL_parallels_135 rfl ?_
                      refine lv_iadd hx hb dL_parallels_137 ?_
                      refine lv_bipush (v := 12) hx hb dL_parallels_138 rfl ?_
                      refine lv_irem hx hb dL_parallels_140 (by decide) ?_
                      refine lv_bipush (v := 7) hx hb dL_parallels_141 rfl ?_
                      refine lv_icmp_ne (tgt := 150) hx hb dL_parallels_143 (by decide) (fun c43 => ?_) (fun c43 => ?_)
                      · refine lv_iconst (v := 0) hx hb dL_parallels_150 rfl ?_
                        exact J52 _ _ ls 0 (by rw [if_pos c41, if_neg c42, decide_eq_false c43] <;> rfl) hP hS (lv_sub hl [4, 5, 6, 7, 8, 9, 3, 2, 1, 0] rfl)
                      · refine lv_iconst (v := 1) hx hb dL_parallels_146 rfl ?_
                        refine lv_goto (tgt := 151) hx hb dL_parallels_147 (by decide) ?_
                        exact J52 _ _ ls 1 (by rw [if_pos c41, if_neg c42, decide_eq_true c43] <;> rfl) hP hS (lv_sub hl [4, 5, 6, 7, 8, 9, 3, 2, 1, 0] rfl)
                · rw [if_pos (c39)] at h
                  refine lv_iload hx hb dL_parallels_74 (lv_at hl 1 rfl) ?_
                  refine lv_goto (tgt := 89) hx hb dL_parallels_76 (by decide) ?_
                  refine lv_istore (lv' := [(9, .int v10), (8, .int v9), (7, .int v10), (6, .int v9), (0, .int a1), (1, .ref (adr G 31)), (2, .int x5), (3, .int x6), (4, .int x3), (5, .int x7)]) hx hb dL_parallels_89 hl (by decide) rfl (fun ls hl => ?_)
                  refine lv_iload hx hb dL_parallels_91 (lv_at hl 3 rfl) ?_
                  refine lv_iload hx hb dL_parallels_93 (lv_at hl 2 rfl) ?_
                  refine lv_isub hx hb dL_parallels_95 ?_
                  refine lv_bipush (v := 120) hx hb dL_parallels_96 rfl ?_
                  refine lv_iadd hx hb dL_parallels_98 ?_
                  refine lv_bipush (v := 12) hx hb dL_parallels_99 rfl ?_
                  refine lv_irem hx hb dL_parallels_101 (by decide) ?_
                  refine lv_iload hx hb dL_parallels_102 (lv_at hl 1 rfl) ?_
                  refine lv_iload hx hb dL_parallels_104 (lv_at hl 0 rfl) ?_
                  refine lv_isub hx hb dL_parallels_106 ?_
                  refine lv_bipush (v := 120) hx hb dL_parallels_107 rfl ?_
                  refine lv_iadd hx hb dL_parallels_109 ?_
                  refine lv_bipush (v := 12) hx hb dL_parallels_110 rfl ?_
                  refine lv_irem hx hb dL_parallels_112 (by decide) ?_
                  have J64 : ∀ (H : Heap) (locs : List Loc) (ls : Array Slot) (u1 : Int32), u1 = (bI (if (((v9 - v10) + 120) - ((v9 - v10) + 120) / 12 * 12) = (((v9 - v10) + 120) - ((v9 - v10) + 120) / 12 * 12) then (if (((v9 - v10) + 120) - ((v9 - v10) + 120) / 12 * 12) = 0 then true else (decide ((((v9 - v10) + 120) - ((v9 - v10) + 120) / 12 * 12) = 7))) else false)) → va_P G.1 vwCl (wld G (Mc, M, Mo)) H → va_S (hyA G) s.heap H locs → lv_has ls 11 [(0, .int a1), (1, .ref (adr G 31)), (2, .int x5), (3, .int x6), (4, .int x3), (5, .int x7), (6, .int v9), (7, .int v10), (8, .int v9), (9, .int v10)] → W p l e { frames := 0, cells := 0, slots := 6 * 0, locals := 0 } s m ([.int a1, .ref (adr G 31)] : List Value).toArray below meth c H locs 0 0 (vx_MQ below (hyQ G (.inr (some (.int res)), (Mc, M, Mo))) (hyXQ G (.inr (some (.int res)), (Mc, M, Mo))) ([.int a1, .ref (adr G 31)] : List Value).toArray s 0 (6 * 0) (hyA G)) (F0 m 151 ls [.int u1]) := by
                    intro H locs ls u1 eu1 hP hS hl
                    subst eu1
                    refine lv_istore (lv' := [(10, .int (bI (if (((v9 - v10) + 120) - ((v9 - v10) + 120) / 12 * 12) = (((v9 - v10) + 120) - ((v9 - v10) + 120) / 12 * 12) then (if (((v9 - v10) + 120) - ((v9 - v10) + 120) / 12 * 12) = 0 then true else (decide ((((v9 - v10) + 120) - ((v9 - v10) + 120) / 12 * 12) = 7))) else false))), (0, .int a1), (1, .ref (adr G 31)), (2, .int x5), (3, .int x6), (4, .int x3), (5, .int x7), (6, .int v9), (7, .int v10), (8, .int v9), (9, .int v10)]) hx hb dL_parallels_151 hl (by decide) rfl (fun ls hl => ?_)
                    refine lv_iload_n hx hb dL_parallels_153 rfl (lv_at hl 3 rfl) ?_
                    refine lv_iload hx hb dL_parallels_154 (lv_at hl 0 rfl) ?_
                    have J63 : ∀ (H : Heap) (locs : List Loc) (ls : Array Slot) (u1 : Int32), u1 = ((if (if (((v9 - v10) + 120) - ((v9 - v10) + 120) / 12 * 12) = (((v9 - v10) + 120) - ((v9 - v10) + 120) / 12 * 12) then (if (((v9 - v10) + 120) - ((v9 - v10) + 120) / 12 * 12) = 0 then true else (decide ((((v9 - v10) + 120) - ((v9 - v10) + 120) / 12 * 12) = 7))) else false) then (if v9 ≤ v9 then (if v9 ≤ v9 then 0 else (if v10 ≤ v10 then 0 else ((1 : Int32) <<< (x6 &&& 31)))) else (if v10 < v10 then ((1 : Int32) <<< (x6 &&& 31)) else (if v9 ≤ v9 then 0 else (if v10 ≤ v10 then 0 else ((1 : Int32) <<< (x6 &&& 31)))))) else 0) : Int32) → va_P G.1 vwCl (wld G (Mc, M, Mo)) H → va_S (hyA G) s.heap H locs → lv_has ls 11 [(0, .int a1), (1, .ref (adr G 31)), (2, .int x5), (3, .int x6), (4, .int x3), (5, .int x7), (6, .int v9), (7, .int v10), (8, .int v9), (9, .int v10), (10, .int (bI (if (((v9 - v10) + 120) - ((v9 - v10) + 120) / 12 * 12) = (((v9 - v10) + 120) - ((v9 - v10) + 120) / 12 * 12) then (if (((v9 - v10) + 120) - ((v9 - v10) + 120) / 12 * 12) = 0 then true else (decide ((((v9 - v10) + 120) - ((v9 - v10) + 120) / 12 * 12) = 7))) else false)))] → W p l e { frames := 0, cells := 0, slots := 6 * 0, locals := 0 } s m ([.int a1, .ref (adr G 31)] : List Value).toArray below meth c H locs 0 0 (vx_MQ below (hyQ G (.inr (some (.int res)), (Mc, M, Mo))) (hyXQ G (.inr (some (.int res)), (Mc, M, Mo))) ([.int a1, .ref (adr G 31)] : List Value).toArray s 0 (6 * 0) (hyA G)) (F0 m 194 ls [.int u1, .int x5]) := by
                      intro H locs ls u1 eu1 hP hS hl
                      subst eu1
                      refine lv_ior hx hb dL_parallels_194 ?_
                      refine lv_istore_n (lv' := [(2, .int (x5 ||| ((if (if (((v9 - v10) + 120) - ((v9 - v10) + 120) / 12 * 12) = (((v9 - v10) + 120) - ((v9 - v10) + 120) / 12 * 12) then (if (((v9 - v10) + 120) - ((v9 - v10) + 120) / 12 * 12) = 0 then true else (decide ((((v9 - v10) + 120) - ((v9 - v10) + 120) / 12 * 12) = 7))) else false) then (if v9 ≤ v9 then (if v9 ≤ v9 then 0 else (if v10 ≤ v10 then 0 else ((1 : Int32) <<< (x6 &&& 31)))) else (if v10 < v10 then ((1 : Int32) <<< (x6 &&& 31)) else (if v9 ≤ v9 then 0 else (if v10 ≤ v10 then 0 else ((1 : Int32) <<< (x6 &&& 31)))))) else 0) : Int32))), (0, .int a1), (1, .ref (adr G 31)), (3, .int x6), (4, .int x3), (5, .int x7), (6, .int v9), (7, .int v10), (8, .int v9), (9, .int v10), (10, .int (bI (if (((v9 - v10) + 120) - ((v9 - v10) + 120) / 12 * 12) = (((v9 - v10) + 120) - ((v9 - v10) + 120) / 12 * 12) then (if (((v9 - v10) + 120) - ((v9 - v10) + 120) / 12 * 12) = 0 then true else (decide ((((v9 - v10) + 120) - ((v9 - v10) + 120) / 12 * 12) = 7))) else false)))]) hx hb dL_parallels_195 rfl hl (by decide) rfl (fun ls hl => ?_)
                      refine lv_iinc (v := (x6 + 1)) (lv' := [(3, .int (x6 + 1)), (2, .int (x5 ||| ((if (if (((v9 - v10) + 120) - ((v9 - v10) + 120) / 12 * 12) = (((v9 - v10) + 120) - ((v9 - v10) + 120) / 12 * 12) then (if (((v9 - v10) + 120) - ((v9 - v10) + 120) / 12 * 12) = 0 then true else (decide ((((v9 - v10) + 120) - ((v9 - v10) + 120) / 12 * 12) = 7))) else false) then (if v9 ≤ v9 then (if v9 ≤ v9 then 0 else (if v10 ≤ v10 then 0 else ((1 : Int32) <<< (x6 &&& 31)))) else (if v10 < v10 then ((1 : Int32) <<< (x6 &&& 31)) else (if v9 ≤ v9 then 0 else (if v10 ≤ v10 then 0 else ((1 : Int32) <<< (x6 &&& 31)))))) else 0) : Int32))), (0, .int a1), (1, .ref (adr G 31)), (4, .int x3), (5, .int x7), (6, .int v9), (7, .int v10), (8, .int v9), (9, .int v10), (10, .int (bI (if (((v9 - v10) + 120) - ((v9 - v10) + 120) / 12 * 12) = (((v9 - v10) + 120) - ((v9 - v10) + 120) / 12 * 12) then (if (((v9 - v10) + 120) - ((v9 - v10) + 120) / 12 * 12) = 0 then true else (decide ((((v9 - v10) + 120) - ((v9 - v10) + 120) / 12 * 12) = 7))) else false)))]) hx hb dL_parallels_196 hl (k := 3) rfl rfl (by decide) rfl (fun ls hl => ?_)
                      refine lv_iinc (v := (x7 + 1)) (lv' := [(5, .int (x7 + 1)), (3, .int (x6 + 1)), (2, .int (x5 ||| ((if (if (((v9 - v10) + 120) - ((v9 - v10) + 120) / 12 * 12) = (((v9 - v10) + 120) - ((v9 - v10) + 120) / 12 * 12) then (if (((v9 - v10) + 120) - ((v9 - v10) + 120) / 12 * 12) = 0 then true else (decide ((((v9 - v10) + 120) - ((v9 - v10) + 120) / 12 * 12) = 7))) else false) then (if v9 ≤ v9 then (if v9 ≤ v9 then 0 else (if v10 ≤ v10 then 0 else ((1 : Int32) <<< (x6 &&& 31)))) else (if v10 < v10 then ((1 : Int32) <<< (x6 &&& 31)) else (if v9 ≤ v9 then 0 else (if v10 ≤ v10 then 0 else ((1 : Int32) <<< (x6 &&& 31)))))) else 0) : Int32))), (0, .int a1), (1, .ref (adr G 31)), (4, .int x3), (6, .int v9), (7, .int v10), (8, .int v9), (9, .int v10), (10, .int (bI (if (((v9 - v10) + 120) - ((v9 - v10) + 120) / 12 * 12) = (((v9 - v10) + 120) - ((v9 - v10) + 120) / 12 * 12) then (if (((v9 - v10) + 120) - ((v9 - v10) + 120) / 12 * 12) = 0 then true else (decide ((((v9 - v10) + 120) - ((v9 - v10) + 120) / 12 * 12) = 7))) else false)))]) hx hb dL_parallels_199 hl (k := 5) rfl rfl (by decide) rfl (fun ls hl => ?_)
                      refine lv_goto (tgt := 19) hx hb dL_parallels_202 (by decide) ?_
                      exact ih (x5 ||| ((if (if (((v9 - v10) + 120) - ((v9 - v10) + 120) / 12 * 12) = (((v9 - v10) + 120) - ((v9 - v10) + 120) / 12 * 12) then (if (((v9 - v10) + 120) - ((v9 - v10) + 120) / 12 * 12) = 0 then true else (decide ((((v9 - v10) + 120) - ((v9 - v10) + 120) / 12 * 12) = 7))) else false) then (if v9 ≤ v9 then (if v9 ≤ v9 then 0 else (if v10 ≤ v10 then 0 else ((1 : Int32) <<< (x6 &&& 31)))) else (if v10 < v10 then ((1 : Int32) <<< (x6 &&& 31)) else (if v9 ≤ v9 then 0 else (if v10 ≤ v10 then 0 else ((1 : Int32) <<< (x6 &&& 31)))))) else 0) : Int32)) (x6 + 1) (x7 + 1) _ h  _ _ ls hP hS (lv_sub hl [3, 4, 2, 1, 5, 0] rfl) kk
                    refine lv_if_eq (tgt := 193) hx hb dL_parallels_156 (by decide) (fun c56 => ?_) (fun c56 => ?_)
                    · refine lv_iconst (v := 0) hx hb dL_parallels_193 rfl ?_
                      exact J63 _ _ ls 0 (by rw [if_neg (bI_0 c56)] <;> rfl) hP hS (lv_sub hl [1, 2, 3, 4, 5, 6, 7, 8, 9, 10, 0] rfl)
                    · refine lv_iload hx hb dL_parallels_159 (lv_at hl 7 rfl) ?_
                      refine lv_iload hx hb dL_parallels_161 (lv_at hl 9 rfl) ?_
                      refine lv_icmp_le (tgt := 173) hx hb dL_parallels_163 (by decide) (fun c57 => ?_) (fun c57 => ?_)
                      · refine lv_iload hx hb dL_parallels_173 (lv_at hl 7 rfl) ?_
                        refine lv_iload hx hb dL_parallels_175 (lv_at hl 9 rfl) ?_
                        refine lv_icmp_ge (tgt := 193) hx hb dL_parallels_177 (by decide) (fun c58 => ?_) (fun c58 => ?_)
                        · refine lv_iconst (v := 0) hx hb dL_parallels_193 rfl ?_
                          exact J63 _ _ ls 0 (by rw [if_pos (bI_1 c56), if_pos c57, if_pos c58] <;> rfl) hP hS (lv_sub hl [1, 2, 3, 4, 5, 6, 7, 8, 9, 10, 0] rfl)
                        · refine lv_iload hx hb dL_parallels_180 (lv_at hl 8 rfl) ?_
                          refine lv_iload hx hb dL_parallels_182 (lv_at hl 10 rfl) ?_
                          refine lv_icmp_ge (tgt := 193) hx hb dL_parallels_184 (by decide) (fun c59 => ?_) (fun c59 => ?_)
                          · refine lv_iconst (v := 0) hx hb dL_parallels_193 rfl ?_
                            exact J63 _ _ ls 0 (by rw [if_pos (bI_1 c56), if_pos c57, if_neg c58, if_pos c59] <;> rfl) hP hS (lv_sub hl [1, 2, 3, 4, 5, 6, 7, 8, 9, 10, 0] rfl)
                          · refine lv_iconst (v := 1) hx hb dL_parallels_187 rfl ?_
                            refine lv_iload_n hx hb dL_parallels_188 rfl (lv_at hl 4 rfl) ?_
                            refine lv_ishl hx hb dL_parallels_189 ?_
                            refine lv_goto (tgt := 194) hx hb dL_parallels_190 (by decide) ?_
                            exact J63 _ _ ls ((1 : Int32) <<< (x6 &&& 31)) (by rw [if_pos (bI_1 c56), if_pos c57, if_neg c58, if_neg c59] <;> rfl) hP hS (lv_sub hl [1, 2, 3, 4, 5, 6, 7, 8, 9, 10, 0] rfl)
                      · refine lv_iload hx hb dL_parallels_166 (lv_at hl 8 rfl) ?_
                        refine lv_iload hx hb dL_parallels_168 (lv_at hl 10 rfl) ?_
                        refine lv_icmp_gt (tgt := 187) hx hb dL_parallels_170 (by decide) (fun c60 => ?_) (fun c60 => ?_)
                        · refine lv_iconst (v := 1) hx hb dL_parallels_187 rfl ?_
                          refine lv_iload_n hx hb dL_parallels_188 rfl (lv_at hl 4 rfl) ?_
                          refine lv_ishl hx hb dL_parallels_189 ?_
                          refine lv_goto (tgt := 194) hx hb dL_parallels_190 (by decide) ?_
                          exact J63 _ _ ls ((1 : Int32) <<< (x6 &&& 31)) (by rw [if_pos (bI_1 c56), if_neg c57, if_pos c60] <;> rfl) hP hS (lv_sub hl [1, 2, 3, 4, 5, 6, 7, 8, 9, 10, 0] rfl)
                        · refine lv_iload hx hb dL_parallels_173 (lv_at hl 7 rfl) ?_
                          refine lv_iload hx hb dL_parallels_175 (lv_at hl 9 rfl) ?_
                          refine lv_icmp_ge (tgt := 193) hx hb dL_parallels_177 (by decide) (fun c61 => ?_) (fun c61 => ?_)
                          · refine lv_iconst (v := 0) hx hb dL_parallels_193 rfl ?_
                            exact J63 _ _ ls 0 (by rw [if_pos (bI_1 c56), if_neg c57, if_neg c60, if_pos c61] <;> rfl) hP hS (lv_sub hl [1, 2, 3, 4, 5, 6, 7, 8, 9, 10, 0] rfl)
                          · refine lv_iload hx hb dL_parallels_180 (lv_at hl 8 rfl) ?_
                            refine lv_iload hx hb dL_parallels_182 (lv_at hl 10 rfl) ?_
                            refine lv_icmp_ge (tgt := 193) hx hb dL_parallels_184 (by decide) (fun c62 => ?_) (fun c62 => ?_)
                            · refine lv_iconst (v := 0) hx hb dL_parallels_193 rfl ?_
                              exact J63 _ _ ls 0 (by rw [if_pos (bI_1 c56), if_neg c57, if_neg c60, if_neg c61, if_pos c62] <;> rfl) hP hS (lv_sub hl [1, 2, 3, 4, 5, 6, 7, 8, 9, 10, 0] rfl)
                            · refine lv_iconst (v := 1) hx hb dL_parallels_187 rfl ?_
                              refine lv_iload_n hx hb dL_parallels_188 rfl (lv_at hl 4 rfl) ?_
                              refine lv_ishl hx hb dL_parallels_189 ?_
                              refine lv_goto (tgt := 194) hx hb dL_parallels_190 (by decide) ?_
                              exact J63 _ _ ls ((1 : Int32) <<< (x6 &&& 31)) (by rw [if_pos (bI_1 c56), if_neg c57, if_neg c60, if_neg c61, if_neg c62] <;> rfl) hP hS (lv_sub hl [1, 2, 3, 4, 5, 6, 7, 8, 9, 10, 0] rfl)
                  refine lv_icmp_ne (tgt := 150) hx hb dL_parallels_113 (by decide) (fun c53 => ?_) (fun c53 => ?_)
                  · refine lv_iconst (v := 0) hx hb dL_parallels_150 rfl ?_
                    exact J64 _ _ ls 0 (by rw [if_neg c53] <;> rfl) hP hS (lv_sub hl [4, 5, 6, 7, 8, 9, 3, 2, 1, 0] rfl)
                  · refine lv_iload hx hb dL_parallels_116 (lv_at hl 3 rfl) ?_
                    refine lv_iload hx hb dL_parallels_118 (lv_at hl 2 rfl) ?_
                    refine lv_isub hx hb dL_parallels_120 ?_
                    refine lv_bipush (v := 120) hx hb dL_parallels_121 rfl ?_
                    refine lv_iadd hx hb dL_parallels_123 ?_
                    refine lv_bipush (v := 12) hx hb dL_parallels_124 rfl ?_
                    refine lv_irem hx hb dL_parallels_126 (by decide) ?_
                    refine lv_if_eq (tgt := 146) hx hb dL_parallels_127 (by decide) (fun c54 => ?_) (fun c54 => ?_)
                    · refine lv_iconst (v := 1) hx hb dL_parallels_146 rfl ?_
                      refine lv_goto (tgt := 151) hx hb dL_parallels_147 (by decide) ?_
                      exact J64 _ _ ls 1 (by rw [if_pos c53, if_pos c54] <;> rfl) hP hS (lv_sub hl [4, 5, 6, 7, 8, 9, 3, 2, 1, 0] rfl)
                    · refine lv_iload hx hb dL_parallels_130 (lv_at hl 3 rfl) ?_
                      refine lv_iload hx hb dL_parallels_132 (lv_at hl 2 rfl) ?_
                      refine lv_isub hx hb dL_parallels_134 ?_
                      refine lv_bipush (v := 120) hx hb dL_parallels_135 rfl ?_
                      refine lv_iadd hx hb dL_parallels_137 ?_
                      refine lv_bipush (v := 12) hx hb dL_parallels_138 rfl ?_
                      refine lv_irem hx hb dL_parallels_140 (by decide) ?_
                      refine lv_bipush (v := 7) hx hb dL_parallels_141 rfl ?_
                      refine lv_icmp_ne (tgt := 150) hx hb dL_parallels_143 (by decide) (fun c55 => ?_) (fun c55 => ?_)
                      · refine lv_iconst (v := 0) hx hb dL_parallels_150 rfl ?_
                        exact J64 _ _ ls 0 (by rw [if_pos c53, if_neg c54, decide_eq_false c55] <;> rfl) hP hS (lv_sub hl [4, 5, 6, 7, 8, 9, 3, 2, 1, 0] rfl)
                      · refine lv_iconst (v := 1) hx hb dL_parallels_146 rfl ?_
                        refine lv_goto (tgt := 151) hx hb dL_parallels_147 (by decide) ?_
                        exact J64 _ _ ls 1 (by rw [if_pos c53, if_neg c54, decide_eq_true c55] <;> rfl) hP hS (lv_sub hl [4, 5, 6, 7, 8, 9, 3, 2, 1, 0] rfl)
        obtain ⟨q66, hq66, h⟩ := hy_bind h
        refine L65 hyFu x1 x2 (x3 + 1) q66 hq66 _ _ ls hP hS (lv_sub hl [1, 2, 3, 4, 5, 0] rfl) ?_
        intro y5 y6 y7 e9 H locs ls hP hS hl
        subst e9
        try dsimp only at h
        refine lv_iinc (v := (x3 + 1)) (lv' := [(4, .int (x3 + 1)), (0, .int a1), (1, .ref (adr G 31)), (2, .int y5), (3, .int y6), (5, .int y7)]) hx hb dL_parallels_205 hl (k := 4) rfl rfl (by decide) rfl (fun ls hl => ?_)
        refine lv_goto (tgt := 7) hx hb dL_parallels_208 (by decide) ?_
        exact ih y5 y6 (x3 + 1) _ h  _ _ ls hP hS (lv_sub hl [1, 2, 3, 4, 0] rfl) kk
  obtain ⟨q68, hq68, h⟩ := hy_bind h
  refine L67 hyFu 0 0 0 q68 hq68 _ _ ls hP hS (lv_sub hl [3, 4, 2, 1, 0] rfl) ?_
  intro y1 y2 y3 e9 H locs ls hP hS hl
  subst e9
  try dsimp only at h
  refine lv_iload_n hx hb dL_parallels_211 rfl (lv_at hl 2 rfl) ?_
  exact hy_iret (T := (Mc, M, Mo)) hx hb hr hlocks hP hS (Nat.zero_le _) (Nat.zero_le _) (by rw [← (Option.some.inj h)] <;> rfl) dL_parallels_212
