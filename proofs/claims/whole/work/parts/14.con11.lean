set_option maxHeartbeats 1000000 in
set_option maxRecDepth 100000 in
theorem c_Rf_addNote {l : Launch} {G : hyG} (Mc Mo : hyM) (a1 : Int32) (a2 : Int32) (a3 : Int32) (a4 : Int32) (a5 : Int32) (M : hyM) {res : (Int32 × hyM)} (h : Rf_addNote a1 a2 a3 a4 a5 M = some res) : hyC l yX11_addNote (.code yX11_addNote cX11_addNote 7 (some .int)) 2 42 (0) G [.ref (adr G 30), .int a1, .int a2, .int a3, .int a4, .int a5] (Mc, M, Mo) (.inr (some (.int res.1)), (Mc, res.2, Mo)) := by
  refine hy_of (by decide +kernel) (Nat.le_of_ble_eq_true rfl) ?_
  intro p e s m below meth c hx hb hml hown hts hr hlocks ht hX hP hS ls hl
  have hl : lv_has ls 7 [(0, .ref (adr G 30)), (1, .int a1), (2, .int a2), (3, .int a3), (4, .int a4), (5, .int a5)] := hl
  rw [Rf_addNote] at h
  refine lv_iload_n hx hb dX11_addNote_0 rfl (lv_at hl 2 rfl) ?_
  refine hy_ret (hy_rS0 (T := (Mc, M, Mo)) (v := some (.int (bI (Rf_isPitch a2 M)))) (T2 := (Mc, M, Mo)) (As := [.int a2]) (rest := []) (n := 0) hx hb hml hown hts hX hP hS hl (c_Rf_isPitch Mc Mo a2 M rfl) m_Rf_isPitch q_1317 rfl rfl (Nat.le_of_ble_eq_true rfl) dX11_addNote_1 ⟨Nat.le_of_ble_eq_true rfl, Nat.le_of_ble_eq_true rfl⟩ ⟨Nat.zero_le _, Nat.zero_le _⟩) hS (fun H locs hP hS => ?_)
  have J19 : ∀ (H : Heap) (locs : List Loc) (ls : Array Slot) (u1 : Int32), u1 = (bI (if (Rf_isPitch a2 M) then (if (Rf_isPitch a3 M) then (if (Rf_isPitch a4 M) then (Rf_isPitch a5 M) else false) else false) else false)) → va_P G.1 vwCl (wld G (Mc, M, Mo)) H → va_S (hyA G) s.heap H locs → lv_has ls 7 [(0, .ref (adr G 30)), (1, .int a1), (2, .int a2), (3, .int a3), (4, .int a4), (5, .int a5)] → W p l e { frames := 2, cells := 0, slots := 6 * 0, locals := 42 } s m ([.ref (adr G 30), .int a1, .int a2, .int a3, .int a4, .int a5] : List Value).toArray below meth c H locs 0 0 (vx_MQ below (hyQ G (.inr (some (.int res.1)), (Mc, res.2, Mo))) (hyXQ G (.inr (some (.int res.1)), (Mc, res.2, Mo))) ([.ref (adr G 30), .int a1, .int a2, .int a3, .int a4, .int a5] : List Value).toArray s 0 (6 * 0) (hyA G)) (F0 m 35 ls [.int u1]) := by
    intro H locs ls u1 eu1 hP hS hl
    subst eu1
    refine lv_istore (lv' := [(6, .int (bI (if (Rf_isPitch a2 M) then (if (Rf_isPitch a3 M) then (if (Rf_isPitch a4 M) then (Rf_isPitch a5 M) else false) else false) else false))), (0, .ref (adr G 30)), (1, .int a1), (2, .int a2), (3, .int a3), (4, .int a4), (5, .int a5)]) hx hb dX11_addNote_35 hl (by decide) rfl (fun ls hl => ?_)
    refine lv_aload_n hx hb dX11_addNote_37 rfl (lv_at hl 1 rfl) ?_
    refine lv_iload_n hx hb dX11_addNote_38 rfl (lv_at hl 2 rfl) ?_
    refine lv_iconst (v := 1) hx hb dX11_addNote_39 rfl ?_
    refine lv_bipush (v := 8) hx hb dX11_addNote_40 rfl ?_
    refine hy_ret (hy_rS0 (T := (Mc, M, Mo)) (v := some (.int (bI (Rf_within a1 1 8 M)))) (T2 := (Mc, M, Mo)) (As := [.int a1, .int 1, .int 8]) (rest := [.ref (adr G 30)]) (n := 0) hx hb hml hown hts hX hP hS hl (c_Rf_within Mc Mo a1 1 8 M rfl) m_Rf_within q_1310 rfl rfl (Nat.le_of_ble_eq_true rfl) dX11_addNote_42 ⟨Nat.le_of_ble_eq_true rfl, Nat.le_of_ble_eq_true rfl⟩ ⟨Nat.zero_le _, Nat.zero_le _⟩) hS (fun H locs hP hS => ?_)
    have J18 : ∀ (H : Heap) (locs : List Loc) (ls : Array Slot) (u1 : Int32), u1 = (if (Rf_within a1 1 8 M) then (if (if (Rf_isPitch a2 M) then (if (Rf_isPitch a3 M) then (if (Rf_isPitch a4 M) then (Rf_isPitch a5 M) else false) else false) else false) then (if (M.1 30 2) = 40 then 2 else 0) else 1) else 1) → va_P G.1 vwCl (wld G (Mc, M, Mo)) H → va_S (hyA G) s.heap H locs → lv_has ls 7 [(0, .ref (adr G 30)), (1, .int a1), (2, .int a2), (3, .int a3), (4, .int a4), (5, .int a5), (6, .int (bI (if (Rf_isPitch a2 M) then (if (Rf_isPitch a3 M) then (if (Rf_isPitch a4 M) then (Rf_isPitch a5 M) else false) else false) else false)))] → W p l e { frames := 2, cells := 0, slots := 6 * 0, locals := 42 } s m ([.ref (adr G 30), .int a1, .int a2, .int a3, .int a4, .int a5] : List Value).toArray below meth c H locs 0 0 (vx_MQ below (hyQ G (.inr (some (.int res.1)), (Mc, res.2, Mo))) (hyXQ G (.inr (some (.int res.1)), (Mc, res.2, Mo))) ([.ref (adr G 30), .int a1, .int a2, .int a3, .int a4, .int a5] : List Value).toArray s 0 (6 * 0) (hyA G)) (F0 m 71 ls [.int u1, .ref (adr G 30)]) := by
      intro H locs ls u1 eu1 hP hS hl
      subst eu1
      refine hy_putI (ty := .int) (T := (Mc, M, Mo)) (T2 := (Mc, (wI M 30 0 (if (Rf_within a1 1 8 M) then (if (if (Rf_isPitch a2 M) then (if (Rf_isPitch a3 M) then (if (Rf_isPitch a4 M) then (Rf_isPitch a5 M) else false) else false) else false) then (if (M.1 30 2) = 40 then 2 else 0) else 1) else 1)), Mo)) (o := 30) (k := 0) hx hb hown hts hX hP hS (by decide) rfl rfl rfl rfl inX11g tyX11_ok nmX11 (by decide) q_1192 rfl rfl rfl rfl (Nat.le_of_ble_eq_true rfl) dX11_addNote_71 (fun H locs hP hS => ?_)
      obtain ⟨M8, hM8, h⟩ := hy_bind h
      rw [Option.some.inj hM8] at hP
      refine lv_aload_n hx hb dX11_addNote_74 rfl (lv_at hl 0 rfl) ?_
      refine hy_get (T := (Mc, M8, Mo)) (o := 30) (k := 0) (v := .int (M8.1 30 0)) hx hb hown hts hX hP (by decide) rfl rfl inX11g (by decide) q_1192 rfl dX11_addNote_75 ?_
      refine lv_if_le (tgt := 83) hx hb dX11_addNote_78 (by decide) (fun c9 => ?_) (fun c9 => ?_)
      · rw [if_pos c9] at h
        refine lv_aload_n hx hb dX11_addNote_83 rfl (lv_at hl 0 rfl) ?_
        refine hy_get (T := (Mc, M8, Mo)) (o := 30) (k := 3) (v := .ref (adr G 31)) hx hb hown hts hX hP (by decide) rfl rfl inX11g (by decide) q_1195 rfl dX11_addNote_84 ?_
        refine lv_aload_n hx hb dX11_addNote_87 rfl (lv_at hl 0 rfl) ?_
        refine hy_get (T := (Mc, M8, Mo)) (o := 30) (k := 2) (v := .int (M8.1 30 2)) hx hb hown hts hX hP (by decide) rfl rfl inX11g (by decide) q_1194 rfl dX11_addNote_88 ?_
        refine lv_iload_n hx hb dX11_addNote_91 rfl (lv_at hl 1 rfl) ?_
        obtain ⟨M10, hM10, h⟩ := hy_bind h
        obtain ⟨nM10, hM10⟩ := stE_some hM10
        refine hy_iast (T := (Mc, M8, Mo)) (T2 := (Mc, (wI M8 31 (M8.1 30 2).toNatClampNeg a1), Mo)) hx hb hX hP hS 31 40 (by decide) (fun _ _ => rfl) nM10 rfl dX11_addNote_92 (fun H locs hP hS => ?_)
        rw [hM10] at hP
        refine lv_aload_n hx hb dX11_addNote_93 rfl (lv_at hl 0 rfl) ?_
        refine hy_get (T := (Mc, M10, Mo)) (o := 30) (k := 4) (v := .ref (adr G 32)) hx hb hown hts hX hP (by decide) rfl rfl inX11g (by decide) q_1196 rfl dX11_addNote_94 ?_
        refine lv_iconst (v := 4) hx hb dX11_addNote_97 rfl ?_
        refine lv_aload_n hx hb dX11_addNote_98 rfl (lv_at hl 0 rfl) ?_
        refine hy_get (T := (Mc, M10, Mo)) (o := 30) (k := 2) (v := .int (M10.1 30 2)) hx hb hown hts hX hP (by decide) rfl rfl inX11g (by decide) q_1194 rfl dX11_addNote_99 ?_
        refine lv_imul hx hb dX11_addNote_102 ?_
        refine lv_iload_n hx hb dX11_addNote_103 rfl (lv_at hl 2 rfl) ?_
        obtain ⟨M11, hM11, h⟩ := hy_bind h
        obtain ⟨nM11, hM11⟩ := stE_some hM11
        refine hy_iast (T := (Mc, M10, Mo)) (T2 := (Mc, (wI M10 32 (4 * (M10.1 30 2)).toNatClampNeg a2), Mo)) hx hb hX hP hS 32 160 (by decide) (fun _ _ => rfl) nM11 rfl dX11_addNote_104 (fun H locs hP hS => ?_)
        rw [hM11] at hP
        refine lv_aload_n hx hb dX11_addNote_105 rfl (lv_at hl 0 rfl) ?_
        refine hy_get (T := (Mc, M11, Mo)) (o := 30) (k := 4) (v := .ref (adr G 32)) hx hb hown hts hX hP (by decide) rfl rfl inX11g (by decide) q_1196 rfl dX11_addNote_106 ?_
        refine lv_iconst (v := 4) hx hb dX11_addNote_109 rfl ?_
        refine lv_aload_n hx hb dX11_addNote_110 rfl (lv_at hl 0 rfl) ?_
        refine hy_get (T := (Mc, M11, Mo)) (o := 30) (k := 2) (v := .int (M11.1 30 2)) hx hb hown hts hX hP (by decide) rfl rfl inX11g (by decide) q_1194 rfl dX11_addNote_111 ?_
        refine lv_imul hx hb dX11_addNote_114 ?_
        refine lv_iconst (v := 1) hx hb dX11_addNote_115 rfl ?_
        refine lv_iadd hx hb dX11_addNote_116 ?_
        refine lv_iload_n hx hb dX11_addNote_117 rfl (lv_at hl 3 rfl) ?_
        obtain ⟨M12, hM12, h⟩ := hy_bind h
        obtain ⟨nM12, hM12⟩ := stE_some hM12
        refine hy_iast (T := (Mc, M11, Mo)) (T2 := (Mc, (wI M11 32 ((4 * (M11.1 30 2)) + 1).toNatClampNeg a3), Mo)) hx hb hX hP hS 32 160 (by decide) (fun _ _ => rfl) nM12 rfl dX11_addNote_118 (fun H locs hP hS => ?_)
        rw [hM12] at hP
        refine lv_aload_n hx hb dX11_addNote_119 rfl (lv_at hl 0 rfl) ?_
        refine hy_get (T := (Mc, M12, Mo)) (o := 30) (k := 4) (v := .ref (adr G 32)) hx hb hown hts hX hP (by decide) rfl rfl inX11g (by decide) q_1196 rfl dX11_addNote_120 ?_
        refine lv_iconst (v := 4) hx hb dX11_addNote_123 rfl ?_
        refine lv_aload_n hx hb dX11_addNote_124 rfl (lv_at hl 0 rfl) ?_
        refine hy_get (T := (Mc, M12, Mo)) (o := 30) (k := 2) (v := .int (M12.1 30 2)) hx hb hown hts hX hP (by decide) rfl rfl inX11g (by decide) q_1194 rfl dX11_addNote_125 ?_
        refine lv_imul hx hb dX11_addNote_128 ?_
        refine lv_iconst (v := 2) hx hb dX11_addNote_129 rfl ?_
        refine lv_iadd hx hb dX11_addNote_130 ?_
        refine lv_iload hx hb dX11_addNote_131 (lv_at hl 4 rfl) ?_
        obtain ⟨M13, hM13, h⟩ := hy_bind h
        obtain ⟨nM13, hM13⟩ := stE_some hM13
        refine hy_iast (T := (Mc, M12, Mo)) (T2 := (Mc, (wI M12 32 ((4 * (M12.1 30 2)) + 2).toNatClampNeg a4), Mo)) hx hb hX hP hS 32 160 (by decide) (fun _ _ => rfl) nM13 rfl dX11_addNote_133 (fun H locs hP hS => ?_)
        rw [hM13] at hP
        refine lv_aload_n hx hb dX11_addNote_134 rfl (lv_at hl 0 rfl) ?_
        refine hy_get (T := (Mc, M13, Mo)) (o := 30) (k := 4) (v := .ref (adr G 32)) hx hb hown hts hX hP (by decide) rfl rfl inX11g (by decide) q_1196 rfl dX11_addNote_135 ?_
        refine lv_iconst (v := 4) hx hb dX11_addNote_138 rfl ?_
        refine lv_aload_n hx hb dX11_addNote_139 rfl (lv_at hl 0 rfl) ?_
        refine hy_get (T := (Mc, M13, Mo)) (o := 30) (k := 2) (v := .int (M13.1 30 2)) hx hb hown hts hX hP (by decide) rfl rfl inX11g (by decide) q_1194 rfl dX11_addNote_140 ?_
        refine lv_imul hx hb dX11_addNote_143 ?_
        refine lv_iconst (v := 3) hx hb dX11_addNote_144 rfl ?_
        refine lv_iadd hx hb dX11_addNote_145 ?_
        refine lv_iload hx hb dX11_addNote_146 (lv_at hl 5 rfl) ?_
        obtain ⟨M14, hM14, h⟩ := hy_bind h
        obtain ⟨nM14, hM14⟩ := stE_some hM14
        refine hy_iast (T := (Mc, M13, Mo)) (T2 := (Mc, (wI M13 32 ((4 * (M13.1 30 2)) + 3).toNatClampNeg a5), Mo)) hx hb hX hP hS 32 160 (by decide) (fun _ _ => rfl) nM14 rfl dX11_addNote_148 (fun H locs hP hS => ?_)
        rw [hM14] at hP
        refine lv_aload_n hx hb dX11_addNote_149 rfl (lv_at hl 0 rfl) ?_
        refine hy_get (T := (Mc, M14, Mo)) (o := 30) (k := 5) (v := .ref (adr G 33)) hx hb hown hts hX hP (by decide) rfl rfl inX11g (by decide) q_1197 rfl dX11_addNote_150 ?_
        refine lv_aload_n hx hb dX11_addNote_153 rfl (lv_at hl 0 rfl) ?_
        refine hy_get (T := (Mc, M14, Mo)) (o := 30) (k := 2) (v := .int (M14.1 30 2)) hx hb hown hts hX hP (by decide) rfl rfl inX11g (by decide) q_1194 rfl dX11_addNote_154 ?_
        refine lv_iconst (v := 0) hx hb dX11_addNote_157 rfl ?_
        obtain ⟨M15, hM15, h⟩ := hy_bind h
        obtain ⟨nM15, hM15⟩ := stE_some hM15
        refine hy_zast (T := (Mc, M14, Mo)) (T2 := (Mc, (wI M14 33 (M14.1 30 2).toNatClampNeg 0), Mo)) hx hb hX hP hS 33 40 (by decide) (fun _ _ => rfl) nM15 rfl rfl dX11_addNote_158 (fun H locs hP hS => ?_)
        rw [hM15] at hP
        refine lv_aload_n hx hb dX11_addNote_159 rfl (lv_at hl 0 rfl) ?_
        refine hy_get (T := (Mc, M15, Mo)) (o := 30) (k := 6) (v := .ref (adr G 34)) hx hb hown hts hX hP (by decide) rfl rfl inX11g (by decide) q_1198 rfl dX11_addNote_160 ?_
        refine lv_aload_n hx hb dX11_addNote_163 rfl (lv_at hl 0 rfl) ?_
        refine hy_get (T := (Mc, M15, Mo)) (o := 30) (k := 2) (v := .int (M15.1 30 2)) hx hb hown hts hX hP (by decide) rfl rfl inX11g (by decide) q_1194 rfl dX11_addNote_164 ?_
        refine lv_iconst (v := 0) hx hb dX11_addNote_167 rfl ?_
        obtain ⟨M16, hM16, h⟩ := hy_bind h
        obtain ⟨nM16, hM16⟩ := stE_some hM16
        refine hy_zast (T := (Mc, M15, Mo)) (T2 := (Mc, (wI M15 34 (M15.1 30 2).toNatClampNeg 0), Mo)) hx hb hX hP hS 34 40 (by decide) (fun _ _ => rfl) nM16 rfl rfl dX11_addNote_168 (fun H locs hP hS => ?_)
        rw [hM16] at hP
        refine lv_aload_n hx hb dX11_addNote_169 rfl (lv_at hl 0 rfl) ?_
        refine lv_dup hx hb dX11_addNote_170 rfl ?_
        refine hy_get (T := (Mc, M16, Mo)) (o := 30) (k := 2) (v := .int (M16.1 30 2)) hx hb hown hts hX hP (by decide) rfl rfl inX11g (by decide) q_1194 rfl dX11_addNote_171 ?_
        refine lv_iconst (v := 1) hx hb dX11_addNote_174 rfl ?_
        refine lv_iadd hx hb dX11_addNote_175 ?_
        refine hy_putI (ty := .int) (T := (Mc, M16, Mo)) (T2 := (Mc, (wI M16 30 2 ((M16.1 30 2) + 1)), Mo)) (o := 30) (k := 2) hx hb hown hts hX hP hS (by decide) rfl rfl rfl rfl inX11g tyX11_ok nmX11 (by decide) q_1194 rfl rfl rfl rfl (Nat.le_of_ble_eq_true rfl) dX11_addNote_176 (fun H locs hP hS => ?_)
        obtain ⟨M17, hM17, h⟩ := hy_bind h
        rw [Option.some.inj hM17] at hP
        refine lv_aload_n hx hb dX11_addNote_179 rfl (lv_at hl 0 rfl) ?_
        refine hy_get (T := (Mc, M17, Mo)) (o := 30) (k := 2) (v := .int (M17.1 30 2)) hx hb hown hts hX hP (by decide) rfl rfl inX11g (by decide) q_1194 rfl dX11_addNote_180 ?_
        refine lv_iconst (v := 1) hx hb dX11_addNote_183 rfl ?_
        refine lv_isub hx hb dX11_addNote_184 ?_
        exact hy_iret (T := (Mc, M17, Mo)) hx hb hr hlocks hP hS (Nat.zero_le _) (Nat.zero_le _) (by rw [← (Option.some.inj h)] <;> rfl) dX11_addNote_185
      · rw [if_neg c9] at h
        refine lv_iconst (v := 0) hx hb dX11_addNote_81 rfl ?_
        exact hy_iret (T := (Mc, M8, Mo)) hx hb hr hlocks hP hS (Nat.zero_le _) (Nat.zero_le _) (by rw [← (Option.some.inj h)] <;> rfl) dX11_addNote_82
    refine lv_if_eq (tgt := 53) hx hb dX11_addNote_45 (by decide) (fun c5 => ?_) (fun c5 => ?_)
    · refine lv_iconst (v := 1) hx hb dX11_addNote_53 rfl ?_
      refine lv_goto (tgt := 71) hx hb dX11_addNote_54 (by decide) ?_
      exact J18 _ _ ls 1 (by rw [if_neg (bI_0 c5)] <;> rfl) hP hS (lv_sub hl [1, 2, 3, 4, 5, 6, 0] rfl)
    · refine lv_iload hx hb dX11_addNote_48 (lv_at hl 0 rfl) ?_
      refine lv_if_ne (tgt := 57) hx hb dX11_addNote_50 (by decide) (fun c6 => ?_) (fun c6 => ?_)
      · refine lv_aload_n hx hb dX11_addNote_57 rfl (lv_at hl 1 rfl) ?_
        refine hy_get (T := (Mc, M, Mo)) (o := 30) (k := 2) (v := .int (M.1 30 2)) hx hb hown hts hX hP (by decide) rfl rfl inX11g (by decide) q_1194 rfl dX11_addNote_58 ?_
        refine lv_bipush (v := 40) hx hb dX11_addNote_61 rfl ?_
        refine lv_icmp_ne (tgt := 70) hx hb dX11_addNote_63 (by decide) (fun c7 => ?_) (fun c7 => ?_)
        · refine lv_iconst (v := 0) hx hb dX11_addNote_70 rfl ?_
          exact J18 _ _ ls 0 (by rw [if_pos (bI_1 c5), if_pos (bI_1 c6), if_neg c7] <;> rfl) hP hS (lv_sub hl [1, 2, 3, 4, 5, 6, 0] rfl)
        · refine lv_iconst (v := 2) hx hb dX11_addNote_66 rfl ?_
          refine lv_goto (tgt := 71) hx hb dX11_addNote_67 (by decide) ?_
          exact J18 _ _ ls 2 (by rw [if_pos (bI_1 c5), if_pos (bI_1 c6), if_pos c7] <;> rfl) hP hS (lv_sub hl [1, 2, 3, 4, 5, 6, 0] rfl)
      · refine lv_iconst (v := 1) hx hb dX11_addNote_53 rfl ?_
        refine lv_goto (tgt := 71) hx hb dX11_addNote_54 (by decide) ?_
        exact J18 _ _ ls 1 (by rw [if_pos (bI_1 c5), if_neg (bI_0 c6)] <;> rfl) hP hS (lv_sub hl [1, 2, 3, 4, 5, 6, 0] rfl)
  refine lv_if_eq (tgt := 34) hx hb dX11_addNote_4 (by decide) (fun c1 => ?_) (fun c1 => ?_)
  · refine lv_iconst (v := 0) hx hb dX11_addNote_34 rfl ?_
    exact J19 _ _ ls 0 (by rw [if_neg (bI_0 c1)] <;> rfl) hP hS (lv_sub hl [0, 1, 2, 3, 4, 5] rfl)
  · refine lv_iload_n hx hb dX11_addNote_7 rfl (lv_at hl 3 rfl) ?_
    refine hy_ret (hy_rS0 (T := (Mc, M, Mo)) (v := some (.int (bI (Rf_isPitch a3 M)))) (T2 := (Mc, M, Mo)) (As := [.int a3]) (rest := []) (n := 0) hx hb hml hown hts hX hP hS hl (c_Rf_isPitch Mc Mo a3 M rfl) m_Rf_isPitch q_1317 rfl rfl (Nat.le_of_ble_eq_true rfl) dX11_addNote_8 ⟨Nat.le_of_ble_eq_true rfl, Nat.le_of_ble_eq_true rfl⟩ ⟨Nat.zero_le _, Nat.zero_le _⟩) hS (fun H locs hP hS => ?_)
    refine lv_if_eq (tgt := 34) hx hb dX11_addNote_11 (by decide) (fun c2 => ?_) (fun c2 => ?_)
    · refine lv_iconst (v := 0) hx hb dX11_addNote_34 rfl ?_
      exact J19 _ _ ls 0 (by rw [if_pos (bI_1 c1), if_neg (bI_0 c2)] <;> rfl) hP hS (lv_sub hl [0, 1, 2, 3, 4, 5] rfl)
    · refine lv_iload hx hb dX11_addNote_14 (lv_at hl 4 rfl) ?_
      refine hy_ret (hy_rS0 (T := (Mc, M, Mo)) (v := some (.int (bI (Rf_isPitch a4 M)))) (T2 := (Mc, M, Mo)) (As := [.int a4]) (rest := []) (n := 0) hx hb hml hown hts hX hP hS hl (c_Rf_isPitch Mc Mo a4 M rfl) m_Rf_isPitch q_1317 rfl rfl (Nat.le_of_ble_eq_true rfl) dX11_addNote_16 ⟨Nat.le_of_ble_eq_true rfl, Nat.le_of_ble_eq_true rfl⟩ ⟨Nat.zero_le _, Nat.zero_le _⟩) hS (fun H locs hP hS => ?_)
      refine lv_if_eq (tgt := 34) hx hb dX11_addNote_19 (by decide) (fun c3 => ?_) (fun c3 => ?_)
      · refine lv_iconst (v := 0) hx hb dX11_addNote_34 rfl ?_
        exact J19 _ _ ls 0 (by rw [if_pos (bI_1 c1), if_pos (bI_1 c2), if_neg (bI_0 c3)] <;> rfl) hP hS (lv_sub hl [0, 1, 2, 3, 4, 5] rfl)
      · refine lv_iload hx hb dX11_addNote_22 (lv_at hl 5 rfl) ?_
        refine hy_ret (hy_rS0 (T := (Mc, M, Mo)) (v := some (.int (bI (Rf_isPitch a5 M)))) (T2 := (Mc, M, Mo)) (As := [.int a5]) (rest := []) (n := 0) hx hb hml hown hts hX hP hS hl (c_Rf_isPitch Mc Mo a5 M rfl) m_Rf_isPitch q_1317 rfl rfl (Nat.le_of_ble_eq_true rfl) dX11_addNote_24 ⟨Nat.le_of_ble_eq_true rfl, Nat.le_of_ble_eq_true rfl⟩ ⟨Nat.zero_le _, Nat.zero_le _⟩) hS (fun H locs hP hS => ?_)
        refine lv_if_eq (tgt := 34) hx hb dX11_addNote_27 (by decide) (fun c4 => ?_) (fun c4 => ?_)
        · refine lv_iconst (v := 0) hx hb dX11_addNote_34 rfl ?_
          exact J19 _ _ ls 0 (by rw [if_pos (bI_1 c1), if_pos (bI_1 c2), if_pos (bI_1 c3), (bI_z c4)] <;> rfl) hP hS (lv_sub hl [0, 1, 2, 3, 4, 5] rfl)
        · refine lv_iconst (v := 1) hx hb dX11_addNote_30 rfl ?_
          refine lv_goto (tgt := 35) hx hb dX11_addNote_31 (by decide) ?_
          exact J19 _ _ ls 1 (by rw [if_pos (bI_1 c1), if_pos (bI_1 c2), if_pos (bI_1 c3), (bI_1 c4)] <;> rfl) hP hS (lv_sub hl [0, 1, 2, 3, 4, 5] rfl)
set_option maxHeartbeats 1000000 in
set_option maxRecDepth 100000 in
theorem c_Rf_dropNote {l : Launch} {G : hyG} (Mc Mo : hyM) (M : hyM) {res : (Int32 × hyM)} (h : Rf_dropNote M = some res) : hyC l yX11_dropNote (.code yX11_dropNote cX11_dropNote 1 (some .int)) 2 44 (0) G [.ref (adr G 30)] (Mc, M, Mo) (.inr (some (.int res.1)), (Mc, res.2, Mo)) := by
  refine hy_of (by decide +kernel) (Nat.le_of_ble_eq_true rfl) ?_
  intro p e s m below meth c hx hb hml hown hts hr hlocks ht hX hP hS ls hl
  have hl : lv_has ls 1 [(0, .ref (adr G 30))] := hl
  rw [Rf_dropNote] at h
  refine lv_aload_n hx hb dX11_dropNote_0 rfl (lv_at hl 0 rfl) ?_
  refine lv_aload_n hx hb dX11_dropNote_1 rfl (lv_at hl 0 rfl) ?_
  refine hy_get (T := (Mc, M, Mo)) (o := 30) (k := 2) (v := .int (M.1 30 2)) hx hb hown hts hX hP (by decide) rfl rfl inX11g (by decide) q_1194 rfl dX11_dropNote_2 ?_
  have J6 : ∀ (H : Heap) (locs : List Loc) (ls : Array Slot) (u1 : Int32), u1 = (bI (decide ((M.1 30 2) ≤ 0))) → va_P G.1 vwCl (wld G (Mc, M, Mo)) H → va_S (hyA G) s.heap H locs → lv_has ls 1 [(0, .ref (adr G 30))] → W p l e { frames := 2, cells := 0, slots := 6 * 0, locals := 44 } s m ([.ref (adr G 30)] : List Value).toArray below meth c H locs 0 0 (vx_MQ below (hyQ G (.inr (some (.int res.1)), (Mc, res.2, Mo))) (hyXQ G (.inr (some (.int res.1)), (Mc, res.2, Mo))) ([.ref (adr G 30)] : List Value).toArray s 0 (6 * 0) (hyA G)) (F0 m 13 ls [.int u1, .ref (adr G 30)]) := by
    intro H locs ls u1 eu1 hP hS hl
    subst eu1
    refine hy_putI (ty := .int) (T := (Mc, M, Mo)) (T2 := (Mc, (wI M 30 0 (bI (decide ((M.1 30 2) ≤ 0)))), Mo)) (o := 30) (k := 0) hx hb hown hts hX hP hS (by decide) rfl rfl rfl rfl inX11g tyX11_ok nmX11 (by decide) q_1192 rfl rfl rfl rfl (Nat.le_of_ble_eq_true rfl) dX11_dropNote_13 (fun H locs hP hS => ?_)
    obtain ⟨M2, hM2, h⟩ := hy_bind h
    rw [Option.some.inj hM2] at hP
    refine lv_aload_n hx hb dX11_dropNote_16 rfl (lv_at hl 0 rfl) ?_
    refine hy_get (T := (Mc, M2, Mo)) (o := 30) (k := 0) (v := .int (M2.1 30 0)) hx hb hown hts hX hP (by decide) rfl rfl inX11g (by decide) q_1192 rfl dX11_dropNote_17 ?_
    refine lv_if_le (tgt := 25) hx hb dX11_dropNote_20 (by decide) (fun c3 => ?_) (fun c3 => ?_)
    · rw [if_pos c3] at h
      refine lv_aload_n hx hb dX11_dropNote_25 rfl (lv_at hl 0 rfl) ?_
      refine lv_dup hx hb dX11_dropNote_26 rfl ?_
      refine hy_get (T := (Mc, M2, Mo)) (o := 30) (k := 2) (v := .int (M2.1 30 2)) hx hb hown hts hX hP (by decide) rfl rfl inX11g (by decide) q_1194 rfl dX11_dropNote_27 ?_
      refine lv_iconst (v := 1) hx hb dX11_dropNote_30 rfl ?_
      refine lv_isub hx hb dX11_dropNote_31 ?_
      refine hy_putI (ty := .int) (T := (Mc, M2, Mo)) (T2 := (Mc, (wI M2 30 2 ((M2.1 30 2) - 1)), Mo)) (o := 30) (k := 2) hx hb hown hts hX hP hS (by decide) rfl rfl rfl rfl inX11g tyX11_ok nmX11 (by decide) q_1194 rfl rfl rfl rfl (Nat.le_of_ble_eq_true rfl) dX11_dropNote_32 (fun H locs hP hS => ?_)
      obtain ⟨M4, hM4, h⟩ := hy_bind h
      rw [Option.some.inj hM4] at hP
      refine lv_aload_n hx hb dX11_dropNote_35 rfl (lv_at hl 0 rfl) ?_
      obtain ⟨M5, hM5, h⟩ := hy_bind h
      refine hy_ret (hy_rV0 (T := (Mc, M4, Mo)) (v := none) (T2 := (Mc, M5, Mo)) (As := []) (rest := []) (n := 0) hx hb hml hown hts hX hP hS hl (c_Rf_dropRepeats Mc Mo M4 hM5) m_Rf_dropRepeats q_1324 (hy_recv hX hP 30 10 (by decide) rfl rfl) rfl rfl (Nat.le_of_ble_eq_true rfl) dX11_dropNote_36 ⟨Nat.le_of_ble_eq_true rfl, Nat.le_of_ble_eq_true rfl⟩ ⟨Nat.zero_le _, Nat.zero_le _⟩) hS (fun H locs hP hS => ?_)
      refine lv_aload_n hx hb dX11_dropNote_39 rfl (lv_at hl 0 rfl) ?_
      refine hy_get (T := (Mc, M5, Mo)) (o := 30) (k := 2) (v := .int (M5.1 30 2)) hx hb hown hts hX hP (by decide) rfl rfl inX11g (by decide) q_1194 rfl dX11_dropNote_40 ?_
      exact hy_iret (T := (Mc, M5, Mo)) hx hb hr hlocks hP hS (Nat.zero_le _) (Nat.zero_le _) (by rw [← (Option.some.inj h)] <;> rfl) dX11_dropNote_43
    · rw [if_neg c3] at h
      refine lv_iconst (v := 0) hx hb dX11_dropNote_23 rfl ?_
      exact hy_iret (T := (Mc, M2, Mo)) hx hb hr hlocks hP hS (Nat.zero_le _) (Nat.zero_le _) (by rw [← (Option.some.inj h)] <;> rfl) dX11_dropNote_24
  refine lv_if_le (tgt := 12) hx hb dX11_dropNote_5 (by decide) (fun c1 => ?_) (fun c1 => ?_)
  · refine lv_iconst (v := 1) hx hb dX11_dropNote_12 rfl ?_
    exact J6 _ _ ls 1 (by rw [decide_eq_true c1] <;> rfl) hP hS (lv_sub hl [0] rfl)
  · refine lv_iconst (v := 0) hx hb dX11_dropNote_8 rfl ?_
    refine lv_goto (tgt := 13) hx hb dX11_dropNote_9 (by decide) ?_
    exact J6 _ _ ls 0 (by rw [decide_eq_false c1] <;> rfl) hP hS (lv_sub hl [0] rfl)
set_option maxHeartbeats 1000000 in
set_option maxRecDepth 100000 in
theorem c_Rf_isPart {l : Launch} {G : hyG} (Mc Mo : hyM) (a1 : Int32) (a2 : Int32) (M : hyM) {res : Bool} (h : Rf_isPart a1 a2 M = res) : hyC l yX11_isPart (.code yX11_isPart cX11_isPart 3 (some .boolean)) 2 43 (0) G [.ref (adr G 30), .int a1, .int a2] (Mc, M, Mo) (.inr (some (.int (bI res))), (Mc, M, Mo)) := by
  refine hy_of (by decide +kernel) (Nat.le_of_ble_eq_true rfl) ?_
  intro p e s m below meth c hx hb hml hown hts hr hlocks ht hX hP hS ls hl
  have hl : lv_has ls 3 [(0, .ref (adr G 30)), (1, .int a1), (2, .int a2)] := hl
  rw [Rf_isPart] at h
  refine lv_aload_n hx hb dX11_isPart_0 rfl (lv_at hl 0 rfl) ?_
  refine lv_iload_n hx hb dX11_isPart_1 rfl (lv_at hl 1 rfl) ?_
  refine hy_ret (hy_rV0 (T := (Mc, M, Mo)) (v := some (.int (bI (Rf_isNote a1 M)))) (T2 := (Mc, M, Mo)) (As := [.int a1]) (rest := []) (n := 0) hx hb hml hown hts hX hP hS hl (c_Rf_isNote Mc Mo a1 M rfl) m_Rf_isNote q_1340 (hy_recv hX hP 30 10 (by decide) rfl rfl) rfl rfl (Nat.le_of_ble_eq_true rfl) dX11_isPart_2 ⟨Nat.le_of_ble_eq_true rfl, Nat.le_of_ble_eq_true rfl⟩ ⟨Nat.zero_le _, Nat.zero_le _⟩) hS (fun H locs hP hS => ?_)
  have J3 : ∀ (H : Heap) (locs : List Loc) (ls : Array Slot) (u1 : Int32), u1 = (bI (if (Rf_isNote a1 M) then (Rf_within a2 0 3 M) else false)) → va_P G.1 vwCl (wld G (Mc, M, Mo)) H → va_S (hyA G) s.heap H locs → lv_has ls 3 [(0, .ref (adr G 30)), (1, .int a1), (2, .int a2)] → W p l e { frames := 2, cells := 0, slots := 6 * 0, locals := 43 } s m ([.ref (adr G 30), .int a1, .int a2] : List Value).toArray below meth c H locs 0 0 (vx_MQ below (hyQ G (.inr (some (.int (bI res))), (Mc, M, Mo))) (hyXQ G (.inr (some (.int (bI res))), (Mc, M, Mo))) ([.ref (adr G 30), .int a1, .int a2] : List Value).toArray s 0 (6 * 0) (hyA G)) (F0 m 22 ls [.int u1]) := by
    intro H locs ls u1 eu1 hP hS hl
    subst eu1
    exact hy_zret (T := (Mc, M, Mo)) hx hb hr hlocks hP hS (Nat.zero_le _) (Nat.zero_le _) (bI_nar (if (Rf_isNote a1 M) then (Rf_within a2 0 3 M) else false)) (by rw [← h] <;> rfl) dX11_isPart_22
  refine lv_if_eq (tgt := 21) hx hb dX11_isPart_5 (by decide) (fun c1 => ?_) (fun c1 => ?_)
  · refine lv_iconst (v := 0) hx hb dX11_isPart_21 rfl ?_
    exact J3 _ _ ls 0 (by rw [if_neg (bI_0 c1)] <;> rfl) hP hS (lv_sub hl [0, 1, 2] rfl)
  · refine lv_iload_n hx hb dX11_isPart_8 rfl (lv_at hl 2 rfl) ?_
    refine lv_iconst (v := 0) hx hb dX11_isPart_9 rfl ?_
    refine lv_iconst (v := 3) hx hb dX11_isPart_10 rfl ?_
    refine hy_ret (hy_rS0 (T := (Mc, M, Mo)) (v := some (.int (bI (Rf_within a2 0 3 M)))) (T2 := (Mc, M, Mo)) (As := [.int a2, .int 0, .int 3]) (rest := []) (n := 0) hx hb hml hown hts hX hP hS hl (c_Rf_within Mc Mo a2 0 3 M rfl) m_Rf_within q_1310 rfl rfl (Nat.le_of_ble_eq_true rfl) dX11_isPart_11 ⟨Nat.le_of_ble_eq_true rfl, Nat.le_of_ble_eq_true rfl⟩ ⟨Nat.zero_le _, Nat.zero_le _⟩) hS (fun H locs hP hS => ?_)
    refine lv_if_eq (tgt := 21) hx hb dX11_isPart_14 (by decide) (fun c2 => ?_) (fun c2 => ?_)
    · refine lv_iconst (v := 0) hx hb dX11_isPart_21 rfl ?_
      exact J3 _ _ ls 0 (by rw [if_pos (bI_1 c1), (bI_z c2)] <;> rfl) hP hS (lv_sub hl [0, 1, 2] rfl)
    · refine lv_iconst (v := 1) hx hb dX11_isPart_17 rfl ?_
      refine lv_goto (tgt := 22) hx hb dX11_isPart_18 (by decide) ?_
      exact J3 _ _ ls 1 (by rw [if_pos (bI_1 c1), (bI_1 c2)] <;> rfl) hP hS (lv_sub hl [0, 1, 2] rfl)
set_option maxHeartbeats 1000000 in
set_option maxRecDepth 100000 in
theorem c_Rf_setPitch {l : Launch} {G : hyG} (Mc Mo : hyM) (a1 : Int32) (a2 : Int32) (a3 : Int32) (M : hyM) {res : (Int32 × hyM)} (h : Rf_setPitch a1 a2 a3 M = some res) : hyC l yX11_setPitch (.code yX11_setPitch cX11_setPitch 5 (some .int)) 3 65 (0) G [.ref (adr G 30), .int a1, .int a2, .int a3] (Mc, M, Mo) (.inr (some (.int res.1)), (Mc, res.2, Mo)) := by
  refine hy_of (by decide +kernel) (Nat.le_of_ble_eq_true rfl) ?_
  intro p e s m below meth c hx hb hml hown hts hr hlocks ht hX hP hS ls hl
  have hl : lv_has ls 5 [(0, .ref (adr G 30)), (1, .int a1), (2, .int a2), (3, .int a3)] := hl
  rw [Rf_setPitch] at h
  refine lv_aload_n hx hb dX11_setPitch_0 rfl (lv_at hl 0 rfl) ?_
  refine lv_aload_n hx hb dX11_setPitch_1 rfl (lv_at hl 0 rfl) ?_
  refine lv_iload_n hx hb dX11_setPitch_2 rfl (lv_at hl 1 rfl) ?_
  refine lv_iload_n hx hb dX11_setPitch_3 rfl (lv_at hl 2 rfl) ?_
  refine hy_ret (hy_rV0 (T := (Mc, M, Mo)) (v := some (.int (bI (Rf_isPart a1 a2 M)))) (T2 := (Mc, M, Mo)) (As := [.int a1, .int a2]) (rest := [.ref (adr G 30)]) (n := 0) hx hb hml hown hts hX hP hS hl (c_Rf_isPart Mc Mo a1 a2 M rfl) m_Rf_isPart q_1336 (hy_recv hX hP 30 10 (by decide) rfl rfl) rfl rfl (Nat.le_of_ble_eq_true rfl) dX11_setPitch_4 ⟨Nat.le_of_ble_eq_true rfl, Nat.le_of_ble_eq_true rfl⟩ ⟨Nat.zero_le _, Nat.zero_le _⟩) hS (fun H locs hP hS => ?_)
  have J7 : ∀ (H : Heap) (locs : List Loc) (ls : Array Slot) (u1 : Int32), u1 = (if (Rf_isPart a1 a2 M) then (if (Rf_isPitch a3 M) then 0 else 2) else 1) → va_P G.1 vwCl (wld G (Mc, M, Mo)) H → va_S (hyA G) s.heap H locs → lv_has ls 5 [(0, .ref (adr G 30)), (1, .int a1), (2, .int a2), (3, .int a3)] → W p l e { frames := 3, cells := 0, slots := 6 * 0, locals := 65 } s m ([.ref (adr G 30), .int a1, .int a2, .int a3] : List Value).toArray below meth c H locs 0 0 (vx_MQ below (hyQ G (.inr (some (.int res.1)), (Mc, res.2, Mo))) (hyXQ G (.inr (some (.int res.1)), (Mc, res.2, Mo))) ([.ref (adr G 30), .int a1, .int a2, .int a3] : List Value).toArray s 0 (6 * 0) (hyA G)) (F0 m 26 ls [.int u1, .ref (adr G 30)]) := by
    intro H locs ls u1 eu1 hP hS hl
    subst eu1
    refine hy_putI (ty := .int) (T := (Mc, M, Mo)) (T2 := (Mc, (wI M 30 0 (if (Rf_isPart a1 a2 M) then (if (Rf_isPitch a3 M) then 0 else 2) else 1)), Mo)) (o := 30) (k := 0) hx hb hown hts hX hP hS (by decide) rfl rfl rfl rfl inX11g tyX11_ok nmX11 (by decide) q_1192 rfl rfl rfl rfl (Nat.le_of_ble_eq_true rfl) dX11_setPitch_26 (fun H locs hP hS => ?_)
    obtain ⟨M3, hM3, h⟩ := hy_bind h
    rw [Option.some.inj hM3] at hP
    refine lv_aload_n hx hb dX11_setPitch_29 rfl (lv_at hl 0 rfl) ?_
    refine hy_get (T := (Mc, M3, Mo)) (o := 30) (k := 0) (v := .int (M3.1 30 0)) hx hb hown hts hX hP (by decide) rfl rfl inX11g (by decide) q_1192 rfl dX11_setPitch_30 ?_
    refine lv_if_le (tgt := 38) hx hb dX11_setPitch_33 (by decide) (fun c4 => ?_) (fun c4 => ?_)
    · rw [if_pos c4] at h
      refine lv_aload_n hx hb dX11_setPitch_38 rfl (lv_at hl 0 rfl) ?_
      refine hy_get (T := (Mc, M3, Mo)) (o := 30) (k := 4) (v := .ref (adr G 32)) hx hb hown hts hX hP (by decide) rfl rfl inX11g (by decide) q_1196 rfl dX11_setPitch_39 ?_
      refine lv_iconst (v := 4) hx hb dX11_setPitch_42 rfl ?_
      refine lv_iload_n hx hb dX11_setPitch_43 rfl (lv_at hl 1 rfl) ?_
      refine lv_imul hx hb dX11_setPitch_44 ?_
      refine lv_iload_n hx hb dX11_setPitch_45 rfl (lv_at hl 2 rfl) ?_
      refine lv_iadd hx hb dX11_setPitch_46 ?_
      obtain ⟨v5, hv5, h⟩ := hy_bind h
      obtain ⟨nv5, hv5⟩ := ldE_some hv5
      refine hy_iald (T := (Mc, M3, Mo)) hx hb hX hP 32 160 (M3.1 32) (by decide) rfl nv5 dX11_setPitch_47 ?_
      rw [hv5]
      refine lv_istore (lv' := [(4, .int v5), (0, .ref (adr G 30)), (1, .int a1), (2, .int a2), (3, .int a3)]) hx hb dX11_setPitch_48 hl (by decide) rfl (fun ls hl => ?_)
      refine lv_aload_n hx hb dX11_setPitch_50 rfl (lv_at hl 1 rfl) ?_
      refine hy_get (T := (Mc, M3, Mo)) (o := 30) (k := 4) (v := .ref (adr G 32)) hx hb hown hts hX hP (by decide) rfl rfl inX11g (by decide) q_1196 rfl dX11_setPitch_51 ?_
      refine lv_iconst (v := 4) hx hb dX11_setPitch_54 rfl ?_
      refine lv_iload_n hx hb dX11_setPitch_55 rfl (lv_at hl 2 rfl) ?_
      refine lv_imul hx hb dX11_setPitch_56 ?_
      refine lv_iload_n hx hb dX11_setPitch_57 rfl (lv_at hl 3 rfl) ?_
      refine lv_iadd hx hb dX11_setPitch_58 ?_
      refine lv_iload_n hx hb dX11_setPitch_59 rfl (lv_at hl 4 rfl) ?_
      obtain ⟨M6, hM6, h⟩ := hy_bind h
      obtain ⟨nM6, hM6⟩ := stE_some hM6
      refine hy_iast (T := (Mc, M3, Mo)) (T2 := (Mc, (wI M3 32 ((4 * a1) + a2).toNatClampNeg a3), Mo)) hx hb hX hP hS 32 160 (by decide) (fun _ _ => rfl) nM6 rfl dX11_setPitch_60 (fun H locs hP hS => ?_)
      rw [hM6] at hP
      refine lv_iload hx hb dX11_setPitch_61 (lv_at hl 0 rfl) ?_
      exact hy_iret (T := (Mc, M6, Mo)) hx hb hr hlocks hP hS (Nat.zero_le _) (Nat.zero_le _) (by rw [← (Option.some.inj h)] <;> rfl) dX11_setPitch_63
    · rw [if_neg c4] at h
      refine lv_iconst (v := 0) hx hb dX11_setPitch_36 rfl ?_
      exact hy_iret (T := (Mc, M3, Mo)) hx hb hr hlocks hP hS (Nat.zero_le _) (Nat.zero_le _) (by rw [← (Option.some.inj h)] <;> rfl) dX11_setPitch_37
  refine lv_if_ne (tgt := 14) hx hb dX11_setPitch_7 (by decide) (fun c1 => ?_) (fun c1 => ?_)
  · refine lv_iload_n hx hb dX11_setPitch_14 rfl (lv_at hl 3 rfl) ?_
    refine hy_ret (hy_rS0 (T := (Mc, M, Mo)) (v := some (.int (bI (Rf_isPitch a3 M)))) (T2 := (Mc, M, Mo)) (As := [.int a3]) (rest := [.ref (adr G 30)]) (n := 0) hx hb hml hown hts hX hP hS hl (c_Rf_isPitch Mc Mo a3 M rfl) m_Rf_isPitch q_1317 rfl rfl (Nat.le_of_ble_eq_true rfl) dX11_setPitch_15 ⟨Nat.le_of_ble_eq_true rfl, Nat.le_of_ble_eq_true rfl⟩ ⟨Nat.zero_le _, Nat.zero_le _⟩) hS (fun H locs hP hS => ?_)
    refine lv_if_eq (tgt := 25) hx hb dX11_setPitch_18 (by decide) (fun c2 => ?_) (fun c2 => ?_)
    · refine lv_iconst (v := 2) hx hb dX11_setPitch_25 rfl ?_
      exact J7 _ _ ls 2 (by rw [if_pos (bI_1 c1), if_neg (bI_0 c2)] <;> rfl) hP hS (lv_sub hl [0, 1, 2, 3] rfl)
    · refine lv_iconst (v := 0) hx hb dX11_setPitch_21 rfl ?_
      refine lv_goto (tgt := 26) hx hb dX11_setPitch_22 (by decide) ?_
      exact J7 _ _ ls 0 (by rw [if_pos (bI_1 c1), if_pos (bI_1 c2)] <;> rfl) hP hS (lv_sub hl [0, 1, 2, 3] rfl)
  · refine lv_iconst (v := 1) hx hb dX11_setPitch_10 rfl ?_
    refine lv_goto (tgt := 26) hx hb dX11_setPitch_11 (by decide) ?_
    exact J7 _ _ ls 1 (by rw [if_neg (bI_0 c1)] <;> rfl) hP hS (lv_sub hl [0, 1, 2, 3] rfl)
set_option maxHeartbeats 1000000 in
set_option maxRecDepth 100000 in
theorem c_Rf_mark {l : Launch} {G : hyG} (Mc Mo : hyM) (a1 : Int32) (a2 : Bool) (a3 : Bool) (M : hyM) {res : (Int32 × hyM)} (h : Rf_mark a1 a2 a3 M = some res) : hyC l yX11_mark (.code yX11_mark cX11_mark 4 (some .int)) 2 44 (0) G [.ref (adr G 30), .int a1, .int (bI a2), .int (bI a3)] (Mc, M, Mo) (.inr (some (.int res.1)), (Mc, res.2, Mo)) := by
  refine hy_of (by decide +kernel) (Nat.le_of_ble_eq_true rfl) ?_
  intro p e s m below meth c hx hb hml hown hts hr hlocks ht hX hP hS ls hl
  have hl : lv_has ls 4 [(0, .ref (adr G 30)), (1, .int a1), (2, .int (bI a2)), (3, .int (bI a3))] := hl
  rw [Rf_mark] at h
  refine lv_aload_n hx hb dX11_mark_0 rfl (lv_at hl 0 rfl) ?_
  refine lv_aload_n hx hb dX11_mark_1 rfl (lv_at hl 0 rfl) ?_
  refine lv_iload_n hx hb dX11_mark_2 rfl (lv_at hl 1 rfl) ?_
  refine hy_ret (hy_rV0 (T := (Mc, M, Mo)) (v := some (.int (bI (Rf_isNote a1 M)))) (T2 := (Mc, M, Mo)) (As := [.int a1]) (rest := [.ref (adr G 30)]) (n := 0) hx hb hml hown hts hX hP hS hl (c_Rf_isNote Mc Mo a1 M rfl) m_Rf_isNote q_1340 (hy_recv hX hP 30 10 (by decide) rfl rfl) rfl rfl (Nat.le_of_ble_eq_true rfl) dX11_mark_3 ⟨Nat.le_of_ble_eq_true rfl, Nat.le_of_ble_eq_true rfl⟩ ⟨Nat.zero_le _, Nat.zero_le _⟩) hS (fun H locs hP hS => ?_)
  have J20 : ∀ (H : Heap) (locs : List Loc) (ls : Array Slot) (u1 : Int32), u1 = (bI (!(Rf_isNote a1 M))) → va_P G.1 vwCl (wld G (Mc, M, Mo)) H → va_S (hyA G) s.heap H locs → lv_has ls 4 [(0, .ref (adr G 30)), (1, .int a1), (2, .int (bI a2)), (3, .int (bI a3))] → W p l e { frames := 2, cells := 0, slots := 6 * 0, locals := 44 } s m ([.ref (adr G 30), .int a1, .int (bI a2), .int (bI a3)] : List Value).toArray below meth c H locs 0 0 (vx_MQ below (hyQ G (.inr (some (.int res.1)), (Mc, res.2, Mo))) (hyXQ G (.inr (some (.int res.1)), (Mc, res.2, Mo))) ([.ref (adr G 30), .int a1, .int (bI a2), .int (bI a3)] : List Value).toArray s 0 (6 * 0) (hyA G)) (F0 m 14 ls [.int u1, .ref (adr G 30)]) := by
    intro H locs ls u1 eu1 hP hS hl
    subst eu1
    refine hy_putI (ty := .int) (T := (Mc, M, Mo)) (T2 := (Mc, (wI M 30 0 (bI (!(Rf_isNote a1 M)))), Mo)) (o := 30) (k := 0) hx hb hown hts hX hP hS (by decide) rfl rfl rfl rfl inX11g tyX11_ok nmX11 (by decide) q_1192 rfl rfl rfl rfl (Nat.le_of_ble_eq_true rfl) dX11_mark_14 (fun H locs hP hS => ?_)
    obtain ⟨M2, hM2, h⟩ := hy_bind h
    rw [Option.some.inj hM2] at hP
    refine lv_aload_n hx hb dX11_mark_17 rfl (lv_at hl 0 rfl) ?_
    refine hy_get (T := (Mc, M2, Mo)) (o := 30) (k := 0) (v := .int (M2.1 30 0)) hx hb hown hts hX hP (by decide) rfl rfl inX11g (by decide) q_1192 rfl dX11_mark_18 ?_
    refine lv_if_le (tgt := 26) hx hb dX11_mark_21 (by decide) (fun c3 => ?_) (fun c3 => ?_)
    · rw [if_pos c3] at h
      refine lv_aload_n hx hb dX11_mark_26 rfl (lv_at hl 0 rfl) ?_
      refine hy_get (T := (Mc, M2, Mo)) (o := 30) (k := 6) (v := .ref (adr G 34)) hx hb hown hts hX hP (by decide) rfl rfl inX11g (by decide) q_1198 rfl dX11_mark_27 ?_
      refine lv_iload_n hx hb dX11_mark_30 rfl (lv_at hl 1 rfl) ?_
      refine lv_iload_n hx hb dX11_mark_31 rfl (lv_at hl 2 rfl) ?_
      refine lv_if_eq (tgt := 39) hx hb dX11_mark_32 (by decide) (fun c4 => ?_) (fun c4 => ?_)
      · rw [if_neg (bI_0 c4)] at h
        refine lv_aload_n hx hb dX11_mark_39 rfl (lv_at hl 0 rfl) ?_
        refine hy_get (T := (Mc, M2, Mo)) (o := 30) (k := 6) (v := .ref (adr G 34)) hx hb hown hts hX hP (by decide) rfl rfl inX11g (by decide) q_1198 rfl dX11_mark_40 ?_
        refine lv_iload_n hx hb dX11_mark_43 rfl (lv_at hl 1 rfl) ?_
        obtain ⟨v5, hv5, h⟩ := hy_bind h
        obtain ⟨nv5, hv5⟩ := ldE_some hv5
        refine hy_zald (T := (Mc, M2, Mo)) hx hb hX hP 34 40 (M2.1 34) (by decide) rfl nv5 dX11_mark_44 ?_
        rw [hv5]
        obtain ⟨M6, hM6, h⟩ := hy_bind h
        obtain ⟨nM6, hM6⟩ := stE_some hM6
        refine hy_zast (T := (Mc, M2, Mo)) (T2 := (Mc, (wI M2 34 a1.toNatClampNeg (vp_nar .boolean v5)), Mo)) hx hb hX hP hS 34 40 (by decide) (fun _ _ => rfl) nM6 rfl rfl dX11_mark_45 (fun H locs hP hS => ?_)
        rw [hM6] at hP
        refine lv_aload_n hx hb dX11_mark_46 rfl (lv_at hl 0 rfl) ?_
        refine hy_get (T := (Mc, M6, Mo)) (o := 30) (k := 5) (v := .ref (adr G 33)) hx hb hown hts hX hP (by decide) rfl rfl inX11g (by decide) q_1197 rfl dX11_mark_47 ?_
        refine lv_iload_n hx hb dX11_mark_50 rfl (lv_at hl 1 rfl) ?_
        refine lv_iload_n hx hb dX11_mark_51 rfl (lv_at hl 2 rfl) ?_
        refine lv_if_eq (tgt := 64) hx hb dX11_mark_52 (by decide) (fun c7 => ?_) (fun c7 => ?_)
        · rw [if_neg (bI_0 c7)] at h
          refine lv_iload_n hx hb dX11_mark_64 rfl (lv_at hl 3 rfl) ?_
          obtain ⟨M8, hM8, h⟩ := hy_bind h
          obtain ⟨nM8, hM8⟩ := stE_some hM8
          refine hy_zast (T := (Mc, M6, Mo)) (T2 := (Mc, (wI M6 33 a1.toNatClampNeg (bI a3)), Mo)) hx hb hX hP hS 33 40 (by decide) (fun _ _ => rfl) nM8 (bI_vp _) rfl dX11_mark_65 (fun H locs hP hS => ?_)
          rw [hM8] at hP
          refine lv_aload_n hx hb dX11_mark_66 rfl (lv_at hl 0 rfl) ?_
          obtain ⟨M9, hM9, h⟩ := hy_bind h
          refine hy_ret (hy_rV0 (T := (Mc, M8, Mo)) (v := none) (T2 := (Mc, M9, Mo)) (As := []) (rest := []) (n := 0) hx hb hml hown hts hX hP hS hl (c_Rf_dropRepeats Mc Mo M8 hM9) m_Rf_dropRepeats q_1324 (hy_recv hX hP 30 10 (by decide) rfl rfl) rfl rfl (Nat.le_of_ble_eq_true rfl) dX11_mark_67 ⟨Nat.le_of_ble_eq_true rfl, Nat.le_of_ble_eq_true rfl⟩ ⟨Nat.zero_le _, Nat.zero_le _⟩) hS (fun H locs hP hS => ?_)
          refine lv_aload_n hx hb dX11_mark_70 rfl (lv_at hl 0 rfl) ?_
          refine hy_get (T := (Mc, M9, Mo)) (o := 30) (k := 21) (v := .int (M9.1 30 21)) hx hb hown hts hX hP (by decide) rfl rfl inX11g (by decide) q_1213 rfl dX11_mark_71 ?_
          exact hy_iret (T := (Mc, M9, Mo)) hx hb hr hlocks hP hS (Nat.zero_le _) (Nat.zero_le _) (by rw [← (Option.some.inj h)] <;> rfl) dX11_mark_74
        · rw [if_pos (bI_1 c7)] at h
          refine lv_aload_n hx hb dX11_mark_55 rfl (lv_at hl 0 rfl) ?_
          refine hy_get (T := (Mc, M6, Mo)) (o := 30) (k := 5) (v := .ref (adr G 33)) hx hb hown hts hX hP (by decide) rfl rfl inX11g (by decide) q_1197 rfl dX11_mark_56 ?_
          refine lv_iload_n hx hb dX11_mark_59 rfl (lv_at hl 1 rfl) ?_
          obtain ⟨v10, hv10, h⟩ := hy_bind h
          obtain ⟨nv10, hv10⟩ := ldE_some hv10
          refine hy_zald (T := (Mc, M6, Mo)) hx hb hX hP 33 40 (M6.1 33) (by decide) rfl nv10 dX11_mark_60 ?_
          rw [hv10]
          refine lv_goto (tgt := 65) hx hb dX11_mark_61 (by decide) ?_
          obtain ⟨M11, hM11, h⟩ := hy_bind h
          obtain ⟨nM11, hM11⟩ := stE_some hM11
          refine hy_zast (T := (Mc, M6, Mo)) (T2 := (Mc, (wI M6 33 a1.toNatClampNeg (vp_nar .boolean v10)), Mo)) hx hb hX hP hS 33 40 (by decide) (fun _ _ => rfl) nM11 rfl rfl dX11_mark_65 (fun H locs hP hS => ?_)
          rw [hM11] at hP
          refine lv_aload_n hx hb dX11_mark_66 rfl (lv_at hl 0 rfl) ?_
          obtain ⟨M12, hM12, h⟩ := hy_bind h
          refine hy_ret (hy_rV0 (T := (Mc, M11, Mo)) (v := none) (T2 := (Mc, M12, Mo)) (As := []) (rest := []) (n := 0) hx hb hml hown hts hX hP hS hl (c_Rf_dropRepeats Mc Mo M11 hM12) m_Rf_dropRepeats q_1324 (hy_recv hX hP 30 10 (by decide) rfl rfl) rfl rfl (Nat.le_of_ble_eq_true rfl) dX11_mark_67 ⟨Nat.le_of_ble_eq_true rfl, Nat.le_of_ble_eq_true rfl⟩ ⟨Nat.zero_le _, Nat.zero_le _⟩) hS (fun H locs hP hS => ?_)
          refine lv_aload_n hx hb dX11_mark_70 rfl (lv_at hl 0 rfl) ?_
          refine hy_get (T := (Mc, M12, Mo)) (o := 30) (k := 21) (v := .int (M12.1 30 21)) hx hb hown hts hX hP (by decide) rfl rfl inX11g (by decide) q_1213 rfl dX11_mark_71 ?_
          exact hy_iret (T := (Mc, M12, Mo)) hx hb hr hlocks hP hS (Nat.zero_le _) (Nat.zero_le _) (by rw [← (Option.some.inj h)] <;> rfl) dX11_mark_74
      · rw [if_pos (bI_1 c4)] at h
        refine lv_iload_n hx hb dX11_mark_35 rfl (lv_at hl 3 rfl) ?_
        refine lv_goto (tgt := 45) hx hb dX11_mark_36 (by decide) ?_
        obtain ⟨M13, hM13, h⟩ := hy_bind h
        obtain ⟨nM13, hM13⟩ := stE_some hM13
        refine hy_zast (T := (Mc, M2, Mo)) (T2 := (Mc, (wI M2 34 a1.toNatClampNeg (bI a3)), Mo)) hx hb hX hP hS 34 40 (by decide) (fun _ _ => rfl) nM13 (bI_vp _) rfl dX11_mark_45 (fun H locs hP hS => ?_)
        rw [hM13] at hP
        refine lv_aload_n hx hb dX11_mark_46 rfl (lv_at hl 0 rfl) ?_
        refine hy_get (T := (Mc, M13, Mo)) (o := 30) (k := 5) (v := .ref (adr G 33)) hx hb hown hts hX hP (by decide) rfl rfl inX11g (by decide) q_1197 rfl dX11_mark_47 ?_
        refine lv_iload_n hx hb dX11_mark_50 rfl (lv_at hl 1 rfl) ?_
        refine lv_iload_n hx hb dX11_mark_51 rfl (lv_at hl 2 rfl) ?_
        refine lv_if_eq (tgt := 64) hx hb dX11_mark_52 (by decide) (fun c14 => ?_) (fun c14 => ?_)
        · rw [if_neg (bI_0 c14)] at h
          refine lv_iload_n hx hb dX11_mark_64 rfl (lv_at hl 3 rfl) ?_
          obtain ⟨M15, hM15, h⟩ := hy_bind h
          obtain ⟨nM15, hM15⟩ := stE_some hM15
          refine hy_zast (T := (Mc, M13, Mo)) (T2 := (Mc, (wI M13 33 a1.toNatClampNeg (bI a3)), Mo)) hx hb hX hP hS 33 40 (by decide) (fun _ _ => rfl) nM15 (bI_vp _) rfl dX11_mark_65 (fun H locs hP hS => ?_)
          rw [hM15] at hP
          refine lv_aload_n hx hb dX11_mark_66 rfl (lv_at hl 0 rfl) ?_
          obtain ⟨M16, hM16, h⟩ := hy_bind h
          refine hy_ret (hy_rV0 (T := (Mc, M15, Mo)) (v := none) (T2 := (Mc, M16, Mo)) (As := []) (rest := []) (n := 0) hx hb hml hown hts hX hP hS hl (c_Rf_dropRepeats Mc Mo M15 hM16) m_Rf_dropRepeats q_1324 (hy_recv hX hP 30 10 (by decide) rfl rfl) rfl rfl (Nat.le_of_ble_eq_true rfl) dX11_mark_67 ⟨Nat.le_of_ble_eq_true rfl, Nat.le_of_ble_eq_true rfl⟩ ⟨Nat.zero_le _, Nat.zero_le _⟩) hS (fun H locs hP hS => ?_)
          refine lv_aload_n hx hb dX11_mark_70 rfl (lv_at hl 0 rfl) ?_
          refine hy_get (T := (Mc, M16, Mo)) (o := 30) (k := 21) (v := .int (M16.1 30 21)) hx hb hown hts hX hP (by decide) rfl rfl inX11g (by decide) q_1213 rfl dX11_mark_71 ?_
          exact hy_iret (T := (Mc, M16, Mo)) hx hb hr hlocks hP hS (Nat.zero_le _) (Nat.zero_le _) (by rw [← (Option.some.inj h)] <;> rfl) dX11_mark_74
        · rw [if_pos (bI_1 c14)] at h
          refine lv_aload_n hx hb dX11_mark_55 rfl (lv_at hl 0 rfl) ?_
          refine hy_get (T := (Mc, M13, Mo)) (o := 30) (k := 5) (v := .ref (adr G 33)) hx hb hown hts hX hP (by decide) rfl rfl inX11g (by decide) q_1197 rfl dX11_mark_56 ?_
          refine lv_iload_n hx hb dX11_mark_59 rfl (lv_at hl 1 rfl) ?_
          obtain ⟨v17, hv17, h⟩ := hy_bind h
          obtain ⟨nv17, hv17⟩ := ldE_some hv17
          refine hy_zald (T := (Mc, M13, Mo)) hx hb hX hP 33 40 (M13.1 33) (by decide) rfl nv17 dX11_mark_60 ?_
          rw [hv17]
          refine lv_goto (tgt := 65) hx hb dX11_mark_61 (by decide) ?_
          obtain ⟨M18, hM18, h⟩ := hy_bind h
          obtain ⟨nM18, hM18⟩ := stE_some hM18
          refine hy_zast (T := (Mc, M13, Mo)) (T2 := (Mc, (wI M13 33 a1.toNatClampNeg (vp_nar .boolean v17)), Mo)) hx hb hX hP hS 33 40 (by decide) (fun _ _ => rfl) nM18 rfl rfl dX11_mark_65 (fun H locs hP hS => ?_)
          rw [hM18] at hP
          refine lv_aload_n hx hb dX11_mark_66 rfl (lv_at hl 0 rfl) ?_
          obtain ⟨M19, hM19, h⟩ := hy_bind h
          refine hy_ret (hy_rV0 (T := (Mc, M18, Mo)) (v := none) (T2 := (Mc, M19, Mo)) (As := []) (rest := []) (n := 0) hx hb hml hown hts hX hP hS hl (c_Rf_dropRepeats Mc Mo M18 hM19) m_Rf_dropRepeats q_1324 (hy_recv hX hP 30 10 (by decide) rfl rfl) rfl rfl (Nat.le_of_ble_eq_true rfl) dX11_mark_67 ⟨Nat.le_of_ble_eq_true rfl, Nat.le_of_ble_eq_true rfl⟩ ⟨Nat.zero_le _, Nat.zero_le _⟩) hS (fun H locs hP hS => ?_)
          refine lv_aload_n hx hb dX11_mark_70 rfl (lv_at hl 0 rfl) ?_
          refine hy_get (T := (Mc, M19, Mo)) (o := 30) (k := 21) (v := .int (M19.1 30 21)) hx hb hown hts hX hP (by decide) rfl rfl inX11g (by decide) q_1213 rfl dX11_mark_71 ?_
          exact hy_iret (T := (Mc, M19, Mo)) hx hb hr hlocks hP hS (Nat.zero_le _) (Nat.zero_le _) (by rw [← (Option.some.inj h)] <;> rfl) dX11_mark_74
    · rw [if_neg c3] at h
      refine lv_iconst (v := 0) hx hb dX11_mark_24 rfl ?_
      exact hy_iret (T := (Mc, M2, Mo)) hx hb hr hlocks hP hS (Nat.zero_le _) (Nat.zero_le _) (by rw [← (Option.some.inj h)] <;> rfl) dX11_mark_25
  refine lv_if_eq (tgt := 13) hx hb dX11_mark_6 (by decide) (fun c1 => ?_) (fun c1 => ?_)
  · refine lv_iconst (v := 1) hx hb dX11_mark_13 rfl ?_
    exact J20 _ _ ls 1 (by rw [(bI_z c1)] <;> rfl) hP hS (lv_sub hl [0, 1, 2, 3] rfl)
  · refine lv_iconst (v := 0) hx hb dX11_mark_9 rfl ?_
    refine lv_goto (tgt := 14) hx hb dX11_mark_10 (by decide) ?_
    exact J20 _ _ ls 0 (by rw [(bI_1 c1)] <;> rfl) hP hS (lv_sub hl [0, 1, 2, 3] rfl)
set_option maxHeartbeats 1000000 in
set_option maxRecDepth 100000 in
theorem c_Rf_setBars {l : Launch} {G : hyG} (Mc Mo : hyM) (a1 : Int32) (a2 : Int32) (M : hyM) {res : (Int32 × hyM)} (h : Rf_setBars a1 a2 M = res) : hyC l yX11_setBars (.code yX11_setBars cX11_setBars 4 (some .int)) 1 22 (0) G [.ref (adr G 30), .int a1, .int a2] (Mc, M, Mo) (.inr (some (.int res.1)), (Mc, res.2, Mo)) := by
  refine hy_of (by decide +kernel) (Nat.le_of_ble_eq_true rfl) ?_
  intro p e s m below meth c hx hb hml hown hts hr hlocks ht hX hP hS ls hl
  have hl : lv_has ls 4 [(0, .ref (adr G 30)), (1, .int a1), (2, .int a2)] := hl
  rw [Rf_setBars] at h
  refine lv_aload_n hx hb dX11_setBars_0 rfl (lv_at hl 0 rfl) ?_
  refine lv_iload_n hx hb dX11_setBars_1 rfl (lv_at hl 1 rfl) ?_
  refine lv_iconst (v := 2) hx hb dX11_setBars_2 rfl ?_
  refine lv_bipush (v := 24) hx hb dX11_setBars_3 rfl ?_
  refine hy_ret (hy_rS0 (T := (Mc, M, Mo)) (v := some (.int (bI (Rf_within a1 2 24 M)))) (T2 := (Mc, M, Mo)) (As := [.int a1, .int 2, .int 24]) (rest := [.ref (adr G 30)]) (n := 0) hx hb hml hown hts hX hP hS hl (c_Rf_within Mc Mo a1 2 24 M rfl) m_Rf_within q_1310 rfl rfl (Nat.le_of_ble_eq_true rfl) dX11_setBars_5 ⟨Nat.le_of_ble_eq_true rfl, Nat.le_of_ble_eq_true rfl⟩ ⟨Nat.zero_le _, Nat.zero_le _⟩) hS (fun H locs hP hS => ?_)
  have J4 : ∀ (H : Heap) (locs : List Loc) (ls : Array Slot) (u1 : Int32), u1 = (bI (if (Rf_within a1 2 24 M) then (!(Rf_within a2 0 (a1 - 1) M)) else true)) → va_P G.1 vwCl (wld G (Mc, M, Mo)) H → va_S (hyA G) s.heap H locs → lv_has ls 4 [(0, .ref (adr G 30)), (1, .int a1), (2, .int a2)] → W p l e { frames := 1, cells := 0, slots := 6 * 0, locals := 22 } s m ([.ref (adr G 30), .int a1, .int a2] : List Value).toArray below meth c H locs 0 0 (vx_MQ below (hyQ G (.inr (some (.int res.1)), (Mc, res.2, Mo))) (hyXQ G (.inr (some (.int res.1)), (Mc, res.2, Mo))) ([.ref (adr G 30), .int a1, .int a2] : List Value).toArray s 0 (6 * 0) (hyA G)) (F0 m 27 ls [.int u1, .ref (adr G 30)]) := by
    intro H locs ls u1 eu1 hP hS hl
    subst eu1
    refine hy_putI (ty := .int) (T := (Mc, M, Mo)) (T2 := (Mc, (wI M 30 0 (bI (if (Rf_within a1 2 24 M) then (!(Rf_within a2 0 (a1 - 1) M)) else true))), Mo)) (o := 30) (k := 0) hx hb hown hts hX hP hS (by decide) rfl rfl rfl rfl inX11g tyX11_ok nmX11 (by decide) q_1192 rfl rfl rfl rfl (Nat.le_of_ble_eq_true rfl) dX11_setBars_27 (fun H locs hP hS => ?_)
    refine lv_aload_n hx hb dX11_setBars_30 rfl (lv_at hl 0 rfl) ?_
    refine hy_get (T := (Mc, (wI M 30 0 (bI (if (Rf_within a1 2 24 M) then (!(Rf_within a2 0 (a1 - 1) M)) else true))), Mo)) (o := 30) (k := 0) (v := .int ((wI M 30 0 (bI (if (Rf_within a1 2 24 M) then (!(Rf_within a2 0 (a1 - 1) M)) else true))).1 30 0)) hx hb hown hts hX hP (by decide) rfl rfl inX11g (by decide) q_1192 rfl dX11_setBars_31 ?_
    refine lv_if_le (tgt := 39) hx hb dX11_setBars_34 (by decide) (fun c3 => ?_) (fun c3 => ?_)
    · rw [if_pos c3] at h
      refine lv_aload_n hx hb dX11_setBars_39 rfl (lv_at hl 0 rfl) ?_
      refine hy_get (T := (Mc, (wI M 30 0 (bI (if (Rf_within a1 2 24 M) then (!(Rf_within a2 0 (a1 - 1) M)) else true))), Mo)) (o := 30) (k := 11) (v := .int ((wI M 30 0 (bI (if (Rf_within a1 2 24 M) then (!(Rf_within a2 0 (a1 - 1) M)) else true))).1 30 11)) hx hb hown hts hX hP (by decide) rfl rfl inX11g (by decide) q_1203 rfl dX11_setBars_40 ?_
      refine lv_istore_n (lv' := [(3, .int ((wI M 30 0 (bI (if (Rf_within a1 2 24 M) then (!(Rf_within a2 0 (a1 - 1) M)) else true))).1 30 11)), (0, .ref (adr G 30)), (1, .int a1), (2, .int a2)]) hx hb dX11_setBars_43 rfl hl (by decide) rfl (fun ls hl => ?_)
      refine lv_aload_n hx hb dX11_setBars_44 rfl (lv_at hl 1 rfl) ?_
      refine lv_iload_n hx hb dX11_setBars_45 rfl (lv_at hl 2 rfl) ?_
      refine hy_putI (ty := .int) (T := (Mc, (wI M 30 0 (bI (if (Rf_within a1 2 24 M) then (!(Rf_within a2 0 (a1 - 1) M)) else true))), Mo)) (T2 := (Mc, (wI (wI M 30 0 (bI (if (Rf_within a1 2 24 M) then (!(Rf_within a2 0 (a1 - 1) M)) else true))) 30 11 a1), Mo)) (o := 30) (k := 11) hx hb hown hts hX hP hS (by decide) rfl rfl rfl rfl inX11g tyX11_ok nmX11 (by decide) q_1203 rfl rfl rfl rfl (Nat.le_of_ble_eq_true rfl) dX11_setBars_46 (fun H locs hP hS => ?_)
      refine lv_aload_n hx hb dX11_setBars_49 rfl (lv_at hl 1 rfl) ?_
      refine lv_iload_n hx hb dX11_setBars_50 rfl (lv_at hl 3 rfl) ?_
      refine hy_putI (ty := .int) (T := (Mc, (wI (wI M 30 0 (bI (if (Rf_within a1 2 24 M) then (!(Rf_within a2 0 (a1 - 1) M)) else true))) 30 11 a1), Mo)) (T2 := (Mc, (wI (wI (wI M 30 0 (bI (if (Rf_within a1 2 24 M) then (!(Rf_within a2 0 (a1 - 1) M)) else true))) 30 11 a1) 30 12 a2), Mo)) (o := 30) (k := 12) hx hb hown hts hX hP hS (by decide) rfl rfl rfl rfl inX11g tyX11_ok nmX11 (by decide) q_1204 rfl rfl rfl rfl (Nat.le_of_ble_eq_true rfl) dX11_setBars_51 (fun H locs hP hS => ?_)
      refine lv_iload_n hx hb dX11_setBars_54 rfl (lv_at hl 0 rfl) ?_
      exact hy_iret (T := (Mc, (wI (wI (wI M 30 0 (bI (if (Rf_within a1 2 24 M) then (!(Rf_within a2 0 (a1 - 1) M)) else true))) 30 11 a1) 30 12 a2), Mo)) hx hb hr hlocks hP hS (Nat.zero_le _) (Nat.zero_le _) (by rw [← h] <;> rfl) dX11_setBars_55
    · rw [if_neg c3] at h
      refine lv_iconst (v := 0) hx hb dX11_setBars_37 rfl ?_
      exact hy_iret (T := (Mc, (wI M 30 0 (bI (if (Rf_within a1 2 24 M) then (!(Rf_within a2 0 (a1 - 1) M)) else true))), Mo)) hx hb hr hlocks hP hS (Nat.zero_le _) (Nat.zero_le _) (by rw [← h] <;> rfl) dX11_setBars_38
  refine lv_if_eq (tgt := 26) hx hb dX11_setBars_8 (by decide) (fun c1 => ?_) (fun c1 => ?_)
  · refine lv_iconst (v := 1) hx hb dX11_setBars_26 rfl ?_
    exact J4 _ _ ls 1 (by rw [if_neg (bI_0 c1)] <;> rfl) hP hS (lv_sub hl [0, 1, 2] rfl)
  · refine lv_iload_n hx hb dX11_setBars_11 rfl (lv_at hl 2 rfl) ?_
    refine lv_iconst (v := 0) hx hb dX11_setBars_12 rfl ?_
    refine lv_iload_n hx hb dX11_setBars_13 rfl (lv_at hl 1 rfl) ?_
    refine lv_iconst (v := 1) hx hb dX11_setBars_14 rfl ?_
    refine lv_isub hx hb dX11_setBars_15 ?_
    refine hy_ret (hy_rS0 (T := (Mc, M, Mo)) (v := some (.int (bI (Rf_within a2 0 (a1 - 1) M)))) (T2 := (Mc, M, Mo)) (As := [.int a2, .int 0, .int (a1 - 1)]) (rest := [.ref (adr G 30)]) (n := 0) hx hb hml hown hts hX hP hS hl (c_Rf_within Mc Mo a2 0 (a1 - 1) M rfl) m_Rf_within q_1310 rfl rfl (Nat.le_of_ble_eq_true rfl) dX11_setBars_16 ⟨Nat.le_of_ble_eq_true rfl, Nat.le_of_ble_eq_true rfl⟩ ⟨Nat.zero_le _, Nat.zero_le _⟩) hS (fun H locs hP hS => ?_)
    refine lv_if_eq (tgt := 26) hx hb dX11_setBars_19 (by decide) (fun c2 => ?_) (fun c2 => ?_)
    · refine lv_iconst (v := 1) hx hb dX11_setBars_26 rfl ?_
      exact J4 _ _ ls 1 (by rw [if_pos (bI_1 c1), (bI_z c2)] <;> rfl) hP hS (lv_sub hl [0, 1, 2] rfl)
    · refine lv_iconst (v := 0) hx hb dX11_setBars_22 rfl ?_
      refine lv_goto (tgt := 27) hx hb dX11_setBars_23 (by decide) ?_
      exact J4 _ _ ls 0 (by rw [if_pos (bI_1 c1), (bI_1 c2)] <;> rfl) hP hS (lv_sub hl [0, 1, 2] rfl)
set_option maxHeartbeats 1000000 in
set_option maxRecDepth 100000 in
theorem c_Rf_isApart {l : Launch} {G : hyG} (Mc Mo : hyM) (a1 : Int32) (a2 : Int32) (M : hyM) {res : Bool} (h : Rf_isApart a1 a2 M = some res) : hyC l yX11_isApart (.code yX11_isApart cX11_isApart 5 (some .boolean)) 0 0 (0) G [.ref (adr G 30), .int a1, .int a2] (Mc, M, Mo) (.inr (some (.int (bI res))), (Mc, M, Mo)) := by
  refine hy_of (by decide +kernel) (Nat.le_of_ble_eq_true rfl) ?_
  intro p e s m below meth c hx hb hml hown hts hr hlocks ht hX hP hS ls hl
  have hl : lv_has ls 5 [(0, .ref (adr G 30)), (1, .int a1), (2, .int a2)] := hl
  rw [Rf_isApart] at h
  refine lv_iconst (v := 1) hx hb dX11_isApart_0 rfl ?_
  refine lv_istore_n (lv' := [(3, .int 1), (0, .ref (adr G 30)), (1, .int a1), (2, .int a2)]) hx hb dX11_isApart_1 rfl hl (by decide) rfl (fun ls hl => ?_)
  refine lv_iconst (v := 0) hx hb dX11_isApart_2 rfl ?_
  refine lv_istore (lv' := [(4, .int 0), (3, .int 1), (0, .ref (adr G 30)), (1, .int a1), (2, .int a2)]) hx hb dX11_isApart_3 hl (by decide) rfl (fun ls hl => ?_)
  have L10 : ∀ (f : Nat) (x1 : Bool) (x2 : Int32) (qL : (Bool × Int32)) (h : Rf_isApart_L5 a1 a2 M f x1 x2 = some qL) (H : Heap) (locs : List Loc) (ls : Array Slot) (hP : va_P G.1 vwCl (wld G (Mc, M, Mo)) H) (hS : va_S (hyA G) s.heap H locs) (hl : lv_has ls 5 [(0, .ref (adr G 30)), (1, .int a1), (2, .int a2), (3, .int (bI x1)), (4, .int x2)]) (kk : ∀ (y1 : Bool) (y2 : Int32), qL = (y1, y2) → ∀ (H : Heap) (locs : List Loc) (ls : Array Slot), va_P G.1 vwCl (wld G (Mc, M, Mo)) H → va_S (hyA G) s.heap H locs → lv_has ls 5 [(0, .ref (adr G 30)), (1, .int a1), (2, .int a2), (3, .int (bI y1)), (4, .int y2)] → W p l e { frames := 0, cells := 0, slots := 6 * 0, locals := 0 } s m ([.ref (adr G 30), .int a1, .int a2] : List Value).toArray below meth c H locs 0 0 (vx_MQ below (hyQ G (.inr (some (.int (bI res))), (Mc, M, Mo))) (hyXQ G (.inr (some (.int (bI res))), (Mc, M, Mo))) ([.ref (adr G 30), .int a1, .int a2] : List Value).toArray s 0 (6 * 0) (hyA G)) (F0 m 52 ls [])), W p l e { frames := 0, cells := 0, slots := 6 * 0, locals := 0 } s m ([.ref (adr G 30), .int a1, .int a2] : List Value).toArray below meth c H locs 0 0 (vx_MQ below (hyQ G (.inr (some (.int (bI res))), (Mc, M, Mo))) (hyXQ G (.inr (some (.int (bI res))), (Mc, M, Mo))) ([.ref (adr G 30), .int a1, .int a2] : List Value).toArray s 0 (6 * 0) (hyA G)) (F0 m 5 ls []) := by
    intro f
    induction f with
    | zero =>
      intro x1 x2 qL h H locs ls hP hS hl kk
      rw [Rf_isApart_L5] at h
      cases h
    | succ f ih =>
      intro x1 x2 qL h H locs ls hP hS hl kk
      rw [Rf_isApart_L5] at h
      refine lv_iload hx hb dX11_isApart_5 (lv_at hl 4 rfl) ?_
      refine lv_aload_n hx hb dX11_isApart_7 rfl (lv_at hl 0 rfl) ?_
      refine hy_get (T := (Mc, M, Mo)) (o := 30) (k := 7) (v := .int (M.1 30 7)) hx hb hown hts hX hP (by decide) rfl rfl inX11g (by decide) q_1199 rfl dX11_isApart_8 ?_
      refine lv_icmp_ge (tgt := 52) hx hb dX11_isApart_11 (by decide) (fun c3 => ?_) (fun c3 => ?_)
      · rw [if_pos c3] at h
        exact kk x1 x2 (Option.some.inj h).symm _ _ ls hP hS (lv_sub hl [0, 1, 2, 3, 4] rfl)
      · rw [if_neg c3] at h
        refine lv_iload_n hx hb dX11_isApart_14 rfl (lv_at hl 3 rfl) ?_
        refine lv_if_eq (tgt := 44) hx hb dX11_isApart_15 (by decide) (fun c4 => ?_) (fun c4 => ?_)
        · rw [if_neg (bI_0 c4)] at h
          refine lv_iconst (v := 0) hx hb dX11_isApart_44 rfl ?_
          refine lv_istore_n (lv' := [(3, .int 0), (0, .ref (adr G 30)), (1, .int a1), (2, .int a2), (4, .int x2)]) hx hb dX11_isApart_45 rfl hl (by decide) rfl (fun ls hl => ?_)
          refine lv_iinc (v := (x2 + 1)) (lv' := [(4, .int (x2 + 1)), (3, .int 0), (0, .ref (adr G 30)), (1, .int a1), (2, .int a2)]) hx hb dX11_isApart_46 hl (k := 4) rfl rfl (by decide) rfl (fun ls hl => ?_)
          refine lv_goto (tgt := 5) hx hb dX11_isApart_49 (by decide) ?_
          exact ih false (x2 + 1) _ h  _ _ ls hP hS (lv_sub hl [2, 3, 4, 1, 0] rfl) kk
        · rw [if_pos (bI_1 c4)] at h
          refine lv_iload_n hx hb dX11_isApart_18 rfl (lv_at hl 2 rfl) ?_
          refine lv_aload_n hx hb dX11_isApart_19 rfl (lv_at hl 0 rfl) ?_
          refine hy_get (T := (Mc, M, Mo)) (o := 30) (k := 8) (v := .ref (adr G 35)) hx hb hown hts hX hP (by decide) rfl rfl inX11g (by decide) q_1200 rfl dX11_isApart_20 ?_
          refine lv_iload hx hb dX11_isApart_23 (lv_at hl 4 rfl) ?_
          obtain ⟨v5, hv5, h⟩ := hy_bind h
          obtain ⟨nv5, hv5⟩ := ldE_some hv5
          refine hy_iald (T := (Mc, M, Mo)) hx hb hX hP 35 3 (M.1 35) (by decide) rfl nv5 dX11_isApart_25 ?_
          rw [hv5]
          refine lv_icmp_lt (tgt := 40) hx hb dX11_isApart_26 (by decide) (fun c6 => ?_) (fun c6 => ?_)
          · rw [if_pos c6] at h
            refine lv_iconst (v := 1) hx hb dX11_isApart_40 rfl ?_
            refine lv_goto (tgt := 45) hx hb dX11_isApart_41 (by decide) ?_
            refine lv_istore_n (lv' := [(3, .int 1), (0, .ref (adr G 30)), (1, .int a1), (2, .int a2), (4, .int x2)]) hx hb dX11_isApart_45 rfl hl (by decide) rfl (fun ls hl => ?_)
            refine lv_iinc (v := (x2 + 1)) (lv' := [(4, .int (x2 + 1)), (3, .int 1), (0, .ref (adr G 30)), (1, .int a1), (2, .int a2)]) hx hb dX11_isApart_46 hl (k := 4) rfl rfl (by decide) rfl (fun ls hl => ?_)
            refine lv_goto (tgt := 5) hx hb dX11_isApart_49 (by decide) ?_
            exact ih true (x2 + 1) _ h  _ _ ls hP hS (lv_sub hl [2, 3, 4, 1, 0] rfl) kk
          · rw [if_neg c6] at h
            refine lv_iload_n hx hb dX11_isApart_29 rfl (lv_at hl 1 rfl) ?_
            refine lv_aload_n hx hb dX11_isApart_30 rfl (lv_at hl 0 rfl) ?_
            refine hy_get (T := (Mc, M, Mo)) (o := 30) (k := 9) (v := .ref (adr G 36)) hx hb hown hts hX hP (by decide) rfl rfl inX11g (by decide) q_1201 rfl dX11_isApart_31 ?_
            refine lv_iload hx hb dX11_isApart_34 (lv_at hl 4 rfl) ?_
            obtain ⟨v7, hv7, h⟩ := hy_bind h
            obtain ⟨nv7, hv7⟩ := ldE_some hv7
            refine hy_iald (T := (Mc, M, Mo)) hx hb hX hP 36 3 (M.1 36) (by decide) rfl nv7 dX11_isApart_36 ?_
            rw [hv7]
            have J9 : ∀ (H : Heap) (locs : List Loc) (ls : Array Slot) (u1 : Int32), u1 = (bI (!decide (a1 ≤ v7))) → va_P G.1 vwCl (wld G (Mc, M, Mo)) H → va_S (hyA G) s.heap H locs → lv_has ls 5 [(0, .ref (adr G 30)), (1, .int a1), (2, .int a2), (3, .int (bI x1)), (4, .int x2)] → W p l e { frames := 0, cells := 0, slots := 6 * 0, locals := 0 } s m ([.ref (adr G 30), .int a1, .int a2] : List Value).toArray below meth c H locs 0 0 (vx_MQ below (hyQ G (.inr (some (.int (bI res))), (Mc, M, Mo))) (hyXQ G (.inr (some (.int (bI res))), (Mc, M, Mo))) ([.ref (adr G 30), .int a1, .int a2] : List Value).toArray s 0 (6 * 0) (hyA G)) (F0 m 45 ls [.int u1]) := by
              intro H locs ls u1 eu1 hP hS hl
              subst eu1
              refine lv_istore_n (lv' := [(3, .int (bI (!decide (a1 ≤ v7)))), (0, .ref (adr G 30)), (1, .int a1), (2, .int a2), (4, .int x2)]) hx hb dX11_isApart_45 rfl hl (by decide) rfl (fun ls hl => ?_)
              refine lv_iinc (v := (x2 + 1)) (lv' := [(4, .int (x2 + 1)), (3, .int (bI (!decide (a1 ≤ v7)))), (0, .ref (adr G 30)), (1, .int a1), (2, .int a2)]) hx hb dX11_isApart_46 hl (k := 4) rfl rfl (by decide) rfl (fun ls hl => ?_)
              refine lv_goto (tgt := 5) hx hb dX11_isApart_49 (by decide) ?_
              exact ih (!decide (a1 ≤ v7)) (x2 + 1) _ h  _ _ ls hP hS (lv_sub hl [2, 3, 4, 1, 0] rfl) kk
            refine lv_icmp_le (tgt := 44) hx hb dX11_isApart_37 (by decide) (fun c8 => ?_) (fun c8 => ?_)
            · refine lv_iconst (v := 0) hx hb dX11_isApart_44 rfl ?_
              exact J9 _ _ ls 0 (by rw [decide_eq_true c8] <;> rfl) hP hS (lv_sub hl [0, 1, 2, 3, 4] rfl)
            · refine lv_iconst (v := 1) hx hb dX11_isApart_40 rfl ?_
              refine lv_goto (tgt := 45) hx hb dX11_isApart_41 (by decide) ?_
              exact J9 _ _ ls 1 (by rw [decide_eq_false c8] <;> rfl) hP hS (lv_sub hl [0, 1, 2, 3, 4] rfl)
  obtain ⟨q11, hq11, h⟩ := hy_bind h
  refine L10 hyFu true 0 q11 hq11 _ _ ls hP hS (lv_sub hl [2, 3, 4, 1, 0] rfl) ?_
  intro y1 y2 e9 H locs ls hP hS hl
  subst e9
  try dsimp only at h
  refine lv_iload_n hx hb dX11_isApart_52 rfl (lv_at hl 3 rfl) ?_
  exact hy_zret (T := (Mc, M, Mo)) hx hb hr hlocks hP hS (Nat.zero_le _) (Nat.zero_le _) (bI_nar y1) (by rw [← (Option.some.inj h)] <;> rfl) dX11_isApart_53
set_option maxHeartbeats 1000000 in
set_option maxRecDepth 100000 in
theorem c_Rf_repeat {l : Launch} {G : hyG} (Mc Mo : hyM) (a1 : Int32) (a2 : Int32) (a3 : Int32) (M : hyM) {res : (Int32 × hyM)} (h : Rf_repeat a1 a2 a3 M = some res) : hyC l yX11_repeat (.code yX11_repeat cX11_repeat 6 (some .int)) 2 46 (0) G [.ref (adr G 30), .int a1, .int a2, .int a3] (Mc, M, Mo) (.inr (some (.int res.1)), (Mc, res.2, Mo)) := by
  refine hy_of (by decide +kernel) (Nat.le_of_ble_eq_true rfl) ?_
  intro p e s m below meth c hx hb hml hown hts hr hlocks ht hX hP hS ls hl
  have hl : lv_has ls 6 [(0, .ref (adr G 30)), (1, .int a1), (2, .int a2), (3, .int a3)] := hl
  rw [Rf_repeat] at h
  refine lv_aload_n hx hb dX11_repeat_0 rfl (lv_at hl 0 rfl) ?_
  obtain ⟨M1, hM1, h⟩ := hy_bind h
  refine hy_ret (hy_rV0 (T := (Mc, M, Mo)) (v := none) (T2 := (Mc, M1, Mo)) (As := []) (rest := []) (n := 0) hx hb hml hown hts hX hP hS hl (c_Rf_layPhrases Mc Mo M hM1) m_Rf_layPhrases q_1328 (hy_recv hX hP 30 10 (by decide) rfl rfl) rfl rfl (Nat.le_of_ble_eq_true rfl) dX11_repeat_1 ⟨Nat.le_of_ble_eq_true rfl, Nat.le_of_ble_eq_true rfl⟩ ⟨Nat.zero_le _, Nat.zero_le _⟩) hS (fun H locs hP hS => ?_)
  refine lv_iload_n hx hb dX11_repeat_4 rfl (lv_at hl 1 rfl) ?_
  refine lv_iconst (v := 0) hx hb dX11_repeat_5 rfl ?_
  refine lv_aload_n hx hb dX11_repeat_6 rfl (lv_at hl 0 rfl) ?_
  refine hy_get (T := (Mc, M1, Mo)) (o := 30) (k := 21) (v := .int (M1.1 30 21)) hx hb hown hts hX hP (by decide) rfl rfl inX11g (by decide) q_1213 rfl dX11_repeat_7 ?_
  refine lv_iconst (v := 1) hx hb dX11_repeat_10 rfl ?_
  refine lv_isub hx hb dX11_repeat_11 ?_
  refine hy_ret (hy_rS0 (T := (Mc, M1, Mo)) (v := some (.int (bI (Rf_within a1 0 ((M1.1 30 21) - 1) M1)))) (T2 := (Mc, M1, Mo)) (As := [.int a1, .int 0, .int ((M1.1 30 21) - 1)]) (rest := []) (n := 0) hx hb hml hown hts hX hP hS hl (c_Rf_within Mc Mo a1 0 ((M1.1 30 21) - 1) M1 rfl) m_Rf_within q_1310 rfl rfl (Nat.le_of_ble_eq_true rfl) dX11_repeat_12 ⟨Nat.le_of_ble_eq_true rfl, Nat.le_of_ble_eq_true rfl⟩ ⟨Nat.zero_le _, Nat.zero_le _⟩) hS (fun H locs hP hS => ?_)
  have J41 : ∀ (H : Heap) (locs : List Loc) (ls : Array Slot) (u1 : Int32), u1 = (bI (if (Rf_within a1 0 ((M1.1 30 21) - 1) M1) then (Rf_within a2 0 ((M1.1 30 21) - 1) M1) else false)) → va_P G.1 vwCl (wld G (Mc, M1, Mo)) H → va_S (hyA G) s.heap H locs → lv_has ls 6 [(0, .ref (adr G 30)), (1, .int a1), (2, .int a2), (3, .int a3)] → W p l e { frames := 2, cells := 0, slots := 6 * 0, locals := 46 } s m ([.ref (adr G 30), .int a1, .int a2, .int a3] : List Value).toArray below meth c H locs 0 0 (vx_MQ below (hyQ G (.inr (some (.int res.1)), (Mc, res.2, Mo))) (hyXQ G (.inr (some (.int res.1)), (Mc, res.2, Mo))) ([.ref (adr G 30), .int a1, .int a2, .int a3] : List Value).toArray s 0 (6 * 0) (hyA G)) (F0 m 37 ls [.int u1]) := by
    intro H locs ls u1 eu1 hP hS hl
    subst eu1
    refine lv_istore (lv' := [(4, .int (bI (if (Rf_within a1 0 ((M1.1 30 21) - 1) M1) then (Rf_within a2 0 ((M1.1 30 21) - 1) M1) else false))), (0, .ref (adr G 30)), (1, .int a1), (2, .int a2), (3, .int a3)]) hx hb dX11_repeat_37 hl (by decide) rfl (fun ls hl => ?_)
    refine lv_iload_n hx hb dX11_repeat_39 rfl (lv_at hl 3 rfl) ?_
    refine lv_iload_n hx hb dX11_repeat_40 rfl (lv_at hl 2 rfl) ?_
    have J40 : ∀ (H : Heap) (locs : List Loc) (ls : Array Slot) (u1 : Int32), u1 = (bI (if a2 < a1 then false else (Rf_within a3 0 (a2 - a1) M1))) → va_P G.1 vwCl (wld G (Mc, M1, Mo)) H → va_S (hyA G) s.heap H locs → lv_has ls 6 [(0, .ref (adr G 30)), (1, .int a1), (2, .int a2), (3, .int a3), (4, .int (bI (if (Rf_within a1 0 ((M1.1 30 21) - 1) M1) then (Rf_within a2 0 ((M1.1 30 21) - 1) M1) else false)))] → W p l e { frames := 2, cells := 0, slots := 6 * 0, locals := 46 } s m ([.ref (adr G 30), .int a1, .int a2, .int a3] : List Value).toArray below meth c H locs 0 0 (vx_MQ below (hyQ G (.inr (some (.int res.1)), (Mc, res.2, Mo))) (hyXQ G (.inr (some (.int res.1)), (Mc, res.2, Mo))) ([.ref (adr G 30), .int a1, .int a2, .int a3] : List Value).toArray s 0 (6 * 0) (hyA G)) (F0 m 60 ls [.int u1]) := by
      intro H locs ls u1 eu1 hP hS hl
      subst eu1
      refine lv_istore (lv' := [(5, .int (bI (if a2 < a1 then false else (Rf_within a3 0 (a2 - a1) M1)))), (0, .ref (adr G 30)), (1, .int a1), (2, .int a2), (3, .int a3), (4, .int (bI (if (Rf_within a1 0 ((M1.1 30 21) - 1) M1) then (Rf_within a2 0 ((M1.1 30 21) - 1) M1) else false)))]) hx hb dX11_repeat_60 hl (by decide) rfl (fun ls hl => ?_)
      refine lv_aload_n hx hb dX11_repeat_62 rfl (lv_at hl 1 rfl) ?_
      refine lv_iload hx hb dX11_repeat_63 (lv_at hl 5 rfl) ?_
      refine lv_if_ne (tgt := 72) hx hb dX11_repeat_65 (by decide) (fun c6 => ?_) (fun c6 => ?_)
      · rw [if_pos (bI_1 c6)] at h
        refine lv_iload hx hb dX11_repeat_72 (lv_at hl 0 rfl) ?_
        refine lv_if_ne (tgt := 81) hx hb dX11_repeat_74 (by decide) (fun c7 => ?_) (fun c7 => ?_)
        · rw [if_pos (bI_1 c7)] at h
          refine lv_aload_n hx hb dX11_repeat_81 rfl (lv_at hl 1 rfl) ?_
          refine hy_get (T := (Mc, M1, Mo)) (o := 30) (k := 7) (v := .int (M1.1 30 7)) hx hb hown hts hX hP (by decide) rfl rfl inX11g (by decide) q_1199 rfl dX11_repeat_82 ?_
          refine lv_iconst (v := 3) hx hb dX11_repeat_85 rfl ?_
          refine lv_icmp_ge (tgt := 102) hx hb dX11_repeat_86 (by decide) (fun c8 => ?_) (fun c8 => ?_)
          · rw [if_pos c8] at h
            refine lv_iconst (v := 3) hx hb dX11_repeat_102 rfl ?_
            refine hy_putI (ty := .int) (T := (Mc, M1, Mo)) (T2 := (Mc, (wI M1 30 0 3), Mo)) (o := 30) (k := 0) hx hb hown hts hX hP hS (by decide) rfl rfl rfl rfl inX11g tyX11_ok nmX11 (by decide) q_1192 rfl rfl rfl rfl (Nat.le_of_ble_eq_true rfl) dX11_repeat_103 (fun H locs hP hS => ?_)
            obtain ⟨M9, hM9, h⟩ := hy_bind h
            rw [Option.some.inj hM9] at hP
            refine lv_aload_n hx hb dX11_repeat_106 rfl (lv_at hl 1 rfl) ?_
            refine hy_get (T := (Mc, M9, Mo)) (o := 30) (k := 0) (v := .int (M9.1 30 0)) hx hb hown hts hX hP (by decide) rfl rfl inX11g (by decide) q_1192 rfl dX11_repeat_107 ?_
            refine lv_if_le (tgt := 115) hx hb dX11_repeat_110 (by decide) (fun c10 => ?_) (fun c10 => ?_)
            · rw [if_pos c10] at h
              refine lv_aload_n hx hb dX11_repeat_115 rfl (lv_at hl 1 rfl) ?_
              refine hy_get (T := (Mc, M9, Mo)) (o := 30) (k := 8) (v := .ref (adr G 35)) hx hb hown hts hX hP (by decide) rfl rfl inX11g (by decide) q_1200 rfl dX11_repeat_116 ?_
              refine lv_aload_n hx hb dX11_repeat_119 rfl (lv_at hl 1 rfl) ?_
              refine hy_get (T := (Mc, M9, Mo)) (o := 30) (k := 7) (v := .int (M9.1 30 7)) hx hb hown hts hX hP (by decide) rfl rfl inX11g (by decide) q_1199 rfl dX11_repeat_120 ?_
              refine lv_iload_n hx hb dX11_repeat_123 rfl (lv_at hl 2 rfl) ?_
              obtain ⟨M11, hM11, h⟩ := hy_bind h
              obtain ⟨nM11, hM11⟩ := stE_some hM11
              refine hy_iast (T := (Mc, M9, Mo)) (T2 := (Mc, (wI M9 35 (M9.1 30 7).toNatClampNeg a1), Mo)) hx hb hX hP hS 35 3 (by decide) (fun _ _ => rfl) nM11 rfl dX11_repeat_124 (fun H locs hP hS => ?_)
              rw [hM11] at hP
              refine lv_aload_n hx hb dX11_repeat_125 rfl (lv_at hl 1 rfl) ?_
              refine hy_get (T := (Mc, M11, Mo)) (o := 30) (k := 9) (v := .ref (adr G 36)) hx hb hown hts hX hP (by decide) rfl rfl inX11g (by decide) q_1201 rfl dX11_repeat_126 ?_
              refine lv_aload_n hx hb dX11_repeat_129 rfl (lv_at hl 1 rfl) ?_
              refine hy_get (T := (Mc, M11, Mo)) (o := 30) (k := 7) (v := .int (M11.1 30 7)) hx hb hown hts hX hP (by decide) rfl rfl inX11g (by decide) q_1199 rfl dX11_repeat_130 ?_
              refine lv_iload_n hx hb dX11_repeat_133 rfl (lv_at hl 3 rfl) ?_
              obtain ⟨M12, hM12, h⟩ := hy_bind h
              obtain ⟨nM12, hM12⟩ := stE_some hM12
              refine hy_iast (T := (Mc, M11, Mo)) (T2 := (Mc, (wI M11 36 (M11.1 30 7).toNatClampNeg a2), Mo)) hx hb hX hP hS 36 3 (by decide) (fun _ _ => rfl) nM12 rfl dX11_repeat_134 (fun H locs hP hS => ?_)
              rw [hM12] at hP
              refine lv_aload_n hx hb dX11_repeat_135 rfl (lv_at hl 1 rfl) ?_
              refine hy_get (T := (Mc, M12, Mo)) (o := 30) (k := 10) (v := .ref (adr G 37)) hx hb hown hts hX hP (by decide) rfl rfl inX11g (by decide) q_1202 rfl dX11_repeat_136 ?_
              refine lv_aload_n hx hb dX11_repeat_139 rfl (lv_at hl 1 rfl) ?_
              refine hy_get (T := (Mc, M12, Mo)) (o := 30) (k := 7) (v := .int (M12.1 30 7)) hx hb hown hts hX hP (by decide) rfl rfl inX11g (by decide) q_1199 rfl dX11_repeat_140 ?_
              refine lv_iload_n hx hb dX11_repeat_143 rfl (lv_at hl 4 rfl) ?_
              obtain ⟨M13, hM13, h⟩ := hy_bind h
              obtain ⟨nM13, hM13⟩ := stE_some hM13
              refine hy_iast (T := (Mc, M12, Mo)) (T2 := (Mc, (wI M12 37 (M12.1 30 7).toNatClampNeg a3), Mo)) hx hb hX hP hS 37 3 (by decide) (fun _ _ => rfl) nM13 rfl dX11_repeat_144 (fun H locs hP hS => ?_)
              rw [hM13] at hP
              refine lv_aload_n hx hb dX11_repeat_145 rfl (lv_at hl 1 rfl) ?_
              refine lv_dup hx hb dX11_repeat_146 rfl ?_
              refine hy_get (T := (Mc, M13, Mo)) (o := 30) (k := 7) (v := .int (M13.1 30 7)) hx hb hown hts hX hP (by decide) rfl rfl inX11g (by decide) q_1199 rfl dX11_repeat_147 ?_
              refine lv_iconst (v := 1) hx hb dX11_repeat_150 rfl ?_
              refine lv_iadd hx hb dX11_repeat_151 ?_
              refine hy_putI (ty := .int) (T := (Mc, M13, Mo)) (T2 := (Mc, (wI M13 30 7 ((M13.1 30 7) + 1)), Mo)) (o := 30) (k := 7) hx hb hown hts hX hP hS (by decide) rfl rfl rfl rfl inX11g tyX11_ok nmX11 (by decide) q_1199 rfl rfl rfl rfl (Nat.le_of_ble_eq_true rfl) dX11_repeat_152 (fun H locs hP hS => ?_)
              obtain ⟨M14, hM14, h⟩ := hy_bind h
              rw [Option.some.inj hM14] at hP
              refine lv_aload_n hx hb dX11_repeat_155 rfl (lv_at hl 1 rfl) ?_
              obtain ⟨M15, hM15, h⟩ := hy_bind h
              refine hy_ret (hy_rV0 (T := (Mc, M14, Mo)) (v := none) (T2 := (Mc, M15, Mo)) (As := []) (rest := []) (n := 0) hx hb hml hown hts hX hP hS hl (c_Rf_laySung Mc Mo M14 hM15) m_Rf_laySung q_1360 (hy_recv hX hP 30 10 (by decide) rfl rfl) rfl rfl (Nat.le_of_ble_eq_true rfl) dX11_repeat_156 ⟨Nat.le_of_ble_eq_true rfl, Nat.le_of_ble_eq_true rfl⟩ ⟨Nat.zero_le _, Nat.zero_le _⟩) hS (fun H locs hP hS => ?_)
              refine lv_aload_n hx hb dX11_repeat_159 rfl (lv_at hl 1 rfl) ?_
              refine hy_get (T := (Mc, M15, Mo)) (o := 30) (k := 25) (v := .int (M15.1 30 25)) hx hb hown hts hX hP (by decide) rfl rfl inX11g (by decide) q_1217 rfl dX11_repeat_160 ?_
              exact hy_iret (T := (Mc, M15, Mo)) hx hb hr hlocks hP hS (Nat.zero_le _) (Nat.zero_le _) (by rw [← (Option.some.inj h)] <;> rfl) dX11_repeat_163
            · rw [if_neg c10] at h
              refine lv_iconst (v := 0) hx hb dX11_repeat_113 rfl ?_
              exact hy_iret (T := (Mc, M9, Mo)) hx hb hr hlocks hP hS (Nat.zero_le _) (Nat.zero_le _) (by rw [← (Option.some.inj h)] <;> rfl) dX11_repeat_114
          · rw [if_neg c8] at h
            refine lv_aload_n hx hb dX11_repeat_89 rfl (lv_at hl 1 rfl) ?_
            refine lv_iload_n hx hb dX11_repeat_90 rfl (lv_at hl 2 rfl) ?_
            refine lv_iload_n hx hb dX11_repeat_91 rfl (lv_at hl 3 rfl) ?_
            obtain ⟨v16, hv16, h⟩ := hy_bind h
            refine hy_ret (hy_rV0 (T := (Mc, M1, Mo)) (v := some (.int (bI v16))) (T2 := (Mc, M1, Mo)) (As := [.int a1, .int a2]) (rest := [.ref (adr G 30)]) (n := 0) hx hb hml hown hts hX hP hS hl (c_Rf_isApart Mc Mo a1 a2 M1 hv16) m_Rf_isApart q_1356 (hy_recv hX hP 30 10 (by decide) rfl rfl) rfl rfl (Nat.le_of_ble_eq_true rfl) dX11_repeat_92 ⟨Nat.le_of_ble_eq_true rfl, Nat.le_of_ble_eq_true rfl⟩ ⟨Nat.zero_le _, Nat.zero_le _⟩) hS (fun H locs hP hS => ?_)
            have J25 : ∀ (H : Heap) (locs : List Loc) (ls : Array Slot) (u1 : Int32), u1 = (if v16 then 0 else 3) → va_P G.1 vwCl (wld G (Mc, M1, Mo)) H → va_S (hyA G) s.heap H locs → lv_has ls 6 [(0, .ref (adr G 30)), (1, .int a1), (2, .int a2), (3, .int a3), (4, .int (bI (if (Rf_within a1 0 ((M1.1 30 21) - 1) M1) then (Rf_within a2 0 ((M1.1 30 21) - 1) M1) else false))), (5, .int (bI (if a2 < a1 then false else (Rf_within a3 0 (a2 - a1) M1))))] → W p l e { frames := 2, cells := 0, slots := 6 * 0, locals := 46 } s m ([.ref (adr G 30), .int a1, .int a2, .int a3] : List Value).toArray below meth c H locs 0 0 (vx_MQ below (hyQ G (.inr (some (.int res.1)), (Mc, res.2, Mo))) (hyXQ G (.inr (some (.int res.1)), (Mc, res.2, Mo))) ([.ref (adr G 30), .int a1, .int a2, .int a3] : List Value).toArray s 0 (6 * 0) (hyA G)) (F0 m 103 ls [.int u1, .ref (adr G 30)]) := by
              intro H locs ls u1 eu1 hP hS hl
              subst eu1
              refine hy_putI (ty := .int) (T := (Mc, M1, Mo)) (T2 := (Mc, (wI M1 30 0 (if v16 then 0 else 3)), Mo)) (o := 30) (k := 0) hx hb hown hts hX hP hS (by decide) rfl rfl rfl rfl inX11g tyX11_ok nmX11 (by decide) q_1192 rfl rfl rfl rfl (Nat.le_of_ble_eq_true rfl) dX11_repeat_103 (fun H locs hP hS => ?_)
              obtain ⟨M18, hM18, h⟩ := hy_bind h
              rw [Option.some.inj hM18] at hP
              refine lv_aload_n hx hb dX11_repeat_106 rfl (lv_at hl 0 rfl) ?_
              refine hy_get (T := (Mc, M18, Mo)) (o := 30) (k := 0) (v := .int (M18.1 30 0)) hx hb hown hts hX hP (by decide) rfl rfl inX11g (by decide) q_1192 rfl dX11_repeat_107 ?_
              refine lv_if_le (tgt := 115) hx hb dX11_repeat_110 (by decide) (fun c19 => ?_) (fun c19 => ?_)
              · rw [if_pos c19] at h
                refine lv_aload_n hx hb dX11_repeat_115 rfl (lv_at hl 0 rfl) ?_
                refine hy_get (T := (Mc, M18, Mo)) (o := 30) (k := 8) (v := .ref (adr G 35)) hx hb hown hts hX hP (by decide) rfl rfl inX11g (by decide) q_1200 rfl dX11_repeat_116 ?_
                refine lv_aload_n hx hb dX11_repeat_119 rfl (lv_at hl 0 rfl) ?_
                refine hy_get (T := (Mc, M18, Mo)) (o := 30) (k := 7) (v := .int (M18.1 30 7)) hx hb hown hts hX hP (by decide) rfl rfl inX11g (by decide) q_1199 rfl dX11_repeat_120 ?_
                refine lv_iload_n hx hb dX11_repeat_123 rfl (lv_at hl 1 rfl) ?_
                obtain ⟨M20, hM20, h⟩ := hy_bind h
                obtain ⟨nM20, hM20⟩ := stE_some hM20
                refine hy_iast (T := (Mc, M18, Mo)) (T2 := (Mc, (wI M18 35 (M18.1 30 7).toNatClampNeg a1), Mo)) hx hb hX hP hS 35 3 (by decide) (fun _ _ => rfl) nM20 rfl dX11_repeat_124 (fun H locs hP hS => ?_)
                rw [hM20] at hP
                refine lv_aload_n hx hb dX11_repeat_125 rfl (lv_at hl 0 rfl) ?_
                refine hy_get (T := (Mc, M20, Mo)) (o := 30) (k := 9) (v := .ref (adr G 36)) hx hb hown hts hX hP (by decide) rfl rfl inX11g (by decide) q_1201 rfl dX11_repeat_126 ?_
                refine lv_aload_n hx hb dX11_repeat_129 rfl (lv_at hl 0 rfl) ?_
                refine hy_get (T := (Mc, M20, Mo)) (o := 30) (k := 7) (v := .int (M20.1 30 7)) hx hb hown hts hX hP (by decide) rfl rfl inX11g (by decide) q_1199 rfl dX11_repeat_130 ?_
                refine lv_iload_n hx hb dX11_repeat_133 rfl (lv_at hl 2 rfl) ?_
                obtain ⟨M21, hM21, h⟩ := hy_bind h
                obtain ⟨nM21, hM21⟩ := stE_some hM21
                refine hy_iast (T := (Mc, M20, Mo)) (T2 := (Mc, (wI M20 36 (M20.1 30 7).toNatClampNeg a2), Mo)) hx hb hX hP hS 36 3 (by decide) (fun _ _ => rfl) nM21 rfl dX11_repeat_134 (fun H locs hP hS => ?_)
                rw [hM21] at hP
                refine lv_aload_n hx hb dX11_repeat_135 rfl (lv_at hl 0 rfl) ?_
                refine hy_get (T := (Mc, M21, Mo)) (o := 30) (k := 10) (v := .ref (adr G 37)) hx hb hown hts hX hP (by decide) rfl rfl inX11g (by decide) q_1202 rfl dX11_repeat_136 ?_
                refine lv_aload_n hx hb dX11_repeat_139 rfl (lv_at hl 0 rfl) ?_
                refine hy_get (T := (Mc, M21, Mo)) (o := 30) (k := 7) (v := .int (M21.1 30 7)) hx hb hown hts hX hP (by decide) rfl rfl inX11g (by decide) q_1199 rfl dX11_repeat_140 ?_
                refine lv_iload_n hx hb dX11_repeat_143 rfl (lv_at hl 3 rfl) ?_
                obtain ⟨M22, hM22, h⟩ := hy_bind h
                obtain ⟨nM22, hM22⟩ := stE_some hM22
                refine hy_iast (T := (Mc, M21, Mo)) (T2 := (Mc, (wI M21 37 (M21.1 30 7).toNatClampNeg a3), Mo)) hx hb hX hP hS 37 3 (by decide) (fun _ _ => rfl) nM22 rfl dX11_repeat_144 (fun H locs hP hS => ?_)
                rw [hM22] at hP
                refine lv_aload_n hx hb dX11_repeat_145 rfl (lv_at hl 0 rfl) ?_
                refine lv_dup hx hb dX11_repeat_146 rfl ?_
                refine hy_get (T := (Mc, M22, Mo)) (o := 30) (k := 7) (v := .int (M22.1 30 7)) hx hb hown hts hX hP (by decide) rfl rfl inX11g (by decide) q_1199 rfl dX11_repeat_147 ?_
                refine lv_iconst (v := 1) hx hb dX11_repeat_150 rfl ?_
                refine lv_iadd hx hb dX11_repeat_151 ?_
                refine hy_putI (ty := .int) (T := (Mc, M22, Mo)) (T2 := (Mc, (wI M22 30 7 ((M22.1 30 7) + 1)), Mo)) (o := 30) (k := 7) hx hb hown hts hX hP hS (by decide) rfl rfl rfl rfl inX11g tyX11_ok nmX11 (by decide) q_1199 rfl rfl rfl rfl (Nat.le_of_ble_eq_true rfl) dX11_repeat_152 (fun H locs hP hS => ?_)
                obtain ⟨M23, hM23, h⟩ := hy_bind h
                rw [Option.some.inj hM23] at hP
                refine lv_aload_n hx hb dX11_repeat_155 rfl (lv_at hl 0 rfl) ?_
                obtain ⟨M24, hM24, h⟩ := hy_bind h
                refine hy_ret (hy_rV0 (T := (Mc, M23, Mo)) (v := none) (T2 := (Mc, M24, Mo)) (As := []) (rest := []) (n := 0) hx hb hml hown hts hX hP hS hl (c_Rf_laySung Mc Mo M23 hM24) m_Rf_laySung q_1360 (hy_recv hX hP 30 10 (by decide) rfl rfl) rfl rfl (Nat.le_of_ble_eq_true rfl) dX11_repeat_156 ⟨Nat.le_of_ble_eq_true rfl, Nat.le_of_ble_eq_true rfl⟩ ⟨Nat.zero_le _, Nat.zero_le _⟩) hS (fun H locs hP hS => ?_)
                refine lv_aload_n hx hb dX11_repeat_159 rfl (lv_at hl 0 rfl) ?_
                refine hy_get (T := (Mc, M24, Mo)) (o := 30) (k := 25) (v := .int (M24.1 30 25)) hx hb hown hts hX hP (by decide) rfl rfl inX11g (by decide) q_1217 rfl dX11_repeat_160 ?_
                exact hy_iret (T := (Mc, M24, Mo)) hx hb hr hlocks hP hS (Nat.zero_le _) (Nat.zero_le _) (by rw [← (Option.some.inj h)] <;> rfl) dX11_repeat_163
              · rw [if_neg c19] at h
                refine lv_iconst (v := 0) hx hb dX11_repeat_113 rfl ?_
                exact hy_iret (T := (Mc, M18, Mo)) hx hb hr hlocks hP hS (Nat.zero_le _) (Nat.zero_le _) (by rw [← (Option.some.inj h)] <;> rfl) dX11_repeat_114
            refine lv_if_eq (tgt := 102) hx hb dX11_repeat_95 (by decide) (fun c17 => ?_) (fun c17 => ?_)
            · refine lv_iconst (v := 3) hx hb dX11_repeat_102 rfl ?_
              exact J25 _ _ ls 3 (by rw [if_neg (bI_0 c17)] <;> rfl) hP hS (lv_sub hl [1, 2, 3, 4, 5, 0] rfl)
            · refine lv_iconst (v := 0) hx hb dX11_repeat_98 rfl ?_
              refine lv_goto (tgt := 103) hx hb dX11_repeat_99 (by decide) ?_
              exact J25 _ _ ls 0 (by rw [if_pos (bI_1 c17)] <;> rfl) hP hS (lv_sub hl [1, 2, 3, 4, 5, 0] rfl)
        · rw [if_neg (bI_0 c7)] at h
          refine lv_iconst (v := 2) hx hb dX11_repeat_77 rfl ?_
          refine lv_goto (tgt := 103) hx hb dX11_repeat_78 (by decide) ?_
          refine hy_putI (ty := .int) (T := (Mc, M1, Mo)) (T2 := (Mc, (wI M1 30 0 2), Mo)) (o := 30) (k := 0) hx hb hown hts hX hP hS (by decide) rfl rfl rfl rfl inX11g tyX11_ok nmX11 (by decide) q_1192 rfl rfl rfl rfl (Nat.le_of_ble_eq_true rfl) dX11_repeat_103 (fun H locs hP hS => ?_)
          obtain ⟨M26, hM26, h⟩ := hy_bind h
          rw [Option.some.inj hM26] at hP
          refine lv_aload_n hx hb dX11_repeat_106 rfl (lv_at hl 1 rfl) ?_
          refine hy_get (T := (Mc, M26, Mo)) (o := 30) (k := 0) (v := .int (M26.1 30 0)) hx hb hown hts hX hP (by decide) rfl rfl inX11g (by decide) q_1192 rfl dX11_repeat_107 ?_
          refine lv_if_le (tgt := 115) hx hb dX11_repeat_110 (by decide) (fun c27 => ?_) (fun c27 => ?_)
          · rw [if_pos c27] at h
            refine lv_aload_n hx hb dX11_repeat_115 rfl (lv_at hl 1 rfl) ?_
            refine hy_get (T := (Mc, M26, Mo)) (o := 30) (k := 8) (v := .ref (adr G 35)) hx hb hown hts hX hP (by decide) rfl rfl inX11g (by decide) q_1200 rfl dX11_repeat_116 ?_
            refine lv_aload_n hx hb dX11_repeat_119 rfl (lv_at hl 1 rfl) ?_
            refine hy_get (T := (Mc, M26, Mo)) (o := 30) (k := 7) (v := .int (M26.1 30 7)) hx hb hown hts hX hP (by decide) rfl rfl inX11g (by decide) q_1199 rfl dX11_repeat_120 ?_
            refine lv_iload_n hx hb dX11_repeat_123 rfl (lv_at hl 2 rfl) ?_
            obtain ⟨M28, hM28, h⟩ := hy_bind h
            obtain ⟨nM28, hM28⟩ := stE_some hM28
            refine hy_iast (T := (Mc, M26, Mo)) (T2 := (Mc, (wI M26 35 (M26.1 30 7).toNatClampNeg a1), Mo)) hx hb hX hP hS 35 3 (by decide) (fun _ _ => rfl) nM28 rfl dX11_repeat_124 (fun H locs hP hS => ?_)
            rw [hM28] at hP
            refine lv_aload_n hx hb dX11_repeat_125 rfl (lv_at hl 1 rfl) ?_
            refine hy_get (T := (Mc, M28, Mo)) (o := 30) (k := 9) (v := .ref (adr G 36)) hx hb hown hts hX hP (by decide) rfl rfl inX11g (by decide) q_1201 rfl dX11_repeat_126 ?_
            refine lv_aload_n hx hb dX11_repeat_129 rfl (lv_at hl 1 rfl) ?_
            refine hy_get (T := (Mc, M28, Mo)) (o := 30) (k := 7) (v := .int (M28.1 30 7)) hx hb hown hts hX hP (by decide) rfl rfl inX11g (by decide) q_1199 rfl dX11_repeat_130 ?_
            refine lv_iload_n hx hb dX11_repeat_133 rfl (lv_at hl 3 rfl) ?_
            obtain ⟨M29, hM29, h⟩ := hy_bind h
            obtain ⟨nM29, hM29⟩ := stE_some hM29
            refine hy_iast (T := (Mc, M28, Mo)) (T2 := (Mc, (wI M28 36 (M28.1 30 7).toNatClampNeg a2), Mo)) hx hb hX hP hS 36 3 (by decide) (fun _ _ => rfl) nM29 rfl dX11_repeat_134 (fun H locs hP hS => ?_)
            rw [hM29] at hP
            refine lv_aload_n hx hb dX11_repeat_135 rfl (lv_at hl 1 rfl) ?_
            refine hy_get (T := (Mc, M29, Mo)) (o := 30) (k := 10) (v := .ref (adr G 37)) hx hb hown hts hX hP (by decide) rfl rfl inX11g (by decide) q_1202 rfl dX11_repeat_136 ?_
            refine lv_aload_n hx hb dX11_repeat_139 rfl (lv_at hl 1 rfl) ?_
            refine hy_get (T := (Mc, M29, Mo)) (o := 30) (k := 7) (v := .int (M29.1 30 7)) hx hb hown hts hX hP (by decide) rfl rfl inX11g (by decide) q_1199 rfl dX11_repeat_140 ?_
            refine lv_iload_n hx hb dX11_repeat_143 rfl (lv_at hl 4 rfl) ?_
            obtain ⟨M30, hM30, h⟩ := hy_bind h
            obtain ⟨nM30, hM30⟩ := stE_some hM30
            refine hy_iast (T := (Mc, M29, Mo)) (T2 := (Mc, (wI M29 37 (M29.1 30 7).toNatClampNeg a3), Mo)) hx hb hX hP hS 37 3 (by decide) (fun _ _ => rfl) nM30 rfl dX11_repeat_144 (fun H locs hP hS => ?_)
            rw [hM30] at hP
            refine lv_aload_n hx hb dX11_repeat_145 rfl (lv_at hl 1 rfl) ?_
            refine lv_dup hx hb dX11_repeat_146 rfl ?_
            refine hy_get (T := (Mc, M30, Mo)) (o := 30) (k := 7) (v := .int (M30.1 30 7)) hx hb hown hts hX hP (by decide) rfl rfl inX11g (by decide) q_1199 rfl dX11_repeat_147 ?_
            refine lv_iconst (v := 1) hx hb dX11_repeat_150 rfl ?_
            refine lv_iadd hx hb dX11_repeat_151 ?_
            refine hy_putI (ty := .int) (T := (Mc, M30, Mo)) (T2 := (Mc, (wI M30 30 7 ((M30.1 30 7) + 1)), Mo)) (o := 30) (k := 7) hx hb hown hts hX hP hS (by decide) rfl rfl rfl rfl inX11g tyX11_ok nmX11 (by decide) q_1199 rfl rfl rfl rfl (Nat.le_of_ble_eq_true rfl) dX11_repeat_152 (fun H locs hP hS => ?_)
            obtain ⟨M31, hM31, h⟩ := hy_bind h
            rw [Option.some.inj hM31] at hP
            refine lv_aload_n hx hb dX11_repeat_155 rfl (lv_at hl 1 rfl) ?_
            obtain ⟨M32, hM32, h⟩ := hy_bind h
            refine hy_ret (hy_rV0 (T := (Mc, M31, Mo)) (v := none) (T2 := (Mc, M32, Mo)) (As := []) (rest := []) (n := 0) hx hb hml hown hts hX hP hS hl (c_Rf_laySung Mc Mo M31 hM32) m_Rf_laySung q_1360 (hy_recv hX hP 30 10 (by decide) rfl rfl) rfl rfl (Nat.le_of_ble_eq_true rfl) dX11_repeat_156 ⟨Nat.le_of_ble_eq_true rfl, Nat.le_of_ble_eq_true rfl⟩ ⟨Nat.zero_le _, Nat.zero_le _⟩) hS (fun H locs hP hS => ?_)
            refine lv_aload_n hx hb dX11_repeat_159 rfl (lv_at hl 1 rfl) ?_
            refine hy_get (T := (Mc, M32, Mo)) (o := 30) (k := 25) (v := .int (M32.1 30 25)) hx hb hown hts hX hP (by decide) rfl rfl inX11g (by decide) q_1217 rfl dX11_repeat_160 ?_
            exact hy_iret (T := (Mc, M32, Mo)) hx hb hr hlocks hP hS (Nat.zero_le _) (Nat.zero_le _) (by rw [← (Option.some.inj h)] <;> rfl) dX11_repeat_163
          · rw [if_neg c27] at h
            refine lv_iconst (v := 0) hx hb dX11_repeat_113 rfl ?_
            exact hy_iret (T := (Mc, M26, Mo)) hx hb hr hlocks hP hS (Nat.zero_le _) (Nat.zero_le _) (by rw [← (Option.some.inj h)] <;> rfl) dX11_repeat_114
      · rw [if_neg (bI_0 c6)] at h
        refine lv_iconst (v := 1) hx hb dX11_repeat_68 rfl ?_
        refine lv_goto (tgt := 103) hx hb dX11_repeat_69 (by decide) ?_
        refine hy_putI (ty := .int) (T := (Mc, M1, Mo)) (T2 := (Mc, (wI M1 30 0 1), Mo)) (o := 30) (k := 0) hx hb hown hts hX hP hS (by decide) rfl rfl rfl rfl inX11g tyX11_ok nmX11 (by decide) q_1192 rfl rfl rfl rfl (Nat.le_of_ble_eq_true rfl) dX11_repeat_103 (fun H locs hP hS => ?_)
        obtain ⟨M33, hM33, h⟩ := hy_bind h
        rw [Option.some.inj hM33] at hP
        refine lv_aload_n hx hb dX11_repeat_106 rfl (lv_at hl 1 rfl) ?_
        refine hy_get (T := (Mc, M33, Mo)) (o := 30) (k := 0) (v := .int (M33.1 30 0)) hx hb hown hts hX hP (by decide) rfl rfl inX11g (by decide) q_1192 rfl dX11_repeat_107 ?_
        refine lv_if_le (tgt := 115) hx hb dX11_repeat_110 (by decide) (fun c34 => ?_) (fun c34 => ?_)
        · rw [if_pos c34] at h
          refine lv_aload_n hx hb dX11_repeat_115 rfl (lv_at hl 1 rfl) ?_
          refine hy_get (T := (Mc, M33, Mo)) (o := 30) (k := 8) (v := .ref (adr G 35)) hx hb hown hts hX hP (by decide) rfl rfl inX11g (by decide) q_1200 rfl dX11_repeat_116 ?_
          refine lv_aload_n hx hb dX11_repeat_119 rfl (lv_at hl 1 rfl) ?_
          refine hy_get (T := (Mc, M33, Mo)) (o := 30) (k := 7) (v := .int (M33.1 30 7)) hx hb hown hts hX hP (by decide) rfl rfl inX11g (by decide) q_1199 rfl dX11_repeat_120 ?_
          refine lv_iload_n hx hb dX11_repeat_123 rfl (lv_at hl 2 rfl) ?_
          obtain ⟨M35, hM35, h⟩ := hy_bind h
          obtain ⟨nM35, hM35⟩ := stE_some hM35
          refine hy_iast (T := (Mc, M33, Mo)) (T2 := (Mc, (wI M33 35 (M33.1 30 7).toNatClampNeg a1), Mo)) hx hb hX hP hS 35 3 (by decide) (fun _ _ => rfl) nM35 rfl dX11_repeat_124 (fun H locs hP hS => ?_)
          rw [hM35] at hP
          refine lv_aload_n hx hb dX11_repeat_125 rfl (lv_at hl 1 rfl) ?_
          refine hy_get (T := (Mc, M35, Mo)) (o := 30) (k := 9) (v := .ref (adr G 36)) hx hb hown hts hX hP (by decide) rfl rfl inX11g (by decide) q_1201 rfl dX11_repeat_126 ?_
          refine lv_aload_n hx hb dX11_repeat_129 rfl (lv_at hl 1 rfl) ?_
          refine hy_get (T := (Mc, M35, Mo)) (o := 30) (k := 7) (v := .int (M35.1 30 7)) hx hb hown hts hX hP (by decide) rfl rfl inX11g (by decide) q_1199 rfl dX11_repeat_130 ?_
          refine lv_iload_n hx hb dX11_repeat_133 rfl (lv_at hl 3 rfl) ?_
          obtain ⟨M36, hM36, h⟩ := hy_bind h
          obtain ⟨nM36, hM36⟩ := stE_some hM36
          refine hy_iast (T := (Mc, M35, Mo)) (T2 := (Mc, (wI M35 36 (M35.1 30 7).toNatClampNeg a2), Mo)) hx hb hX hP hS 36 3 (by decide) (fun _ _ => rfl) nM36 rfl dX11_repeat_134 (fun H locs hP hS => ?_)
          rw [hM36] at hP
          refine lv_aload_n hx hb dX11_repeat_135 rfl (lv_at hl 1 rfl) ?_
          refine hy_get (T := (Mc, M36, Mo)) (o := 30) (k := 10) (v := .ref (adr G 37)) hx hb hown hts hX hP (by decide) rfl rfl inX11g (by decide) q_1202 rfl dX11_repeat_136 ?_
          refine lv_aload_n hx hb dX11_repeat_139 rfl (lv_at hl 1 rfl) ?_
          refine hy_get (T := (Mc, M36, Mo)) (o := 30) (k := 7) (v := .int (M36.1 30 7)) hx hb hown hts hX hP (by decide) rfl rfl inX11g (by decide) q_1199 rfl dX11_repeat_140 ?_
          refine lv_iload_n hx hb dX11_repeat_143 rfl (lv_at hl 4 rfl) ?_
          obtain ⟨M37, hM37, h⟩ := hy_bind h
          obtain ⟨nM37, hM37⟩ := stE_some hM37
          refine hy_iast (T := (Mc, M36, Mo)) (T2 := (Mc, (wI M36 37 (M36.1 30 7).toNatClampNeg a3), Mo)) hx hb hX hP hS 37 3 (by decide) (fun _ _ => rfl) nM37 rfl dX11_repeat_144 (fun H locs hP hS => ?_)
          rw [hM37] at hP
          refine lv_aload_n hx hb dX11_repeat_145 rfl (lv_at hl 1 rfl) ?_
          refine lv_dup hx hb dX11_repeat_146 rfl ?_
          refine hy_get (T := (Mc, M37, Mo)) (o := 30) (k := 7) (v := .int (M37.1 30 7)) hx hb hown hts hX hP (by decide) rfl rfl inX11g (by decide) q_1199 rfl dX11_repeat_147 ?_
          refine lv_iconst (v := 1) hx hb dX11_repeat_150 rfl ?_
          refine lv_iadd hx hb dX11_repeat_151 ?_
          refine hy_putI (ty := .int) (T := (Mc, M37, Mo)) (T2 := (Mc, (wI M37 30 7 ((M37.1 30 7) + 1)), Mo)) (o := 30) (k := 7) hx hb hown hts hX hP hS (by decide) rfl rfl rfl rfl inX11g tyX11_ok nmX11 (by decide) q_1199 rfl rfl rfl rfl (Nat.le_of_ble_eq_true rfl) dX11_repeat_152 (fun H locs hP hS => ?_)
          obtain ⟨M38, hM38, h⟩ := hy_bind h
          rw [Option.some.inj hM38] at hP
          refine lv_aload_n hx hb dX11_repeat_155 rfl (lv_at hl 1 rfl) ?_
          obtain ⟨M39, hM39, h⟩ := hy_bind h
          refine hy_ret (hy_rV0 (T := (Mc, M38, Mo)) (v := none) (T2 := (Mc, M39, Mo)) (As := []) (rest := []) (n := 0) hx hb hml hown hts hX hP hS hl (c_Rf_laySung Mc Mo M38 hM39) m_Rf_laySung q_1360 (hy_recv hX hP 30 10 (by decide) rfl rfl) rfl rfl (Nat.le_of_ble_eq_true rfl) dX11_repeat_156 ⟨Nat.le_of_ble_eq_true rfl, Nat.le_of_ble_eq_true rfl⟩ ⟨Nat.zero_le _, Nat.zero_le _⟩) hS (fun H locs hP hS => ?_)
          refine lv_aload_n hx hb dX11_repeat_159 rfl (lv_at hl 1 rfl) ?_
          refine hy_get (T := (Mc, M39, Mo)) (o := 30) (k := 25) (v := .int (M39.1 30 25)) hx hb hown hts hX hP (by decide) rfl rfl inX11g (by decide) q_1217 rfl dX11_repeat_160 ?_
          exact hy_iret (T := (Mc, M39, Mo)) hx hb hr hlocks hP hS (Nat.zero_le _) (Nat.zero_le _) (by rw [← (Option.some.inj h)] <;> rfl) dX11_repeat_163
        · rw [if_neg c34] at h
          refine lv_iconst (v := 0) hx hb dX11_repeat_113 rfl ?_
          exact hy_iret (T := (Mc, M33, Mo)) hx hb hr hlocks hP hS (Nat.zero_le _) (Nat.zero_le _) (by rw [← (Option.some.inj h)] <;> rfl) dX11_repeat_114
    refine lv_icmp_lt (tgt := 59) hx hb dX11_repeat_41 (by decide) (fun c4 => ?_) (fun c4 => ?_)
    · refine lv_iconst (v := 0) hx hb dX11_repeat_59 rfl ?_
      exact J40 _ _ ls 0 (by rw [if_pos c4] <;> rfl) hP hS (lv_sub hl [1, 2, 3, 4, 0] rfl)
    · refine lv_iload_n hx hb dX11_repeat_44 rfl (lv_at hl 4 rfl) ?_
      refine lv_iconst (v := 0) hx hb dX11_repeat_45 rfl ?_
      refine lv_iload_n hx hb dX11_repeat_46 rfl (lv_at hl 3 rfl) ?_
      refine lv_iload_n hx hb dX11_repeat_47 rfl (lv_at hl 2 rfl) ?_
      refine lv_isub hx hb dX11_repeat_48 ?_
      refine hy_ret (hy_rS0 (T := (Mc, M1, Mo)) (v := some (.int (bI (Rf_within a3 0 (a2 - a1) M1)))) (T2 := (Mc, M1, Mo)) (As := [.int a3, .int 0, .int (a2 - a1)]) (rest := []) (n := 0) hx hb hml hown hts hX hP hS hl (c_Rf_within Mc Mo a3 0 (a2 - a1) M1 rfl) m_Rf_within q_1310 rfl rfl (Nat.le_of_ble_eq_true rfl) dX11_repeat_49 ⟨Nat.le_of_ble_eq_true rfl, Nat.le_of_ble_eq_true rfl⟩ ⟨Nat.zero_le _, Nat.zero_le _⟩) hS (fun H locs hP hS => ?_)
      refine lv_if_eq (tgt := 59) hx hb dX11_repeat_52 (by decide) (fun c5 => ?_) (fun c5 => ?_)
      · refine lv_iconst (v := 0) hx hb dX11_repeat_59 rfl ?_
        exact J40 _ _ ls 0 (by rw [if_neg c4, (bI_z c5)] <;> rfl) hP hS (lv_sub hl [1, 2, 3, 4, 0] rfl)
      · refine lv_iconst (v := 1) hx hb dX11_repeat_55 rfl ?_
        refine lv_goto (tgt := 60) hx hb dX11_repeat_56 (by decide) ?_
        exact J40 _ _ ls 1 (by rw [if_neg c4, (bI_1 c5)] <;> rfl) hP hS (lv_sub hl [1, 2, 3, 4, 0] rfl)
  refine lv_if_eq (tgt := 36) hx hb dX11_repeat_15 (by decide) (fun c2 => ?_) (fun c2 => ?_)
  · refine lv_iconst (v := 0) hx hb dX11_repeat_36 rfl ?_
    exact J41 _ _ ls 0 (by rw [if_neg (bI_0 c2)] <;> rfl) hP hS (lv_sub hl [0, 1, 2, 3] rfl)
  · refine lv_iload_n hx hb dX11_repeat_18 rfl (lv_at hl 2 rfl) ?_
    refine lv_iconst (v := 0) hx hb dX11_repeat_19 rfl ?_
    refine lv_aload_n hx hb dX11_repeat_20 rfl (lv_at hl 0 rfl) ?_
    refine hy_get (T := (Mc, M1, Mo)) (o := 30) (k := 21) (v := .int (M1.1 30 21)) hx hb hown hts hX hP (by decide) rfl rfl inX11g (by decide) q_1213 rfl dX11_repeat_21 ?_
    refine lv_iconst (v := 1) hx hb dX11_repeat_24 rfl ?_
    refine lv_isub hx hb dX11_repeat_25 ?_
    refine hy_ret (hy_rS0 (T := (Mc, M1, Mo)) (v := some (.int (bI (Rf_within a2 0 ((M1.1 30 21) - 1) M1)))) (T2 := (Mc, M1, Mo)) (As := [.int a2, .int 0, .int ((M1.1 30 21) - 1)]) (rest := []) (n := 0) hx hb hml hown hts hX hP hS hl (c_Rf_within Mc Mo a2 0 ((M1.1 30 21) - 1) M1 rfl) m_Rf_within q_1310 rfl rfl (Nat.le_of_ble_eq_true rfl) dX11_repeat_26 ⟨Nat.le_of_ble_eq_true rfl, Nat.le_of_ble_eq_true rfl⟩ ⟨Nat.zero_le _, Nat.zero_le _⟩) hS (fun H locs hP hS => ?_)
    refine lv_if_eq (tgt := 36) hx hb dX11_repeat_29 (by decide) (fun c3 => ?_) (fun c3 => ?_)
    · refine lv_iconst (v := 0) hx hb dX11_repeat_36 rfl ?_
      exact J41 _ _ ls 0 (by rw [if_pos (bI_1 c2), (bI_z c3)] <;> rfl) hP hS (lv_sub hl [0, 1, 2, 3] rfl)
    · refine lv_iconst (v := 1) hx hb dX11_repeat_32 rfl ?_
      refine lv_goto (tgt := 37) hx hb dX11_repeat_33 (by decide) ?_
      exact J41 _ _ ls 1 (by rw [if_pos (bI_1 c2), (bI_1 c3)] <;> rfl) hP hS (lv_sub hl [0, 1, 2, 3] rfl)
