/-! The law's first lines behind what it makes. -/
theorem nar_i (x : Int32) : vp_nar .int x = x := rfl
set_option maxHeartbeats 4000000 in
set_option maxRecDepth 100000 in
theorem law_go {p : Program} {l : Launch} {e : Env} {s : State} {m : MethodId} {below : List Frame} {meth : Method} {c : Code} {G : hyG} {b L : Nat} (hL : L ≤ 260) (CX : lcx p l s m c G b L) (hr : meth.sig.returnType = ret) (hlocks : meth.locks = false) (hA : ∀ q : Nat, hyA G q → s.heap.size ≤ q)
    {H : Heap} {locs : List Loc} {cells slots : Nat} {ls : Array Slot} (h3 : cells ≤ 100) (h4 : slots ≤ 6000) (hP : va_P G.1 vwCl (wld G T0) H) (hS : va_S (hyA G) s.heap H locs) (hl : lv_has ls 9 (lvb G)) :
      W p l e room_1 s m #[Value.ref b] below meth c H locs cells slots (lw_Z below #[Value.ref b] s) (F0 m 30 ls []) := by
  obtain ⟨hx, hb, hml, hown, hts, hX, hlt, hex, hsn⟩ := id CX
  have hl : lv_has ls 9 [(5, .ref (adr G 33)), (4, .ref (adr G 32)), (3, .ref (adr G 31)), (2, .ref (adr G 30)), (1, .ref (adr G 0)), (0, .ref (scb G))] := hl
  have hroom : ∀ k, k ≤ 13 → cells + k ≤ room_1.cells ∧ slots + 6 * k ≤ room_1.slots := fun k hk => by
    show cells + k ≤ 600086 ∧ slots + 6 * k ≤ 7301442
    omega
  obtain ⟨x, ex⟩ := scv_some (G := G) (by omega) (show 0 < 1000 by decide)
  obtain ⟨t, ht, et⟩ := at_ok x (m := 12) (by decide) (by decide) hZM
  have et : La_at x 12 hZM = some (n3 t) := et
  obtain ⟨C', eb, hAO⟩ := AO_0 (t := t) (by omega)
  refine lv_aload_n hx hb dL_law_30 rfl (lv_at hl 3 rfl) ?_
  refine lv_iconst (v := 0) hx hb dL_law_31 rfl ?_
  refine lv_aload_n hx hb dL_law_32 rfl (lv_at hl 5 rfl) ?_
  refine lv_iconst (v := 0) hx hb dL_law_33 rfl ?_
  refine hy_ret (hy_rS0 (T := (C0M, hZM, hZM)) (v := some (.int x)) (T2 := (C0M, hZM, hZM)) (As := [.ref (scb G), .int 0]) (rest := [.int 0, .ref (adr G 30)]) (n := 0) hx hb hml hown hts hX hP hS hl (c_La_cell 0 (C0M, hZM, hZM) ex) m_La_cell q_637 rfl rfl (Nat.le_of_ble_eq_true rfl) dL_law_34 ⟨Nat.le_of_ble_eq_true rfl, Nat.le_of_ble_eq_true rfl⟩ (hroom 0 (by decide))) hS (fun H locs hP hS => ?_)
  refine lv_bipush (v := 12) hx hb dL_law_37 rfl ?_
  refine hy_ret (hy_rS0 (T := (C0M, hZM, hZM)) (v := some (.int (n3 t))) (T2 := (C0M, hZM, hZM)) (As := [.int x, .int 12]) (rest := [.int 0, .ref (adr G 30)]) (n := 0) hx hb hml hown hts hX hP hS hl (c_La_at C0M hZM x 12 hZM et) m_La_at q_641 rfl rfl (Nat.le_of_ble_eq_true rfl) dL_law_39 ⟨Nat.le_of_ble_eq_true rfl, Nat.le_of_ble_eq_true rfl⟩ (hroom 0 (by decide))) hS (fun H locs hP hS => ?_)
  refine hy_iast (T := (C0M, hZM, hZM)) (T2 := (C0M, wI hZM 30 0 (n3 t), hZM)) hx hb hX hP hS 30 6 (hy34 G (by decide)) (fun _ _ => rfl) (by decide) rfl dL_law_42 (fun H locs hP hS => ?_)
  refine lv_aload_n hx hb dL_law_43 rfl (lv_at hl 3 rfl) ?_
  refine lv_iconst (v := 2) hx hb dL_law_44 rfl ?_
  refine lv_iconst (v := 4) hx hb dL_law_45 rfl ?_
  refine hy_iast (T := (C0M, wI hZM 30 0 (n3 t), hZM)) (T2 := (C0M, wI (wI hZM 30 0 (n3 t)) 30 2 4, hZM)) hx hb hX hP hS 30 6 (hy34 G (by decide)) (fun _ _ => rfl) (by decide) rfl dL_law_46 (fun H locs hP hS => ?_)
  refine lv_aload_n hx hb dL_law_47 rfl (lv_at hl 3 rfl) ?_
  refine lv_iconst (v := 4) hx hb dL_law_48 rfl ?_
  refine lv_bipush (v := 80) hx hb dL_law_49 rfl ?_
  refine hy_iast (T := (C0M, wI (wI hZM 30 0 (n3 t)) 30 2 4, hZM)) (T2 := (C0M, M0d t, hZM)) hx hb hX hP hS 30 6 (hy34 G (by decide)) (fun _ _ => rfl) (by decide) rfl dL_law_51 (fun H locs hP hS => ?_)
  refine lv_aload_n hx hb dL_law_52 rfl (lv_at hl 4 rfl) ?_
  refine lv_iconst (v := 2) hx hb dL_law_53 rfl ?_
  refine hy_ret (hy_rV0 (T := (C0M, M0d t, hZM)) (v := some (.int 0)) (T2 := (C0M, M0d t, hZM)) (o := 0) (As := [.int 2]) (rest := []) (n := 0) hx hb hml hown hts hX hP hS hl (c_Hp_count hlt (M0d t) hZM 2 C0M (res := .inr 0) s_count2) m_Hp_count q_578 (hy_recv hX hP 0 9 (by decide) rfl rfl) rfl rfl (Nat.le_of_ble_eq_true rfl) dL_law_54 ⟨Nat.le_of_ble_eq_true rfl, Nat.le_of_ble_eq_true rfl⟩ (hroom 0 (by decide))) hS (fun H locs hP hS => ?_)
  refine lv_if_ne (tgt := 98) hx hb dL_law_57 (by decide) (fun z => absurd rfl z) (fun _ => ?_)
  refine lv_aload_n hx hb dL_law_60 rfl (lv_at hl 4 rfl) ?_
  refine lv_bipush (v := 12) hx hb dL_law_61 rfl ?_
  refine hy_ret (hy_rV0 (T := (C0M, M0d t, hZM)) (v := some (.int 15)) (T2 := (C0M, M0d t, hZM)) (o := 0) (As := [.int 12]) (rest := []) (n := 0) hx hb hml hown hts hX hP hS hl (c_Hp_count hlt (M0d t) hZM 12 C0M (res := .inr 15) s_count12) m_Hp_count q_578 (hy_recv hX hP 0 9 (by decide) rfl rfl) rfl rfl (Nat.le_of_ble_eq_true rfl) dL_law_63 ⟨Nat.le_of_ble_eq_true rfl, Nat.le_of_ble_eq_true rfl⟩ (hroom 0 (by decide))) hS (fun H locs hP hS => ?_)
  refine lv_bipush (v := 15) hx hb dL_law_66 rfl ?_
  refine lv_icmp_ne (tgt := 98) hx hb dL_law_68 (by decide) (fun z => absurd rfl z) (fun _ => ?_)
  refine lv_aload_n hx hb dL_law_71 rfl (lv_at hl 4 rfl) ?_
  refine hy_ret (hy_rV0 (T := (C0M, M0d t, hZM)) (v := some (.double FP.dconst0)) (T2 := (C0M, M0d t, hZM)) (o := 0) (As := []) (rest := []) (n := 0) hx hb hml hown hts hX hP hS hl (c_Hp_meanWidth (M0d t) hZM C0M s_mean) m_Hp_meanWidth q_633 (hy_recv hX hP 0 9 (by decide) rfl rfl) rfl rfl (Nat.le_of_ble_eq_true rfl) dL_law_72 ⟨Nat.le_of_ble_eq_true rfl, Nat.le_of_ble_eq_true rfl⟩ (hroom 0 (by decide))) hS (fun H locs hP hS => ?_)
  refine lv_dconst0 hx hb dL_law_75 ?_
  refine lv_dcmp hx hb dL_law_76 ?_
  refine lv_if_ne (tgt := 98) hx hb dL_law_77 (by decide) (fun z => absurd (by decide +kernel) z) (fun _ => ?_)
  refine lv_aload_n hx hb dL_law_80 rfl (lv_at hl 4 rfl) ?_
  refine hy_ret (hy_rV0 (T := (C0M, M0d t, hZM)) (v := some (.int (-1))) (T2 := (C0M, M0d t, hZM)) (o := 0) (As := []) (rest := []) (n := 0) hx hb hml hown hts hX hP hS hl (c_Hp_nearest (M0d t) hZM C0M s_near) m_Hp_nearest q_552 (hy_recv hX hP 0 9 (by decide) rfl rfl) rfl rfl (Nat.le_of_ble_eq_true rfl) dL_law_81 ⟨Nat.le_of_ble_eq_true rfl, Nat.le_of_ble_eq_true rfl⟩ (hroom 0 (by decide))) hS (fun H locs hP hS => ?_)
  refine lv_iconst (v := -1) hx hb dL_law_84 rfl ?_
  refine lv_icmp_ne (tgt := 98) hx hb dL_law_85 (by decide) (fun z => absurd rfl z) (fun _ => ?_)
  refine lv_aload_n hx hb dL_law_88 rfl (lv_at hl 4 rfl) ?_
  refine lv_aload_n hx hb dL_law_89 rfl (lv_at hl 3 rfl) ?_
  refine lv_iconst (v := 0) hx hb dL_law_90 rfl ?_
  refine hy_iald (T := (C0M, M0d t, hZM)) hx hb hX hP 30 6 ((M0d t).1 30) (hy34 G (by decide)) rfl (by decide) dL_law_91 ?_
  rw [show (M0d t).1 30 ((0 : Int32).toNatClampNeg) = n3 t from rfl]
  refine hy_ret (hy_rV0 (T := (C0M, M0d t, hZM)) (v := some (.int 0)) (T2 := (C', M0d t, hZM)) (o := 0) (As := [.int (n3 t)]) (rest := []) (n := 0) hx hb hml hown hts hX hP hS hl (c_Hp_begin hlt (M0d t) hZM (n3 t) C0M (res := (.inr 0, C')) eb) m_Hp_begin q_324 (hy_recv hX hP 0 9 (by decide) rfl rfl) rfl rfl (Nat.le_of_ble_eq_true rfl) dL_law_92 ⟨Nat.le_of_ble_eq_true rfl, Nat.le_of_ble_eq_true rfl⟩ (hroom 0 (by decide))) hS (fun H locs hP hS => ?_)
  refine lv_if_eq (tgt := 100) hx hb dL_law_95 (by decide) (fun _ => ?_) (fun z => absurd rfl z)
  refine lv_iconst (v := 1) hx hb dL_law_100 rfl ?_
  refine lv_istore (lv' := [(6, .int 1), (5, .ref (adr G 33)), (4, .ref (adr G 32)), (3, .ref (adr G 31)), (2, .ref (adr G 30)), (1, .ref (adr G 0)), (0, .ref (scb G))]) hx hb dL_law_101 hl (by decide) rfl (fun ls hl => ?_)
  exact law_loop hL CX hr hlocks hA 29 1 C' (M0d t) H locs _ _ ls (by decide) (by decide) (by show cells + 0 ≤ _; omega) (by show slots + 0 ≤ _; omega) hAO hP hS hl
