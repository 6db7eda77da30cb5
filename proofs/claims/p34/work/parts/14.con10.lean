set_option maxHeartbeats 1000000 in
set_option maxRecDepth 100000 in
theorem c_La_note {l : Launch} {G : hyG} (hlt : l.stackTraces = false) (hex : 1 ≤ exn G) (Mo : hyM) (a1 : Int32) (a2 : Int32) (C : hyM) (M : hyM) {res : (Bool × hyM × hyM)} (h : La_note a1 a2 C M = some res) : hyC l yL_note (.code yL_note cL_note 21 (some .boolean)) 8 143 (0) G [.ref (adr G 0), .int a1, .int a2, .ref (adr G 34), .ref (adr G 30), .ref (adr G 31), .ref (adr G 33)] (C, M, Mo) (.inr (some (.int (bI res.1))), (res.2.1, res.2.2, Mo)) := by
  refine hy_of (by decide +kernel) (Nat.le_of_ble_eq_true rfl) ?_
  intro p e s m below meth c hx hb hml hown hts hr hlocks ht hX hP hS ls hl
  have hl : lv_has ls 21 [(0, .ref (adr G 0)), (1, .int a1), (2, .int a2), (3, .ref (adr G 34)), (4, .ref (adr G 30)), (5, .ref (adr G 31)), (6, .ref (adr G 33))] := hl
  rw [La_note] at h
  refine lv_iconst (v := 5) hx hb dL_note_0 rfl ?_
  refine lv_iload_n hx hb dL_note_1 rfl (lv_at hl 1 rfl) ?_
  refine lv_imul hx hb dL_note_2 ?_
  refine lv_istore (lv' := [(7, .int (5 * a1)), (0, .ref (adr G 0)), (1, .int a1), (2, .int a2), (3, .ref (adr G 34)), (4, .ref (adr G 30)), (5, .ref (adr G 31)), (6, .ref (adr G 33))]) hx hb dL_note_3 hl (by decide) rfl (fun ls hl => ?_)
  refine lv_iload_n hx hb dL_note_5 rfl (lv_at hl 2 rfl) ?_
  refine lv_aload hx hb dL_note_6 (lv_at hl 5 rfl) ?_
  refine lv_aload hx hb dL_note_8 (lv_at hl 6 rfl) ?_
  obtain ⟨v1, hv1, h⟩ := hy_bind h
  refine hy_ret (hy_rS0 (T := (C, M, Mo)) (v := some (.int v1)) (T2 := (C, M, Mo)) (As := [.int a1, .ref (adr G 30), .ref (adr G 31)]) (rest := []) (n := 0) hx hb hml hown hts hX hP hS hl (c_La_phraseOf C Mo a1 M hv1) m_La_phraseOf q_653 rfl rfl (Nat.le_of_ble_eq_true rfl) dL_note_10 ⟨Nat.le_of_ble_eq_true rfl, Nat.le_of_ble_eq_true rfl⟩ ⟨by decide, by decide⟩) hS (fun H locs hP hS => ?_)
  refine lv_istore (lv' := [(8, .int v1), (7, .int (5 * a1)), (0, .ref (adr G 0)), (1, .int a1), (2, .int a2), (3, .ref (adr G 34)), (4, .ref (adr G 30)), (5, .ref (adr G 31)), (6, .ref (adr G 33))]) hx hb dL_note_13 hl (by decide) rfl (fun ls hl => ?_)
  refine lv_iconst (v := 0) hx hb dL_note_15 rfl ?_
  refine lv_istore (lv' := [(9, .int 0), (8, .int v1), (7, .int (5 * a1)), (0, .ref (adr G 0)), (1, .int a1), (2, .int a2), (3, .ref (adr G 34)), (4, .ref (adr G 30)), (5, .ref (adr G 31)), (6, .ref (adr G 33))]) hx hb dL_note_16 hl (by decide) rfl (fun ls hl => ?_)
  refine lv_iconst (v := 0) hx hb dL_note_18 rfl ?_
  refine lv_istore (lv' := [(10, .int 0), (9, .int 0), (8, .int v1), (7, .int (5 * a1)), (0, .ref (adr G 0)), (1, .int a1), (2, .int a2), (3, .ref (adr G 34)), (4, .ref (adr G 30)), (5, .ref (adr G 31)), (6, .ref (adr G 33))]) hx hb dL_note_19 hl (by decide) rfl (fun ls hl => ?_)
  have L6 : ∀ (f : Nat) (x2 : Int32) (x3 : Int32) (qL : (Int32 × Int32)) (h : La_note_L21 a1 M f x2 x3 = some qL) (H : Heap) (locs : List Loc) (ls : Array Slot) (hP : va_P G.1 vwCl (wld G (C, M, Mo)) H) (hS : va_S (hyA G) s.heap H locs) (hl : lv_has ls 21 [(0, .ref (adr G 0)), (1, .int a1), (2, .int a2), (3, .ref (adr G 34)), (4, .ref (adr G 30)), (5, .ref (adr G 31)), (6, .ref (adr G 33)), (7, .int (5 * a1)), (8, .int v1), (9, .int x2), (10, .int x3)]) (kk : ∀ (y2 : Int32) (y3 : Int32), qL = (y2, y3) → ∀ (H : Heap) (locs : List Loc) (ls : Array Slot), va_P G.1 vwCl (wld G (C, M, Mo)) H → va_S (hyA G) s.heap H locs → lv_has ls 21 [(0, .ref (adr G 0)), (1, .int a1), (2, .int a2), (3, .ref (adr G 34)), (4, .ref (adr G 30)), (5, .ref (adr G 31)), (6, .ref (adr G 33)), (7, .int (5 * a1)), (8, .int v1), (9, .int y2), (10, .int y3)] → W p l e { frames := 8, cells := 0, slots := 6 * 0, locals := 143 } s m ([.ref (adr G 0), .int a1, .int a2, .ref (adr G 34), .ref (adr G 30), .ref (adr G 31), .ref (adr G 33)] : List Value).toArray below meth c H locs 0 0 (vx_MQ below (hyQ G (.inr (some (.int (bI res.1))), (res.2.1, res.2.2, Mo))) (hyXQ G (.inr (some (.int (bI res.1))), (res.2.1, res.2.2, Mo))) ([.ref (adr G 0), .int a1, .int a2, .ref (adr G 34), .ref (adr G 30), .ref (adr G 31), .ref (adr G 33)] : List Value).toArray s 0 (6 * 0) (hyA G)) (F0 m 47 ls [])), W p l e { frames := 8, cells := 0, slots := 6 * 0, locals := 143 } s m ([.ref (adr G 0), .int a1, .int a2, .ref (adr G 34), .ref (adr G 30), .ref (adr G 31), .ref (adr G 33)] : List Value).toArray below meth c H locs 0 0 (vx_MQ below (hyQ G (.inr (some (.int (bI res.1))), (res.2.1, res.2.2, Mo))) (hyXQ G (.inr (some (.int (bI res.1))), (res.2.1, res.2.2, Mo))) ([.ref (adr G 0), .int a1, .int a2, .ref (adr G 34), .ref (adr G 30), .ref (adr G 31), .ref (adr G 33)] : List Value).toArray s 0 (6 * 0) (hyA G)) (F0 m 21 ls []) := by
    intro f
    induction f with
    | zero =>
      intro x2 x3 qL h H locs ls hP hS hl kk
      rw [La_note_L21] at h
      cases h
    | succ f ih =>
      intro x2 x3 qL h H locs ls hP hS hl kk
      rw [La_note_L21] at h
      refine lv_iload hx hb dL_note_21 (lv_at hl 10 rfl) ?_
      refine lv_iload_n hx hb dL_note_23 rfl (lv_at hl 1 rfl) ?_
      refine lv_icmp_ge (tgt := 47) hx hb dL_note_24 (by decide) (fun c4 => ?_) (fun c4 => ?_)
      · rw [if_pos c4] at h
        exact kk x2 x3 (Option.some.inj h).symm _ _ ls hP hS (lv_sub hl [0, 1, 2, 3, 4, 5, 6, 7, 8, 9, 10] rfl)
      · rw [if_neg c4] at h
        refine lv_iload hx hb dL_note_27 (lv_at hl 9 rfl) ?_
        refine lv_aload hx hb dL_note_29 (lv_at hl 5 rfl) ?_
        refine lv_iconst (v := 5) hx hb dL_note_31 rfl ?_
        refine lv_iload hx hb dL_note_32 (lv_at hl 10 rfl) ?_
        refine lv_imul hx hb dL_note_34 ?_
        obtain ⟨v5, hv5, h⟩ := hy_bind h
        obtain ⟨nv5, hv5⟩ := ldE_some hv5
        refine hy_iald (T := (C, M, Mo)) hx hb hX hP 31 60 (M.1 31) (hy34 G (by decide)) rfl nv5 dL_note_35 ?_
        rw [hv5]
        refine lv_iconst (v := 2) hx hb dL_note_36 rfl ?_
        refine lv_ishr hx hb dL_note_37 ?_
        refine lv_iadd hx hb dL_note_38 ?_
        refine lv_istore (lv' := [(9, .int (x2 + (v5 >>> (2 &&& 31)))), (0, .ref (adr G 0)), (1, .int a1), (2, .int a2), (3, .ref (adr G 34)), (4, .ref (adr G 30)), (5, .ref (adr G 31)), (6, .ref (adr G 33)), (7, .int (5 * a1)), (8, .int v1), (10, .int x3)]) hx hb dL_note_39 hl (by decide) rfl (fun ls hl => ?_)
        refine lv_iinc (v := (x3 + 1)) (lv' := [(10, .int (x3 + 1)), (9, .int (x2 + (v5 >>> (2 &&& 31)))), (0, .ref (adr G 0)), (1, .int a1), (2, .int a2), (3, .ref (adr G 34)), (4, .ref (adr G 30)), (5, .ref (adr G 31)), (6, .ref (adr G 33)), (7, .int (5 * a1)), (8, .int v1)]) hx hb dL_note_41 hl (k := 10) rfl rfl (by decide) rfl (fun ls hl => ?_)
        refine lv_goto (tgt := 21) hx hb dL_note_44 (by decide) ?_
        exact ih (x2 + (v5 >>> (2 &&& 31))) (x3 + 1) _ h  _ _ ls hP hS (lv_sub hl [2, 3, 4, 5, 6, 7, 8, 9, 10, 1, 0] rfl) kk
  obtain ⟨q127, hq127, h⟩ := hy_bind h
  refine L6 hyFu 0 0 q127 hq127 _ _ ls hP hS (lv_sub hl [4, 5, 6, 7, 8, 9, 10, 3, 2, 1, 0] rfl) ?_
  intro y2 y3 e9 H locs ls hP hS hl
  subst e9
  try dsimp only at h
  refine lv_iconst (v := 0) hx hb dL_note_47 rfl ?_
  refine lv_istore (lv' := [(10, .int 0), (0, .ref (adr G 0)), (1, .int a1), (2, .int a2), (3, .ref (adr G 34)), (4, .ref (adr G 30)), (5, .ref (adr G 31)), (6, .ref (adr G 33)), (7, .int (5 * a1)), (8, .int v1), (9, .int y2)]) hx hb dL_note_48 hl (by decide) rfl (fun ls hl => ?_)
  refine lv_iconst (v := 0) hx hb dL_note_50 rfl ?_
  refine lv_istore (lv' := [(11, .int 0), (10, .int 0), (0, .ref (adr G 0)), (1, .int a1), (2, .int a2), (3, .ref (adr G 34)), (4, .ref (adr G 30)), (5, .ref (adr G 31)), (6, .ref (adr G 33)), (7, .int (5 * a1)), (8, .int v1), (9, .int y2)]) hx hb dL_note_51 hl (by decide) rfl (fun ls hl => ?_)
  refine lv_aload hx hb dL_note_53 (lv_at hl 6 rfl) ?_
  refine lv_iconst (v := 3) hx hb dL_note_55 rfl ?_
  obtain ⟨v7, hv7, h⟩ := hy_bind h
  obtain ⟨nv7, hv7⟩ := ldE_some hv7
  refine hy_iald (T := (C, M, Mo)) hx hb hX hP 30 6 (M.1 30) (hy34 G (by decide)) rfl nv7 dL_note_56 ?_
  rw [hv7]
  refine lv_istore (lv' := [(12, .int v7), (11, .int 0), (10, .int 0), (0, .ref (adr G 0)), (1, .int a1), (2, .int a2), (3, .ref (adr G 34)), (4, .ref (adr G 30)), (5, .ref (adr G 31)), (6, .ref (adr G 33)), (7, .int (5 * a1)), (8, .int v1), (9, .int y2)]) hx hb dL_note_57 hl (by decide) rfl (fun ls hl => ?_)
  have L13 : ∀ (f : Nat) (x8 : Int32) (x9 : Int32) (x10 : Int32) (qL : (Int32 × Int32 × Int32)) (h : La_note_L59 M y2 f x8 x9 x10 = some qL) (H : Heap) (locs : List Loc) (ls : Array Slot) (hP : va_P G.1 vwCl (wld G (C, M, Mo)) H) (hS : va_S (hyA G) s.heap H locs) (hl : lv_has ls 21 [(0, .ref (adr G 0)), (1, .int a1), (2, .int a2), (3, .ref (adr G 34)), (4, .ref (adr G 30)), (5, .ref (adr G 31)), (6, .ref (adr G 33)), (7, .int (5 * a1)), (8, .int v1), (9, .int y2), (10, .int x8), (11, .int x9), (12, .int x10)]) (kk : ∀ (y8 : Int32) (y9 : Int32) (y10 : Int32), qL = (y8, y9, y10) → ∀ (H : Heap) (locs : List Loc) (ls : Array Slot), va_P G.1 vwCl (wld G (C, M, Mo)) H → va_S (hyA G) s.heap H locs → lv_has ls 21 [(0, .ref (adr G 0)), (1, .int a1), (2, .int a2), (3, .ref (adr G 34)), (4, .ref (adr G 30)), (5, .ref (adr G 31)), (6, .ref (adr G 33)), (7, .int (5 * a1)), (8, .int v1), (9, .int y2), (10, .int y8), (11, .int y9), (12, .int y10)] → W p l e { frames := 8, cells := 0, slots := 6 * 0, locals := 143 } s m ([.ref (adr G 0), .int a1, .int a2, .ref (adr G 34), .ref (adr G 30), .ref (adr G 31), .ref (adr G 33)] : List Value).toArray below meth c H locs 0 0 (vx_MQ below (hyQ G (.inr (some (.int (bI res.1))), (res.2.1, res.2.2, Mo))) (hyXQ G (.inr (some (.int (bI res.1))), (res.2.1, res.2.2, Mo))) ([.ref (adr G 0), .int a1, .int a2, .ref (adr G 34), .ref (adr G 30), .ref (adr G 31), .ref (adr G 33)] : List Value).toArray s 0 (6 * 0) (hyA G)) (F0 m 85 ls [])), W p l e { frames := 8, cells := 0, slots := 6 * 0, locals := 143 } s m ([.ref (adr G 0), .int a1, .int a2, .ref (adr G 34), .ref (adr G 30), .ref (adr G 31), .ref (adr G 33)] : List Value).toArray below meth c H locs 0 0 (vx_MQ below (hyQ G (.inr (some (.int (bI res.1))), (res.2.1, res.2.2, Mo))) (hyXQ G (.inr (some (.int (bI res.1))), (res.2.1, res.2.2, Mo))) ([.ref (adr G 0), .int a1, .int a2, .ref (adr G 34), .ref (adr G 30), .ref (adr G 31), .ref (adr G 33)] : List Value).toArray s 0 (6 * 0) (hyA G)) (F0 m 59 ls []) := by
    intro f
    induction f with
    | zero =>
      intro x8 x9 x10 qL h H locs ls hP hS hl kk
      rw [La_note_L59] at h
      cases h
    | succ f ih =>
      intro x8 x9 x10 qL h H locs ls hP hS hl kk
      rw [La_note_L59] at h
      refine lv_iload hx hb dL_note_59 (lv_at hl 12 rfl) ?_
      refine lv_iload hx hb dL_note_61 (lv_at hl 9 rfl) ?_
      refine lv_icmp_gt (tgt := 85) hx hb dL_note_63 (by decide) (fun c11 => ?_) (fun c11 => ?_)
      · rw [if_pos c11] at h
        exact kk x8 x9 x10 (Option.some.inj h).symm _ _ ls hP hS (lv_sub hl [0, 1, 2, 3, 4, 5, 6, 7, 8, 9, 10, 11, 12] rfl)
      · rw [if_neg c11] at h
        refine lv_iload hx hb dL_note_66 (lv_at hl 12 rfl) ?_
        refine lv_istore (lv' := [(11, .int x10), (0, .ref (adr G 0)), (1, .int a1), (2, .int a2), (3, .ref (adr G 34)), (4, .ref (adr G 30)), (5, .ref (adr G 31)), (6, .ref (adr G 33)), (7, .int (5 * a1)), (8, .int v1), (9, .int y2), (10, .int x8), (12, .int x10)]) hx hb dL_note_68 hl (by decide) rfl (fun ls hl => ?_)
        refine lv_iload hx hb dL_note_70 (lv_at hl 12 rfl) ?_
        refine lv_aload hx hb dL_note_72 (lv_at hl 5 rfl) ?_
        refine lv_iconst (v := 2) hx hb dL_note_74 rfl ?_
        obtain ⟨v12, hv12, h⟩ := hy_bind h
        obtain ⟨nv12, hv12⟩ := ldE_some hv12
        refine hy_iald (T := (C, M, Mo)) hx hb hX hP 30 6 (M.1 30) (hy34 G (by decide)) rfl nv12 dL_note_75 ?_
        rw [hv12]
        refine lv_iadd hx hb dL_note_76 ?_
        refine lv_istore (lv' := [(12, .int (x10 + v12)), (11, .int x10), (0, .ref (adr G 0)), (1, .int a1), (2, .int a2), (3, .ref (adr G 34)), (4, .ref (adr G 30)), (5, .ref (adr G 31)), (6, .ref (adr G 33)), (7, .int (5 * a1)), (8, .int v1), (9, .int y2), (10, .int x8)]) hx hb dL_note_77 hl (by decide) rfl (fun ls hl => ?_)
        refine lv_iinc (v := (x8 + 1)) (lv' := [(10, .int (x8 + 1)), (12, .int (x10 + v12)), (11, .int x10), (0, .ref (adr G 0)), (1, .int a1), (2, .int a2), (3, .ref (adr G 34)), (4, .ref (adr G 30)), (5, .ref (adr G 31)), (6, .ref (adr G 33)), (7, .int (5 * a1)), (8, .int v1), (9, .int y2)]) hx hb dL_note_79 hl (k := 12) rfl rfl (by decide) rfl (fun ls hl => ?_)
        refine lv_goto (tgt := 59) hx hb dL_note_82 (by decide) ?_
        exact ih (x8 + 1) x10 (x10 + v12) _ h  _ _ ls hP hS (lv_sub hl [3, 4, 5, 6, 7, 8, 9, 10, 11, 12, 0, 2, 1] rfl) kk
  obtain ⟨q126, hq126, h⟩ := hy_bind h
  refine L13 hyFu 0 0 v7 q126 hq126 _ _ ls hP hS (lv_sub hl [3, 4, 5, 6, 7, 8, 9, 10, 11, 12, 2, 1, 0] rfl) ?_
  intro y8 y9 y10 e9 H locs ls hP hS hl
  subst e9
  try dsimp only at h
  refine lv_aload_n hx hb dL_note_85 rfl (lv_at hl 0 rfl) ?_
  refine lv_iload_n hx hb dL_note_86 rfl (lv_at hl 1 rfl) ?_
  refine lv_iconst (v := 0) hx hb dL_note_87 rfl ?_
  obtain ⟨v14, hv14, h⟩ := hy_bind h
  refine hy_ret (hy_rV0 (T := (C, M, Mo)) (v := some (.int v14)) (T2 := (C, M, Mo)) (As := [.int a1, .int 0]) (rest := []) (n := 0) hx hb hml hown hts hX hP hS hl (c_Hp_note hlt M Mo a1 0 C (res := .inr v14) (rtb_some hv14)) m_Hp_note q_662 (hy_recv hX hP 0 9 (by decide) rfl rfl) rfl rfl (Nat.le_of_ble_eq_true rfl) dL_note_88 ⟨Nat.le_of_ble_eq_true rfl, Nat.le_of_ble_eq_true rfl⟩ ⟨by decide, by decide⟩) hS (fun H locs hP hS => ?_)
  refine lv_aload hx hb dL_note_91 (lv_at hl 5 rfl) ?_
  refine lv_iload hx hb dL_note_93 (lv_at hl 7 rfl) ?_
  obtain ⟨v15, hv15, h⟩ := hy_bind h
  obtain ⟨nv15, hv15⟩ := ldE_some hv15
  refine hy_iald (T := (C, M, Mo)) hx hb hX hP 31 60 (M.1 31) (hy34 G (by decide)) rfl nv15 dL_note_95 ?_
  rw [hv15]
  refine lv_iconst (v := 2) hx hb dL_note_96 rfl ?_
  refine lv_ishr hx hb dL_note_97 ?_
  refine lv_icmp_ne (tgt := 250) hx hb dL_note_98 (by decide) (fun c16 => ?_) (fun c16 => ?_)
  · rw [if_neg c16] at h
    refine lv_iconst (v := 0) hx hb dL_note_250 rfl ?_
    exact hy_zret (T := (C, M, Mo)) hx hb hr hlocks hP hS (by decide) (by decide) (bI_nar false) (by rw [← (Option.some.inj h)] <;> rfl) dL_note_251
  · rw [if_pos (c16)] at h
    refine lv_aload_n hx hb dL_note_101 rfl (lv_at hl 0 rfl) ?_
    refine lv_iload_n hx hb dL_note_102 rfl (lv_at hl 1 rfl) ?_
    refine lv_iconst (v := 1) hx hb dL_note_103 rfl ?_
    obtain ⟨v17, hv17, h⟩ := hy_bind h
    refine hy_ret (hy_rV0 (T := (C, M, Mo)) (v := some (.int v17)) (T2 := (C, M, Mo)) (As := [.int a1, .int 1]) (rest := []) (n := 0) hx hb hml hown hts hX hP hS hl (c_Hp_note hlt M Mo a1 1 C (res := .inr v17) (rtb_some hv17)) m_Hp_note q_662 (hy_recv hX hP 0 9 (by decide) rfl rfl) rfl rfl (Nat.le_of_ble_eq_true rfl) dL_note_104 ⟨Nat.le_of_ble_eq_true rfl, Nat.le_of_ble_eq_true rfl⟩ ⟨by decide, by decide⟩) hS (fun H locs hP hS => ?_)
    refine lv_iload_n hx hb dL_note_107 rfl (lv_at hl 1 rfl) ?_
    refine lv_aload hx hb dL_note_108 (lv_at hl 4 rfl) ?_
    refine lv_aload hx hb dL_note_110 (lv_at hl 5 rfl) ?_
    obtain ⟨v18, hv18, h⟩ := hy_bind h
    refine hy_ret (hy_rS0 (T := (C, M, Mo)) (v := some (.int (bI v18))) (T2 := (C, M, Mo)) (As := [.int a1, .ref (adr G 30), .ref (adr G 31)]) (rest := [.int v17]) (n := 0) hx hb hml hown hts hX hP hS hl (c_La_slurred C Mo a1 M hv18) m_La_slurred q_711 rfl rfl (Nat.le_of_ble_eq_true rfl) dL_note_112 ⟨Nat.le_of_ble_eq_true rfl, Nat.le_of_ble_eq_true rfl⟩ ⟨by decide, by decide⟩) hS (fun H locs hP hS => ?_)
    have J125 : ∀ (H : Heap) (locs : List Loc) (ls : Array Slot) (u1 : Int32), u1 = (bI v18) → va_P G.1 vwCl (wld G (C, M, Mo)) H → va_S (hyA G) s.heap H locs → lv_has ls 21 [(0, .ref (adr G 0)), (1, .int a1), (2, .int a2), (3, .ref (adr G 34)), (4, .ref (adr G 30)), (5, .ref (adr G 31)), (6, .ref (adr G 33)), (7, .int (5 * a1)), (8, .int v1), (9, .int y2), (10, .int y8), (11, .int y9), (12, .int y10)] → W p l e { frames := 8, cells := 0, slots := 6 * 0, locals := 143 } s m ([.ref (adr G 0), .int a1, .int a2, .ref (adr G 34), .ref (adr G 30), .ref (adr G 31), .ref (adr G 33)] : List Value).toArray below meth c H locs 0 0 (vx_MQ below (hyQ G (.inr (some (.int (bI res.1))), (res.2.1, res.2.2, Mo))) (hyXQ G (.inr (some (.int (bI res.1))), (res.2.1, res.2.2, Mo))) ([.ref (adr G 0), .int a1, .int a2, .ref (adr G 34), .ref (adr G 30), .ref (adr G 31), .ref (adr G 33)] : List Value).toArray s 0 (6 * 0) (hyA G)) (F0 m 123 ls [.int u1, .int v17]) := by
      intro H locs ls u1 eu1 hP hS hl
      subst eu1
      refine lv_icmp_ne (tgt := 250) hx hb dL_note_123 (by decide) (fun c20 => ?_) (fun c20 => ?_)
      · rw [if_neg c20] at h
        refine lv_iconst (v := 0) hx hb dL_note_250 rfl ?_
        exact hy_zret (T := (C, M, Mo)) hx hb hr hlocks hP hS (by decide) (by decide) (bI_nar false) (by rw [← (Option.some.inj h)] <;> rfl) dL_note_251
      · rw [if_pos (c20)] at h
        refine lv_aload_n hx hb dL_note_126 rfl (lv_at hl 0 rfl) ?_
        refine lv_iload_n hx hb dL_note_127 rfl (lv_at hl 1 rfl) ?_
        refine lv_iconst (v := 2) hx hb dL_note_128 rfl ?_
        obtain ⟨v21, hv21, h⟩ := hy_bind h
        refine hy_ret (hy_rV0 (T := (C, M, Mo)) (v := some (.int v21)) (T2 := (C, M, Mo)) (As := [.int a1, .int 2]) (rest := []) (n := 0) hx hb hml hown hts hX hP hS hl (c_Hp_note hlt M Mo a1 2 C (res := .inr v21) (rtb_some hv21)) m_Hp_note q_662 (hy_recv hX hP 0 9 (by decide) rfl rfl) rfl rfl (Nat.le_of_ble_eq_true rfl) dL_note_129 ⟨Nat.le_of_ble_eq_true rfl, Nat.le_of_ble_eq_true rfl⟩ ⟨by decide, by decide⟩) hS (fun H locs hP hS => ?_)
        refine lv_iload hx hb dL_note_132 (lv_at hl 8 rfl) ?_
        refine lv_icmp_ne (tgt := 250) hx hb dL_note_134 (by decide) (fun c22 => ?_) (fun c22 => ?_)
        · rw [if_neg c22] at h
          refine lv_iconst (v := 0) hx hb dL_note_250 rfl ?_
          exact hy_zret (T := (C, M, Mo)) hx hb hr hlocks hP hS (by decide) (by decide) (bI_nar false) (by rw [← (Option.some.inj h)] <;> rfl) dL_note_251
        · rw [if_pos (c22)] at h
          refine lv_aload_n hx hb dL_note_137 rfl (lv_at hl 0 rfl) ?_
          refine lv_iload_n hx hb dL_note_138 rfl (lv_at hl 1 rfl) ?_
          refine lv_iconst (v := 3) hx hb dL_note_139 rfl ?_
          obtain ⟨v23, hv23, h⟩ := hy_bind h
          refine hy_ret (hy_rV0 (T := (C, M, Mo)) (v := some (.int v23)) (T2 := (C, M, Mo)) (As := [.int a1, .int 3]) (rest := []) (n := 0) hx hb hml hown hts hX hP hS hl (c_Hp_note hlt M Mo a1 3 C (res := .inr v23) (rtb_some hv23)) m_Hp_note q_662 (hy_recv hX hP 0 9 (by decide) rfl rfl) rfl rfl (Nat.le_of_ble_eq_true rfl) dL_note_140 ⟨Nat.le_of_ble_eq_true rfl, Nat.le_of_ble_eq_true rfl⟩ ⟨by decide, by decide⟩) hS (fun H locs hP hS => ?_)
          refine lv_iload_n hx hb dL_note_143 rfl (lv_at hl 1 rfl) ?_
          refine lv_iload hx hb dL_note_144 (lv_at hl 8 rfl) ?_
          refine lv_aload hx hb dL_note_146 (lv_at hl 4 rfl) ?_
          refine lv_aload hx hb dL_note_148 (lv_at hl 5 rfl) ?_
          obtain ⟨v24, hv24, h⟩ := hy_bind h
          refine hy_ret (hy_rS0 (T := (C, M, Mo)) (v := some (.int v24)) (T2 := (C, M, Mo)) (As := [.int v1, .ref (adr G 30), .ref (adr G 31)]) (rest := [.int a1, .int v23]) (n := 0) hx hb hml hown hts hX hP hS hl (c_La_first C Mo v1 M hv24) m_La_first q_714 rfl rfl (Nat.le_of_ble_eq_true rfl) dL_note_150 ⟨Nat.le_of_ble_eq_true rfl, Nat.le_of_ble_eq_true rfl⟩ ⟨by decide, by decide⟩) hS (fun H locs hP hS => ?_)
          refine lv_isub hx hb dL_note_153 ?_
          refine lv_icmp_ne (tgt := 250) hx hb dL_note_154 (by decide) (fun c25 => ?_) (fun c25 => ?_)
          · rw [if_neg c25] at h
            refine lv_iconst (v := 0) hx hb dL_note_250 rfl ?_
            exact hy_zret (T := (C, M, Mo)) hx hb hr hlocks hP hS (by decide) (by decide) (bI_nar false) (by rw [← (Option.some.inj h)] <;> rfl) dL_note_251
          · rw [if_pos (c25)] at h
            refine lv_aload_n hx hb dL_note_157 rfl (lv_at hl 0 rfl) ?_
            refine lv_iload_n hx hb dL_note_158 rfl (lv_at hl 1 rfl) ?_
            refine lv_iconst (v := 4) hx hb dL_note_159 rfl ?_
            obtain ⟨v26, hv26, h⟩ := hy_bind h
            refine hy_ret (hy_rV0 (T := (C, M, Mo)) (v := some (.int v26)) (T2 := (C, M, Mo)) (As := [.int a1, .int 4]) (rest := []) (n := 0) hx hb hml hown hts hX hP hS hl (c_Hp_note hlt M Mo a1 4 C (res := .inr v26) (rtb_some hv26)) m_Hp_note q_662 (hy_recv hX hP 0 9 (by decide) rfl rfl) rfl rfl (Nat.le_of_ble_eq_true rfl) dL_note_160 ⟨Nat.le_of_ble_eq_true rfl, Nat.le_of_ble_eq_true rfl⟩ ⟨by decide, by decide⟩) hS (fun H locs hP hS => ?_)
            refine lv_iload hx hb dL_note_163 (lv_at hl 10 rfl) ?_
            refine lv_icmp_ne (tgt := 250) hx hb dL_note_165 (by decide) (fun c27 => ?_) (fun c27 => ?_)
            · rw [if_neg c27] at h
              refine lv_iconst (v := 0) hx hb dL_note_250 rfl ?_
              exact hy_zret (T := (C, M, Mo)) hx hb hr hlocks hP hS (by decide) (by decide) (bI_nar false) (by rw [← (Option.some.inj h)] <;> rfl) dL_note_251
            · rw [if_pos (c27)] at h
              refine lv_aload_n hx hb dL_note_168 rfl (lv_at hl 0 rfl) ?_
              refine lv_iload_n hx hb dL_note_169 rfl (lv_at hl 1 rfl) ?_
              refine lv_iconst (v := 5) hx hb dL_note_170 rfl ?_
              obtain ⟨v28, hv28, h⟩ := hy_bind h
              refine hy_ret (hy_rV0 (T := (C, M, Mo)) (v := some (.int v28)) (T2 := (C, M, Mo)) (As := [.int a1, .int 5]) (rest := []) (n := 0) hx hb hml hown hts hX hP hS hl (c_Hp_note hlt M Mo a1 5 C (res := .inr v28) (rtb_some hv28)) m_Hp_note q_662 (hy_recv hX hP 0 9 (by decide) rfl rfl) rfl rfl (Nat.le_of_ble_eq_true rfl) dL_note_171 ⟨Nat.le_of_ble_eq_true rfl, Nat.le_of_ble_eq_true rfl⟩ ⟨by decide, by decide⟩) hS (fun H locs hP hS => ?_)
              refine lv_iload hx hb dL_note_174 (lv_at hl 9 rfl) ?_
              refine lv_iload hx hb dL_note_176 (lv_at hl 11 rfl) ?_
              refine lv_isub hx hb dL_note_178 ?_
              refine lv_icmp_ne (tgt := 250) hx hb dL_note_179 (by decide) (fun c29 => ?_) (fun c29 => ?_)
              · rw [if_neg c29] at h
                refine lv_iconst (v := 0) hx hb dL_note_250 rfl ?_
                exact hy_zret (T := (C, M, Mo)) hx hb hr hlocks hP hS (by decide) (by decide) (bI_nar false) (by rw [← (Option.some.inj h)] <;> rfl) dL_note_251
              · rw [if_pos (c29)] at h
                refine lv_aload_n hx hb dL_note_182 rfl (lv_at hl 0 rfl) ?_
                refine lv_iload_n hx hb dL_note_183 rfl (lv_at hl 1 rfl) ?_
                refine lv_bipush (v := 6) hx hb dL_note_184 rfl ?_
                obtain ⟨v30, hv30, h⟩ := hy_bind h
                refine hy_ret (hy_rV0 (T := (C, M, Mo)) (v := some (.int v30)) (T2 := (C, M, Mo)) (As := [.int a1, .int 6]) (rest := []) (n := 0) hx hb hml hown hts hX hP hS hl (c_Hp_note hlt M Mo a1 6 C (res := .inr v30) (rtb_some hv30)) m_Hp_note q_662 (hy_recv hX hP 0 9 (by decide) rfl rfl) rfl rfl (Nat.le_of_ble_eq_true rfl) dL_note_186 ⟨Nat.le_of_ble_eq_true rfl, Nat.le_of_ble_eq_true rfl⟩ ⟨by decide, by decide⟩) hS (fun H locs hP hS => ?_)
                refine lv_iload hx hb dL_note_189 (lv_at hl 9 rfl) ?_
                refine lv_aload hx hb dL_note_191 (lv_at hl 5 rfl) ?_
                refine lv_iload hx hb dL_note_193 (lv_at hl 7 rfl) ?_
                obtain ⟨v31, hv31, h⟩ := hy_bind h
                obtain ⟨nv31, hv31⟩ := ldE_some hv31
                refine hy_iald (T := (C, M, Mo)) hx hb hX hP 31 60 (M.1 31) (hy34 G (by decide)) rfl nv31 dL_note_195 ?_
                rw [hv31]
                refine lv_iconst (v := 2) hx hb dL_note_196 rfl ?_
                refine lv_ishr hx hb dL_note_197 ?_
                refine lv_iadd hx hb dL_note_198 ?_
                refine lv_iload hx hb dL_note_199 (lv_at hl 12 rfl) ?_
                have J124 : ∀ (H : Heap) (locs : List Loc) (ls : Array Slot) (u1 : Int32), u1 = (bI (!decide ((y2 + (v31 >>> (2 &&& 31))) ≤ y10))) → va_P G.1 vwCl (wld G (C, M, Mo)) H → va_S (hyA G) s.heap H locs → lv_has ls 21 [(0, .ref (adr G 0)), (1, .int a1), (2, .int a2), (3, .ref (adr G 34)), (4, .ref (adr G 30)), (5, .ref (adr G 31)), (6, .ref (adr G 33)), (7, .int (5 * a1)), (8, .int v1), (9, .int y2), (10, .int y8), (11, .int y9), (12, .int y10)] → W p l e { frames := 8, cells := 0, slots := 6 * 0, locals := 143 } s m ([.ref (adr G 0), .int a1, .int a2, .ref (adr G 34), .ref (adr G 30), .ref (adr G 31), .ref (adr G 33)] : List Value).toArray below meth c H locs 0 0 (vx_MQ below (hyQ G (.inr (some (.int (bI res.1))), (res.2.1, res.2.2, Mo))) (hyXQ G (.inr (some (.int (bI res.1))), (res.2.1, res.2.2, Mo))) ([.ref (adr G 0), .int a1, .int a2, .ref (adr G 34), .ref (adr G 30), .ref (adr G 31), .ref (adr G 33)] : List Value).toArray s 0 (6 * 0) (hyA G)) (F0 m 209 ls [.int u1, .int v30]) := by
                  intro H locs ls u1 eu1 hP hS hl
                  subst eu1
                  refine lv_icmp_ne (tgt := 250) hx hb dL_note_209 (by decide) (fun c33 => ?_) (fun c33 => ?_)
                  · rw [if_neg c33] at h
                    refine lv_iconst (v := 0) hx hb dL_note_250 rfl ?_
                    exact hy_zret (T := (C, M, Mo)) hx hb hr hlocks hP hS (by decide) (by decide) (bI_nar false) (by rw [← (Option.some.inj h)] <;> rfl) dL_note_251
                  · rw [if_pos (c33)] at h
                    refine lv_aload_n hx hb dL_note_212 rfl (lv_at hl 0 rfl) ?_
                    refine lv_iload_n hx hb dL_note_213 rfl (lv_at hl 1 rfl) ?_
                    refine lv_bipush (v := 7) hx hb dL_note_214 rfl ?_
                    obtain ⟨v34, hv34, h⟩ := hy_bind h
                    refine hy_ret (hy_rV0 (T := (C, M, Mo)) (v := some (.int v34)) (T2 := (C, M, Mo)) (As := [.int a1, .int 7]) (rest := []) (n := 0) hx hb hml hown hts hX hP hS hl (c_Hp_note hlt M Mo a1 7 C (res := .inr v34) (rtb_some hv34)) m_Hp_note q_662 (hy_recv hX hP 0 9 (by decide) rfl rfl) rfl rfl (Nat.le_of_ble_eq_true rfl) dL_note_216 ⟨Nat.le_of_ble_eq_true rfl, Nat.le_of_ble_eq_true rfl⟩ ⟨by decide, by decide⟩) hS (fun H locs hP hS => ?_)
                    refine lv_iload_n hx hb dL_note_219 rfl (lv_at hl 1 rfl) ?_
                    refine lv_iload_n hx hb dL_note_220 rfl (lv_at hl 2 rfl) ?_
                    refine lv_aload_n hx hb dL_note_221 rfl (lv_at hl 3 rfl) ?_
                    refine lv_aload hx hb dL_note_222 (lv_at hl 4 rfl) ?_
                    refine lv_aload hx hb dL_note_224 (lv_at hl 5 rfl) ?_
                    refine lv_aload hx hb dL_note_226 (lv_at hl 6 rfl) ?_
                    obtain ⟨v35, hv35, h⟩ := hy_bind h
                    refine hy_ret (hy_rS0 (T := (C, M, Mo)) (v := some (.int v35)) (T2 := (C, M, Mo)) (As := [.int a1, .int a2, .ref (adr G 34), .ref (adr G 30), .ref (adr G 31), .ref (adr G 33)]) (rest := [.int v34]) (n := 0) hx hb hml hown hts hX hP hS hl (c_La_column (by omega) C Mo a1 a2 M hv35) m_La_column q_717 rfl rfl (Nat.le_of_ble_eq_true rfl) dL_note_228 ⟨Nat.le_of_ble_eq_true rfl, Nat.le_of_ble_eq_true rfl⟩ ⟨by decide, by decide⟩) hS (fun H locs hP hS => ?_)
                    refine lv_icmp_ne (tgt := 250) hx hb dL_note_231 (by decide) (fun c36 => ?_) (fun c36 => ?_)
                    · rw [if_neg c36] at h
                      refine lv_iconst (v := 0) hx hb dL_note_250 rfl ?_
                      exact hy_zret (T := (C, M, Mo)) hx hb hr hlocks hP hS (by decide) (by decide) (bI_nar false) (by rw [← (Option.some.inj h)] <;> rfl) dL_note_251
                    · rw [if_pos (c36)] at h
                      refine lv_aload_n hx hb dL_note_234 rfl (lv_at hl 0 rfl) ?_
                      refine lv_iload_n hx hb dL_note_235 rfl (lv_at hl 1 rfl) ?_
                      refine lv_bipush (v := 8) hx hb dL_note_236 rfl ?_
                      obtain ⟨v37, hv37, h⟩ := hy_bind h
                      refine hy_ret (hy_rV0 (T := (C, M, Mo)) (v := some (.int v37)) (T2 := (C, M, Mo)) (As := [.int a1, .int 8]) (rest := []) (n := 0) hx hb hml hown hts hX hP hS hl (c_Hp_note hlt M Mo a1 8 C (res := .inr v37) (rtb_some hv37)) m_Hp_note q_662 (hy_recv hX hP 0 9 (by decide) rfl rfl) rfl rfl (Nat.le_of_ble_eq_true rfl) dL_note_238 ⟨Nat.le_of_ble_eq_true rfl, Nat.le_of_ble_eq_true rfl⟩ ⟨by decide, by decide⟩) hS (fun H locs hP hS => ?_)
                      refine lv_iload_n hx hb dL_note_241 rfl (lv_at hl 1 rfl) ?_
                      refine lv_aload hx hb dL_note_242 (lv_at hl 5 rfl) ?_
                      obtain ⟨v38, hv38, h⟩ := hy_bind h
                      refine hy_ret (hy_rS0 (T := (C, M, Mo)) (v := some (.int v38)) (T2 := (C, M, Mo)) (As := [.int a1, .ref (adr G 31)]) (rest := [.int v37]) (n := 0) hx hb hml hown hts hX hP hS hl (c_La_parallels C Mo a1 M hv38) m_La_parallels q_729 rfl rfl (Nat.le_of_ble_eq_true rfl) dL_note_244 ⟨Nat.le_of_ble_eq_true rfl, Nat.le_of_ble_eq_true rfl⟩ ⟨by decide, by decide⟩) hS (fun H locs hP hS => ?_)
                      refine lv_icmp_eq (tgt := 252) hx hb dL_note_247 (by decide) (fun c39 => ?_) (fun c39 => ?_)
                      · rw [if_pos c39] at h
                        refine lv_iconst (v := 0) hx hb dL_note_252 rfl ?_
                        refine lv_istore (lv' := [(13, .int 0), (0, .ref (adr G 0)), (1, .int a1), (2, .int a2), (3, .ref (adr G 34)), (4, .ref (adr G 30)), (5, .ref (adr G 31)), (6, .ref (adr G 33)), (7, .int (5 * a1)), (8, .int v1), (9, .int y2), (10, .int y8), (11, .int y9), (12, .int y10)]) hx hb dL_note_253 hl (by decide) rfl (fun ls hl => ?_)
                        have L106 : ∀ (f : Nat) (x40 : Int32) (qL : ((Bool × hyM × hyM) ⊕ (Int32))) (h : La_note_L255 a1 C M f x40 = some qL) (hq : ∀ r9, qL = .inl r9 → res = r9) (H : Heap) (locs : List Loc) (ls : Array Slot) (hP : va_P G.1 vwCl (wld G (C, M, Mo)) H) (hS : va_S (hyA G) s.heap H locs) (hl : lv_has ls 21 [(0, .ref (adr G 0)), (1, .int a1), (2, .int a2), (3, .ref (adr G 34)), (4, .ref (adr G 30)), (5, .ref (adr G 31)), (6, .ref (adr G 33)), (7, .int (5 * a1)), (8, .int v1), (9, .int y2), (10, .int y8), (11, .int y9), (12, .int y10), (13, .int x40)]) (kk : ∀ (y40 : Int32), qL = .inr (y40) → ∀ (H : Heap) (locs : List Loc) (ls : Array Slot), va_P G.1 vwCl (wld G (C, M, Mo)) H → va_S (hyA G) s.heap H locs → lv_has ls 21 [(0, .ref (adr G 0)), (1, .int a1), (2, .int a2), (3, .ref (adr G 34)), (4, .ref (adr G 30)), (5, .ref (adr G 31)), (6, .ref (adr G 33)), (7, .int (5 * a1)), (8, .int v1), (9, .int y2), (10, .int y8), (11, .int y9), (12, .int y10), (13, .int y40)] → W p l e { frames := 8, cells := 0, slots := 6 * 0, locals := 143 } s m ([.ref (adr G 0), .int a1, .int a2, .ref (adr G 34), .ref (adr G 30), .ref (adr G 31), .ref (adr G 33)] : List Value).toArray below meth c H locs 0 0 (vx_MQ below (hyQ G (.inr (some (.int (bI res.1))), (res.2.1, res.2.2, Mo))) (hyXQ G (.inr (some (.int (bI res.1))), (res.2.1, res.2.2, Mo))) ([.ref (adr G 0), .int a1, .int a2, .ref (adr G 34), .ref (adr G 30), .ref (adr G 31), .ref (adr G 33)] : List Value).toArray s 0 (6 * 0) (hyA G)) (F0 m 491 ls [])), W p l e { frames := 8, cells := 0, slots := 6 * 0, locals := 143 } s m ([.ref (adr G 0), .int a1, .int a2, .ref (adr G 34), .ref (adr G 30), .ref (adr G 31), .ref (adr G 33)] : List Value).toArray below meth c H locs 0 0 (vx_MQ below (hyQ G (.inr (some (.int (bI res.1))), (res.2.1, res.2.2, Mo))) (hyXQ G (.inr (some (.int (bI res.1))), (res.2.1, res.2.2, Mo))) ([.ref (adr G 0), .int a1, .int a2, .ref (adr G 34), .ref (adr G 30), .ref (adr G 31), .ref (adr G 33)] : List Value).toArray s 0 (6 * 0) (hyA G)) (F0 m 255 ls []) := by
                          intro f
                          induction f with
                          | zero =>
                            intro x40 qL h hq H locs ls hP hS hl kk
                            rw [La_note_L255] at h
                            cases h
                          | succ f ih =>
                            intro x40 qL h hq H locs ls hP hS hl kk
                            rw [La_note_L255] at h
                            refine lv_iload hx hb dL_note_255 (lv_at hl 13 rfl) ?_
                            refine lv_iconst (v := 4) hx hb dL_note_257 rfl ?_
                            refine lv_icmp_ge (tgt := 491) hx hb dL_note_258 (by decide) (fun c41 => ?_) (fun c41 => ?_)
                            · rw [if_pos c41] at h
                              exact kk x40 (Option.some.inj h).symm _ _ ls hP hS (lv_sub hl [0, 1, 2, 3, 4, 5, 6, 7, 8, 9, 10, 11, 12, 13] rfl)
                            · rw [if_neg c41] at h
                              refine lv_aload hx hb dL_note_261 (lv_at hl 5 rfl) ?_
                              refine lv_iload hx hb dL_note_263 (lv_at hl 7 rfl) ?_
                              refine lv_iconst (v := 1) hx hb dL_note_265 rfl ?_
                              refine lv_iadd hx hb dL_note_266 ?_
                              refine lv_iload hx hb dL_note_267 (lv_at hl 13 rfl) ?_
                              refine lv_iadd hx hb dL_note_269 ?_
                              obtain ⟨v42, hv42, h⟩ := hy_bind h
                              obtain ⟨nv42, hv42⟩ := ldE_some hv42
                              refine hy_iald (T := (C, M, Mo)) hx hb hX hP 31 60 (M.1 31) (hy34 G (by decide)) rfl nv42 dL_note_270 ?_
                              rw [hv42]
                              refine lv_istore (lv' := [(14, .int v42), (0, .ref (adr G 0)), (1, .int a1), (2, .int a2), (3, .ref (adr G 34)), (4, .ref (adr G 30)), (5, .ref (adr G 31)), (6, .ref (adr G 33)), (7, .int (5 * a1)), (8, .int v1), (9, .int y2), (10, .int y8), (11, .int y9), (12, .int y10), (13, .int x40)]) hx hb dL_note_271 hl (by decide) rfl (fun ls hl => ?_)
                              refine lv_iload hx hb dL_note_273 (lv_at hl 0 rfl) ?_
                              refine lv_aload hx hb dL_note_275 (lv_at hl 5 rfl) ?_
                              obtain ⟨v43, hv43, h⟩ := hy_bind h
                              refine hy_ret (hy_rS0 (T := (C, M, Mo)) (v := some (.int v43)) (T2 := (C, M, Mo)) (As := [.int v42, .ref (adr G 30)]) (rest := []) (n := 0) hx hb hml hown hts hX hP hS hl (c_La_degree C Mo v42 M hv43) m_La_degree q_732 rfl rfl (Nat.le_of_ble_eq_true rfl) dL_note_277 ⟨Nat.le_of_ble_eq_true rfl, Nat.le_of_ble_eq_true rfl⟩ ⟨by decide, by decide⟩) hS (fun H locs hP hS => ?_)
                              refine lv_istore (lv' := [(15, .int v43), (14, .int v42), (0, .ref (adr G 0)), (1, .int a1), (2, .int a2), (3, .ref (adr G 34)), (4, .ref (adr G 30)), (5, .ref (adr G 31)), (6, .ref (adr G 33)), (7, .int (5 * a1)), (8, .int v1), (9, .int y2), (10, .int y8), (11, .int y9), (12, .int y10), (13, .int x40)]) hx hb dL_note_280 hl (by decide) rfl (fun ls hl => ?_)
                              refine lv_iload hx hb dL_note_282 (lv_at hl 0 rfl) ?_
                              refine lv_if_ge (tgt := 299) hx hb dL_note_284 (by decide) (fun c44 => ?_) (fun c44 => ?_)
                              · rw [if_pos c44] at h
                                refine lv_iload hx hb dL_note_299 (lv_at hl 0 rfl) ?_
                                refine lv_istore (lv' := [(16, .int v43), (15, .int v43), (14, .int v42), (0, .ref (adr G 0)), (1, .int a1), (2, .int a2), (3, .ref (adr G 34)), (4, .ref (adr G 30)), (5, .ref (adr G 31)), (6, .ref (adr G 33)), (7, .int (5 * a1)), (8, .int v1), (9, .int y2), (10, .int y8), (11, .int y9), (12, .int y10), (13, .int x40)]) hx hb dL_note_301 hl (by decide) rfl (fun ls hl => ?_)
                                refine lv_iload hx hb dL_note_303 (lv_at hl 2 rfl) ?_
                                refine lv_aload hx hb dL_note_305 (lv_at hl 7 rfl) ?_
                                obtain ⟨v45, hv45, h⟩ := hy_bind h
                                refine hy_ret (hy_rS0 (T := (C, M, Mo)) (v := some (.int v45)) (T2 := (C, M, Mo)) (As := [.int v42, .ref (adr G 30)]) (rest := []) (n := 0) hx hb hml hown hts hX hP hS hl (c_La_stepOf C Mo v42 M hv45) m_La_stepOf q_738 rfl rfl (Nat.le_of_ble_eq_true rfl) dL_note_307 ⟨Nat.le_of_ble_eq_true rfl, Nat.le_of_ble_eq_true rfl⟩ ⟨by decide, by decide⟩) hS (fun H locs hP hS => ?_)
                                refine lv_istore (lv' := [(17, .int v45), (16, .int v43), (15, .int v43), (14, .int v42), (0, .ref (adr G 0)), (1, .int a1), (2, .int a2), (3, .ref (adr G 34)), (4, .ref (adr G 30)), (5, .ref (adr G 31)), (6, .ref (adr G 33)), (7, .int (5 * a1)), (8, .int v1), (9, .int y2), (10, .int y8), (11, .int y9), (12, .int y10), (13, .int x40)]) hx hb dL_note_310 hl (by decide) rfl (fun ls hl => ?_)
                                refine lv_iload hx hb dL_note_312 (lv_at hl 17 rfl) ?_
                                refine lv_iconst (v := 2) hx hb dL_note_314 rfl ?_
                                have J74 : ∀ (H : Heap) (locs : List Loc) (ls : Array Slot) (u1 : Int32), u1 = ((if 2 ≤ x40 then 25 else 37) : Int32) → va_P G.1 vwCl (wld G (C, M, Mo)) H → va_S (hyA G) s.heap H locs → lv_has ls 21 [(0, .ref (adr G 0)), (1, .int a1), (2, .int a2), (3, .ref (adr G 34)), (4, .ref (adr G 30)), (5, .ref (adr G 31)), (6, .ref (adr G 33)), (7, .int (5 * a1)), (8, .int v1), (9, .int y2), (10, .int y8), (11, .int y9), (12, .int y10), (13, .int x40), (14, .int v42), (15, .int v43), (16, .int v43), (17, .int v45)] → W p l e { frames := 8, cells := 0, slots := 6 * 0, locals := 143 } s m ([.ref (adr G 0), .int a1, .int a2, .ref (adr G 34), .ref (adr G 30), .ref (adr G 31), .ref (adr G 33)] : List Value).toArray below meth c H locs 0 0 (vx_MQ below (hyQ G (.inr (some (.int (bI res.1))), (res.2.1, res.2.2, Mo))) (hyXQ G (.inr (some (.int (bI res.1))), (res.2.1, res.2.2, Mo))) ([.ref (adr G 0), .int a1, .int a2, .ref (adr G 34), .ref (adr G 30), .ref (adr G 31), .ref (adr G 33)] : List Value).toArray s 0 (6 * 0) (hyA G)) (F0 m 325 ls [.int u1]) := by
                                  intro H locs ls u1 eu1 hP hS hl
                                  subst eu1
                                  refine lv_istore (lv' := [(18, .int ((if 2 ≤ x40 then 25 else 37) : Int32)), (0, .ref (adr G 0)), (1, .int a1), (2, .int a2), (3, .ref (adr G 34)), (4, .ref (adr G 30)), (5, .ref (adr G 31)), (6, .ref (adr G 33)), (7, .int (5 * a1)), (8, .int v1), (9, .int y2), (10, .int y8), (11, .int y9), (12, .int y10), (13, .int x40), (14, .int v42), (15, .int v43), (16, .int v43), (17, .int v45)]) hx hb dL_note_325 hl (by decide) rfl (fun ls hl => ?_)
                                  refine lv_iconst (v := 0) hx hb dL_note_327 rfl ?_
                                  refine lv_istore (lv' := [(19, .int 0), (18, .int ((if 2 ≤ x40 then 25 else 37) : Int32)), (0, .ref (adr G 0)), (1, .int a1), (2, .int a2), (3, .ref (adr G 34)), (4, .ref (adr G 30)), (5, .ref (adr G 31)), (6, .ref (adr G 33)), (7, .int (5 * a1)), (8, .int v1), (9, .int y2), (10, .int y8), (11, .int y9), (12, .int y10), (13, .int x40), (14, .int v42), (15, .int v43), (16, .int v43), (17, .int v45)]) hx hb dL_note_328 hl (by decide) rfl (fun ls hl => ?_)
                                  refine lv_iload hx hb dL_note_330 (lv_at hl 1 rfl) ?_
                                  refine lv_iconst (v := 2) hx hb dL_note_332 rfl ?_
                                  refine lv_isub hx hb dL_note_333 ?_
                                  refine lv_istore (lv' := [(20, .int (((if 2 ≤ x40 then 25 else 37) : Int32) - 2)), (19, .int 0), (18, .int ((if 2 ≤ x40 then 25 else 37) : Int32)), (0, .ref (adr G 0)), (1, .int a1), (2, .int a2), (3, .ref (adr G 34)), (4, .ref (adr G 30)), (5, .ref (adr G 31)), (6, .ref (adr G 33)), (7, .int (5 * a1)), (8, .int v1), (9, .int y2), (10, .int y8), (11, .int y9), (12, .int y10), (13, .int x40), (14, .int v42), (15, .int v43), (16, .int v43), (17, .int v45)]) hx hb dL_note_334 hl (by decide) rfl (fun ls hl => ?_)
                                  have L50 : ∀ (f : Nat) (x47 : Int32) (x48 : Int32) (qL : (Int32 × Int32)) (h : La_note_L336 v45 f x47 x48 = some qL) (H : Heap) (locs : List Loc) (ls : Array Slot) (hP : va_P G.1 vwCl (wld G (C, M, Mo)) H) (hS : va_S (hyA G) s.heap H locs) (hl : lv_has ls 21 [(0, .ref (adr G 0)), (1, .int a1), (2, .int a2), (3, .ref (adr G 34)), (4, .ref (adr G 30)), (5, .ref (adr G 31)), (6, .ref (adr G 33)), (7, .int (5 * a1)), (8, .int v1), (9, .int y2), (10, .int y8), (11, .int y9), (12, .int y10), (13, .int x40), (14, .int v42), (15, .int v43), (16, .int v43), (17, .int v45), (18, .int ((if 2 ≤ x40 then 25 else 37) : Int32)), (19, .int x47), (20, .int x48)]) (kk : ∀ (y47 : Int32) (y48 : Int32), qL = (y47, y48) → ∀ (H : Heap) (locs : List Loc) (ls : Array Slot), va_P G.1 vwCl (wld G (C, M, Mo)) H → va_S (hyA G) s.heap H locs → lv_has ls 21 [(0, .ref (adr G 0)), (1, .int a1), (2, .int a2), (3, .ref (adr G 34)), (4, .ref (adr G 30)), (5, .ref (adr G 31)), (6, .ref (adr G 33)), (7, .int (5 * a1)), (8, .int v1), (9, .int y2), (10, .int y8), (11, .int y9), (12, .int y10), (13, .int x40), (14, .int v42), (15, .int v43), (16, .int v43), (17, .int v45), (18, .int ((if 2 ≤ x40 then 25 else 37) : Int32)), (19, .int y47), (20, .int y48)] → W p l e { frames := 8, cells := 0, slots := 6 * 0, locals := 143 } s m ([.ref (adr G 0), .int a1, .int a2, .ref (adr G 34), .ref (adr G 30), .ref (adr G 31), .ref (adr G 33)] : List Value).toArray below meth c H locs 0 0 (vx_MQ below (hyQ G (.inr (some (.int (bI res.1))), (res.2.1, res.2.2, Mo))) (hyXQ G (.inr (some (.int (bI res.1))), (res.2.1, res.2.2, Mo))) ([.ref (adr G 0), .int a1, .int a2, .ref (adr G 34), .ref (adr G 30), .ref (adr G 31), .ref (adr G 33)] : List Value).toArray s 0 (6 * 0) (hyA G)) (F0 m 352 ls [])), W p l e { frames := 8, cells := 0, slots := 6 * 0, locals := 143 } s m ([.ref (adr G 0), .int a1, .int a2, .ref (adr G 34), .ref (adr G 30), .ref (adr G 31), .ref (adr G 33)] : List Value).toArray below meth c H locs 0 0 (vx_MQ below (hyQ G (.inr (some (.int (bI res.1))), (res.2.1, res.2.2, Mo))) (hyXQ G (.inr (some (.int (bI res.1))), (res.2.1, res.2.2, Mo))) ([.ref (adr G 0), .int a1, .int a2, .ref (adr G 34), .ref (adr G 30), .ref (adr G 31), .ref (adr G 33)] : List Value).toArray s 0 (6 * 0) (hyA G)) (F0 m 336 ls []) := by
                                    intro f
                                    induction f with
                                    | zero =>
                                      intro x47 x48 qL h H locs ls hP hS hl kk
                                      rw [La_note_L336] at h
                                      cases h
                                    | succ f ih =>
                                      intro x47 x48 qL h H locs ls hP hS hl kk
                                      rw [La_note_L336] at h
                                      refine lv_iload hx hb dL_note_336 (lv_at hl 20 rfl) ?_
                                      refine lv_iload hx hb dL_note_338 (lv_at hl 17 rfl) ?_
                                      refine lv_icmp_lt (tgt := 352) hx hb dL_note_340 (by decide) (fun c49 => ?_) (fun c49 => ?_)
                                      · rw [if_pos c49] at h
                                        exact kk x47 x48 (Option.some.inj h).symm _ _ ls hP hS (lv_sub hl [0, 1, 2, 3, 4, 5, 6, 7, 8, 9, 10, 11, 12, 13, 14, 15, 16, 17, 18, 19, 20] rfl)
                                      · rw [if_neg c49] at h
                                        refine lv_iinc (v := (x47 + 1)) (lv' := [(19, .int (x47 + 1)), (0, .ref (adr G 0)), (1, .int a1), (2, .int a2), (3, .ref (adr G 34)), (4, .ref (adr G 30)), (5, .ref (adr G 31)), (6, .ref (adr G 33)), (7, .int (5 * a1)), (8, .int v1), (9, .int y2), (10, .int y8), (11, .int y9), (12, .int y10), (13, .int x40), (14, .int v42), (15, .int v43), (16, .int v43), (17, .int v45), (18, .int ((if 2 ≤ x40 then 25 else 37) : Int32)), (20, .int x48)]) hx hb dL_note_343 hl (k := 19) rfl rfl (by decide) rfl (fun ls hl => ?_)
                                        refine lv_iinc (v := (x48 + (-2))) (lv' := [(20, .int (x48 + (-2))), (19, .int (x47 + 1)), (0, .ref (adr G 0)), (1, .int a1), (2, .int a2), (3, .ref (adr G 34)), (4, .ref (adr G 30)), (5, .ref (adr G 31)), (6, .ref (adr G 33)), (7, .int (5 * a1)), (8, .int v1), (9, .int y2), (10, .int y8), (11, .int y9), (12, .int y10), (13, .int x40), (14, .int v42), (15, .int v43), (16, .int v43), (17, .int v45), (18, .int ((if 2 ≤ x40 then 25 else 37) : Int32))]) hx hb dL_note_346 hl (k := 20) rfl rfl (by decide) rfl (fun ls hl => ?_)
                                        refine lv_goto (tgt := 336) hx hb dL_note_349 (by decide) ?_
                                        exact ih (x47 + 1) (x48 + (-2)) _ h  _ _ ls hP hS (lv_sub hl [2, 3, 4, 5, 6, 7, 8, 9, 10, 11, 12, 13, 14, 15, 16, 17, 18, 19, 20, 1, 0] rfl) kk
                                  obtain ⟨q73, hq73, h⟩ := hy_bind h
                                  refine L50 hyFu 0 (((if 2 ≤ x40 then 25 else 37) : Int32) - 2) q73 hq73 _ _ ls hP hS (lv_sub hl [3, 4, 5, 6, 7, 8, 9, 10, 11, 12, 13, 14, 15, 16, 17, 18, 19, 20, 2, 1, 0] rfl) ?_
                                  intro y47 y48 e9 H locs ls hP hS hl
                                  subst e9
                                  try dsimp only at h
                                  refine lv_iload hx hb dL_note_352 (lv_at hl 18 rfl) ?_
                                  refine lv_bipush (v := 10) hx hb dL_note_354 rfl ?_
                                  refine lv_iadd hx hb dL_note_356 ?_
                                  refine lv_istore (lv' := [(20, .int (((if 2 ≤ x40 then 25 else 37) : Int32) + 10)), (0, .ref (adr G 0)), (1, .int a1), (2, .int a2), (3, .ref (adr G 34)), (4, .ref (adr G 30)), (5, .ref (adr G 31)), (6, .ref (adr G 33)), (7, .int (5 * a1)), (8, .int v1), (9, .int y2), (10, .int y8), (11, .int y9), (12, .int y10), (13, .int x40), (14, .int v42), (15, .int v43), (16, .int v43), (17, .int v45), (18, .int ((if 2 ≤ x40 then 25 else 37) : Int32)), (19, .int y47)]) hx hb dL_note_357 hl (by decide) rfl (fun ls hl => ?_)
                                  have L54 : ∀ (f : Nat) (x51 : Int32) (x52 : Int32) (qL : (Int32 × Int32)) (h : La_note_L359 v45 f x51 x52 = some qL) (H : Heap) (locs : List Loc) (ls : Array Slot) (hP : va_P G.1 vwCl (wld G (C, M, Mo)) H) (hS : va_S (hyA G) s.heap H locs) (hl : lv_has ls 21 [(0, .ref (adr G 0)), (1, .int a1), (2, .int a2), (3, .ref (adr G 34)), (4, .ref (adr G 30)), (5, .ref (adr G 31)), (6, .ref (adr G 33)), (7, .int (5 * a1)), (8, .int v1), (9, .int y2), (10, .int y8), (11, .int y9), (12, .int y10), (13, .int x40), (14, .int v42), (15, .int v43), (16, .int v43), (17, .int v45), (18, .int ((if 2 ≤ x40 then 25 else 37) : Int32)), (19, .int x51), (20, .int x52)]) (kk : ∀ (y51 : Int32) (y52 : Int32), qL = (y51, y52) → ∀ (H : Heap) (locs : List Loc) (ls : Array Slot), va_P G.1 vwCl (wld G (C, M, Mo)) H → va_S (hyA G) s.heap H locs → lv_has ls 21 [(0, .ref (adr G 0)), (1, .int a1), (2, .int a2), (3, .ref (adr G 34)), (4, .ref (adr G 30)), (5, .ref (adr G 31)), (6, .ref (adr G 33)), (7, .int (5 * a1)), (8, .int v1), (9, .int y2), (10, .int y8), (11, .int y9), (12, .int y10), (13, .int x40), (14, .int v42), (15, .int v43), (16, .int v43), (17, .int v45), (18, .int ((if 2 ≤ x40 then 25 else 37) : Int32)), (19, .int y51), (20, .int y52)] → W p l e { frames := 8, cells := 0, slots := 6 * 0, locals := 143 } s m ([.ref (adr G 0), .int a1, .int a2, .ref (adr G 34), .ref (adr G 30), .ref (adr G 31), .ref (adr G 33)] : List Value).toArray below meth c H locs 0 0 (vx_MQ below (hyQ G (.inr (some (.int (bI res.1))), (res.2.1, res.2.2, Mo))) (hyXQ G (.inr (some (.int (bI res.1))), (res.2.1, res.2.2, Mo))) ([.ref (adr G 0), .int a1, .int a2, .ref (adr G 34), .ref (adr G 30), .ref (adr G 31), .ref (adr G 33)] : List Value).toArray s 0 (6 * 0) (hyA G)) (F0 m 375 ls [])), W p l e { frames := 8, cells := 0, slots := 6 * 0, locals := 143 } s m ([.ref (adr G 0), .int a1, .int a2, .ref (adr G 34), .ref (adr G 30), .ref (adr G 31), .ref (adr G 33)] : List Value).toArray below meth c H locs 0 0 (vx_MQ below (hyQ G (.inr (some (.int (bI res.1))), (res.2.1, res.2.2, Mo))) (hyXQ G (.inr (some (.int (bI res.1))), (res.2.1, res.2.2, Mo))) ([.ref (adr G 0), .int a1, .int a2, .ref (adr G 34), .ref (adr G 30), .ref (adr G 31), .ref (adr G 33)] : List Value).toArray s 0 (6 * 0) (hyA G)) (F0 m 359 ls []) := by
                                    intro f
                                    induction f with
                                    | zero =>
                                      intro x51 x52 qL h H locs ls hP hS hl kk
                                      rw [La_note_L359] at h
                                      cases h
                                    | succ f ih =>
                                      intro x51 x52 qL h H locs ls hP hS hl kk
                                      rw [La_note_L359] at h
                                      refine lv_iload hx hb dL_note_359 (lv_at hl 20 rfl) ?_
                                      refine lv_iload hx hb dL_note_361 (lv_at hl 17 rfl) ?_
                                      refine lv_icmp_gt (tgt := 375) hx hb dL_note_363 (by decide) (fun c53 => ?_) (fun c53 => ?_)
                                      · rw [if_pos c53] at h
                                        exact kk x51 x52 (Option.some.inj h).symm _ _ ls hP hS (lv_sub hl [0, 1, 2, 3, 4, 5, 6, 7, 8, 9, 10, 11, 12, 13, 14, 15, 16, 17, 18, 19, 20] rfl)
                                      · rw [if_neg c53] at h
                                        refine lv_iinc (v := (x51 + 1)) (lv' := [(19, .int (x51 + 1)), (0, .ref (adr G 0)), (1, .int a1), (2, .int a2), (3, .ref (adr G 34)), (4, .ref (adr G 30)), (5, .ref (adr G 31)), (6, .ref (adr G 33)), (7, .int (5 * a1)), (8, .int v1), (9, .int y2), (10, .int y8), (11, .int y9), (12, .int y10), (13, .int x40), (14, .int v42), (15, .int v43), (16, .int v43), (17, .int v45), (18, .int ((if 2 ≤ x40 then 25 else 37) : Int32)), (20, .int x52)]) hx hb dL_note_366 hl (k := 19) rfl rfl (by decide) rfl (fun ls hl => ?_)
                                        refine lv_iinc (v := (x52 + 2)) (lv' := [(20, .int (x52 + 2)), (19, .int (x51 + 1)), (0, .ref (adr G 0)), (1, .int a1), (2, .int a2), (3, .ref (adr G 34)), (4, .ref (adr G 30)), (5, .ref (adr G 31)), (6, .ref (adr G 33)), (7, .int (5 * a1)), (8, .int v1), (9, .int y2), (10, .int y8), (11, .int y9), (12, .int y10), (13, .int x40), (14, .int v42), (15, .int v43), (16, .int v43), (17, .int v45), (18, .int ((if 2 ≤ x40 then 25 else 37) : Int32))]) hx hb dL_note_369 hl (k := 20) rfl rfl (by decide) rfl (fun ls hl => ?_)
                                        refine lv_goto (tgt := 359) hx hb dL_note_372 (by decide) ?_
                                        exact ih (x51 + 1) (x52 + 2) _ h  _ _ ls hP hS (lv_sub hl [2, 3, 4, 5, 6, 7, 8, 9, 10, 11, 12, 13, 14, 15, 16, 17, 18, 19, 20, 1, 0] rfl) kk
                                  obtain ⟨q72, hq72, h⟩ := hy_bind h
                                  refine L54 hyFu y47 (((if 2 ≤ x40 then 25 else 37) : Int32) + 10) q72 hq72 _ _ ls hP hS (lv_sub hl [1, 2, 3, 4, 5, 6, 7, 8, 9, 10, 11, 12, 13, 14, 15, 16, 17, 18, 19, 20, 0] rfl) ?_
                                  intro y51 y52 e9 H locs ls hP hS hl
                                  subst e9
                                  try dsimp only at h
                                  refine lv_aload_n hx hb dL_note_375 rfl (lv_at hl 0 rfl) ?_
                                  refine lv_iload_n hx hb dL_note_376 rfl (lv_at hl 1 rfl) ?_
                                  refine lv_iload hx hb dL_note_377 (lv_at hl 13 rfl) ?_
                                  refine lv_iconst (v := 0) hx hb dL_note_379 rfl ?_
                                  obtain ⟨v55, hv55, h⟩ := hy_bind h
                                  refine hy_ret (hy_rV0 (T := (C, M, Mo)) (v := some (.int v55)) (T2 := (C, M, Mo)) (As := [.int a1, .int x40, .int 0]) (rest := []) (n := 0) hx hb hml hown hts hX hP hS hl (c_Hp_part hlt M Mo a1 x40 0 C (res := .inr v55) (rtb_some hv55)) m_Hp_part q_744 (hy_recv hX hP 0 9 (by decide) rfl rfl) rfl rfl (Nat.le_of_ble_eq_true rfl) dL_note_380 ⟨Nat.le_of_ble_eq_true rfl, Nat.le_of_ble_eq_true rfl⟩ ⟨by decide, by decide⟩) hS (fun H locs hP hS => ?_)
                                  refine lv_iload hx hb dL_note_383 (lv_at hl 14 rfl) ?_
                                  refine lv_icmp_ne (tgt := 483) hx hb dL_note_385 (by decide) (fun c56 => ?_) (fun c56 => ?_)
                                  · rw [if_neg c56] at h
                                    refine lv_iconst (v := 0) hx hb dL_note_483 rfl ?_
                                    exact hy_zret (T := (C, M, Mo)) hx hb hr hlocks hP hS (by decide) (by decide) (bI_nar false) (by rw [← (hq _ (Option.some.inj h).symm).symm] <;> rfl) dL_note_484
                                  · rw [if_pos (c56)] at h
                                    refine lv_aload_n hx hb dL_note_388 rfl (lv_at hl 0 rfl) ?_
                                    refine lv_iload_n hx hb dL_note_389 rfl (lv_at hl 1 rfl) ?_
                                    refine lv_iload hx hb dL_note_390 (lv_at hl 13 rfl) ?_
                                    refine lv_iconst (v := 1) hx hb dL_note_392 rfl ?_
                                    obtain ⟨v57, hv57, h⟩ := hy_bind h
                                    refine hy_ret (hy_rV0 (T := (C, M, Mo)) (v := some (.int v57)) (T2 := (C, M, Mo)) (As := [.int a1, .int x40, .int 1]) (rest := []) (n := 0) hx hb hml hown hts hX hP hS hl (c_Hp_part hlt M Mo a1 x40 1 C (res := .inr v57) (rtb_some hv57)) m_Hp_part q_744 (hy_recv hX hP 0 9 (by decide) rfl rfl) rfl rfl (Nat.le_of_ble_eq_true rfl) dL_note_393 ⟨Nat.le_of_ble_eq_true rfl, Nat.le_of_ble_eq_true rfl⟩ ⟨by decide, by decide⟩) hS (fun H locs hP hS => ?_)
                                    refine lv_iload hx hb dL_note_396 (lv_at hl 16 rfl) ?_
                                    refine lv_icmp_ne (tgt := 483) hx hb dL_note_398 (by decide) (fun c58 => ?_) (fun c58 => ?_)
                                    · rw [if_neg c58] at h
                                      refine lv_iconst (v := 0) hx hb dL_note_483 rfl ?_
                                      exact hy_zret (T := (C, M, Mo)) hx hb hr hlocks hP hS (by decide) (by decide) (bI_nar false) (by rw [← (hq _ (Option.some.inj h).symm).symm] <;> rfl) dL_note_484
                                    · rw [if_pos (c58)] at h
                                      refine lv_aload_n hx hb dL_note_401 rfl (lv_at hl 0 rfl) ?_
                                      refine lv_iload_n hx hb dL_note_402 rfl (lv_at hl 1 rfl) ?_
                                      refine lv_iload hx hb dL_note_403 (lv_at hl 13 rfl) ?_
                                      refine lv_iconst (v := 2) hx hb dL_note_405 rfl ?_
                                      obtain ⟨v59, hv59, h⟩ := hy_bind h
                                      refine hy_ret (hy_rV0 (T := (C, M, Mo)) (v := some (.int v59)) (T2 := (C, M, Mo)) (As := [.int a1, .int x40, .int 2]) (rest := []) (n := 0) hx hb hml hown hts hX hP hS hl (c_Hp_part hlt M Mo a1 x40 2 C (res := .inr v59) (rtb_some hv59)) m_Hp_part q_744 (hy_recv hX hP 0 9 (by decide) rfl rfl) rfl rfl (Nat.le_of_ble_eq_true rfl) dL_note_406 ⟨Nat.le_of_ble_eq_true rfl, Nat.le_of_ble_eq_true rfl⟩ ⟨by decide, by decide⟩) hS (fun H locs hP hS => ?_)
                                      refine lv_iload hx hb dL_note_409 (lv_at hl 17 rfl) ?_
                                      refine lv_icmp_ne (tgt := 483) hx hb dL_note_411 (by decide) (fun c60 => ?_) (fun c60 => ?_)
                                      · rw [if_neg c60] at h
                                        refine lv_iconst (v := 0) hx hb dL_note_483 rfl ?_
                                        exact hy_zret (T := (C, M, Mo)) hx hb hr hlocks hP hS (by decide) (by decide) (bI_nar false) (by rw [← (hq _ (Option.some.inj h).symm).symm] <;> rfl) dL_note_484
                                      · rw [if_pos (c60)] at h
                                        refine lv_aload_n hx hb dL_note_414 rfl (lv_at hl 0 rfl) ?_
                                        refine lv_iload_n hx hb dL_note_415 rfl (lv_at hl 1 rfl) ?_
                                        refine lv_iload hx hb dL_note_416 (lv_at hl 13 rfl) ?_
                                        refine lv_iconst (v := 3) hx hb dL_note_418 rfl ?_
                                        obtain ⟨v61, hv61, h⟩ := hy_bind h
                                        refine hy_ret (hy_rV0 (T := (C, M, Mo)) (v := some (.int v61)) (T2 := (C, M, Mo)) (As := [.int a1, .int x40, .int 3]) (rest := []) (n := 0) hx hb hml hown hts hX hP hS hl (c_Hp_part hlt M Mo a1 x40 3 C (res := .inr v61) (rtb_some hv61)) m_Hp_part q_744 (hy_recv hX hP 0 9 (by decide) rfl rfl) rfl rfl (Nat.le_of_ble_eq_true rfl) dL_note_419 ⟨Nat.le_of_ble_eq_true rfl, Nat.le_of_ble_eq_true rfl⟩ ⟨by decide, by decide⟩) hS (fun H locs hP hS => ?_)
                                        refine lv_iload hx hb dL_note_422 (lv_at hl 15 rfl) ?_
                                        have J71 : ∀ (H : Heap) (locs : List Loc) (ls : Array Slot) (u1 : Int32), u1 = (bI (!decide (0 ≤ v43))) → va_P G.1 vwCl (wld G (C, M, Mo)) H → va_S (hyA G) s.heap H locs → lv_has ls 21 [(0, .ref (adr G 0)), (1, .int a1), (2, .int a2), (3, .ref (adr G 34)), (4, .ref (adr G 30)), (5, .ref (adr G 31)), (6, .ref (adr G 33)), (7, .int (5 * a1)), (8, .int v1), (9, .int y2), (10, .int y8), (11, .int y9), (12, .int y10), (13, .int x40), (14, .int v42), (15, .int v43), (16, .int v43), (17, .int v45), (18, .int ((if 2 ≤ x40 then 25 else 37) : Int32)), (19, .int y51), (20, .int y52)] → W p l e { frames := 8, cells := 0, slots := 6 * 0, locals := 143 } s m ([.ref (adr G 0), .int a1, .int a2, .ref (adr G 34), .ref (adr G 30), .ref (adr G 31), .ref (adr G 33)] : List Value).toArray below meth c H locs 0 0 (vx_MQ below (hyQ G (.inr (some (.int (bI res.1))), (res.2.1, res.2.2, Mo))) (hyXQ G (.inr (some (.int (bI res.1))), (res.2.1, res.2.2, Mo))) ([.ref (adr G 0), .int a1, .int a2, .ref (adr G 34), .ref (adr G 30), .ref (adr G 31), .ref (adr G 33)] : List Value).toArray s 0 (6 * 0) (hyA G)) (F0 m 432 ls [.int u1, .int v61]) := by
                                          intro H locs ls u1 eu1 hP hS hl
                                          subst eu1
                                          refine lv_icmp_ne (tgt := 483) hx hb dL_note_432 (by decide) (fun c63 => ?_) (fun c63 => ?_)
                                          · rw [if_neg c63] at h
                                            refine lv_iconst (v := 0) hx hb dL_note_483 rfl ?_
                                            exact hy_zret (T := (C, M, Mo)) hx hb hr hlocks hP hS (by decide) (by decide) (bI_nar false) (by rw [← (hq _ (Option.some.inj h).symm).symm] <;> rfl) dL_note_484
                                          · rw [if_pos (c63)] at h
                                            refine lv_aload_n hx hb dL_note_435 rfl (lv_at hl 0 rfl) ?_
                                            refine lv_iload_n hx hb dL_note_436 rfl (lv_at hl 1 rfl) ?_
                                            refine lv_iload hx hb dL_note_437 (lv_at hl 13 rfl) ?_
                                            refine lv_iconst (v := 4) hx hb dL_note_439 rfl ?_
                                            obtain ⟨v64, hv64, h⟩ := hy_bind h
                                            refine hy_ret (hy_rV0 (T := (C, M, Mo)) (v := some (.int v64)) (T2 := (C, M, Mo)) (As := [.int a1, .int x40, .int 4]) (rest := []) (n := 0) hx hb hml hown hts hX hP hS hl (c_Hp_part hlt M Mo a1 x40 4 C (res := .inr v64) (rtb_some hv64)) m_Hp_part q_744 (hy_recv hX hP 0 9 (by decide) rfl rfl) rfl rfl (Nat.le_of_ble_eq_true rfl) dL_note_440 ⟨Nat.le_of_ble_eq_true rfl, Nat.le_of_ble_eq_true rfl⟩ ⟨by decide, by decide⟩) hS (fun H locs hP hS => ?_)
                                            refine lv_iload hx hb dL_note_443 (lv_at hl 15 rfl) ?_
                                            have J70 : ∀ (H : Heap) (locs : List Loc) (ls : Array Slot) (u1 : Int32), u1 = ((if 0 ≤ v43 then (if v43 = 6 then 3 else (v43 - v43 / 3 * 3)) else (-1)) : Int32) → va_P G.1 vwCl (wld G (C, M, Mo)) H → va_S (hyA G) s.heap H locs → lv_has ls 21 [(0, .ref (adr G 0)), (1, .int a1), (2, .int a2), (3, .ref (adr G 34)), (4, .ref (adr G 30)), (5, .ref (adr G 31)), (6, .ref (adr G 33)), (7, .int (5 * a1)), (8, .int v1), (9, .int y2), (10, .int y8), (11, .int y9), (12, .int y10), (13, .int x40), (14, .int v42), (15, .int v43), (16, .int v43), (17, .int v45), (18, .int ((if 2 ≤ x40 then 25 else 37) : Int32)), (19, .int y51), (20, .int y52)] → W p l e { frames := 8, cells := 0, slots := 6 * 0, locals := 143 } s m ([.ref (adr G 0), .int a1, .int a2, .ref (adr G 34), .ref (adr G 30), .ref (adr G 31), .ref (adr G 33)] : List Value).toArray below meth c H locs 0 0 (vx_MQ below (hyQ G (.inr (some (.int (bI res.1))), (res.2.1, res.2.2, Mo))) (hyXQ G (.inr (some (.int (bI res.1))), (res.2.1, res.2.2, Mo))) ([.ref (adr G 0), .int a1, .int a2, .ref (adr G 34), .ref (adr G 30), .ref (adr G 31), .ref (adr G 33)] : List Value).toArray s 0 (6 * 0) (hyA G)) (F0 m 467 ls [.int u1, .int v64]) := by
                                              intro H locs ls u1 eu1 hP hS hl
                                              subst eu1
                                              refine lv_icmp_ne (tgt := 483) hx hb dL_note_467 (by decide) (fun c67 => ?_) (fun c67 => ?_)
                                              · rw [if_neg c67] at h
                                                refine lv_iconst (v := 0) hx hb dL_note_483 rfl ?_
                                                exact hy_zret (T := (C, M, Mo)) hx hb hr hlocks hP hS (by decide) (by decide) (bI_nar false) (by rw [← (hq _ (Option.some.inj h).symm).symm] <;> rfl) dL_note_484
                                              · rw [if_pos (c67)] at h
                                                refine lv_aload_n hx hb dL_note_470 rfl (lv_at hl 0 rfl) ?_
                                                refine lv_iload_n hx hb dL_note_471 rfl (lv_at hl 1 rfl) ?_
                                                refine lv_iload hx hb dL_note_472 (lv_at hl 13 rfl) ?_
                                                refine lv_iconst (v := 5) hx hb dL_note_474 rfl ?_
                                                obtain ⟨v68, hv68, h⟩ := hy_bind h
                                                refine hy_ret (hy_rV0 (T := (C, M, Mo)) (v := some (.int v68)) (T2 := (C, M, Mo)) (As := [.int a1, .int x40, .int 5]) (rest := []) (n := 0) hx hb hml hown hts hX hP hS hl (c_Hp_part hlt M Mo a1 x40 5 C (res := .inr v68) (rtb_some hv68)) m_Hp_part q_744 (hy_recv hX hP 0 9 (by decide) rfl rfl) rfl rfl (Nat.le_of_ble_eq_true rfl) dL_note_475 ⟨Nat.le_of_ble_eq_true rfl, Nat.le_of_ble_eq_true rfl⟩ ⟨by decide, by decide⟩) hS (fun H locs hP hS => ?_)
                                                refine lv_iload hx hb dL_note_478 (lv_at hl 19 rfl) ?_
                                                refine lv_icmp_eq (tgt := 485) hx hb dL_note_480 (by decide) (fun c69 => ?_) (fun c69 => ?_)
                                                · rw [if_pos c69] at h
                                                  refine lv_iinc (v := (x40 + 1)) (lv' := [(13, .int (x40 + 1)), (0, .ref (adr G 0)), (1, .int a1), (2, .int a2), (3, .ref (adr G 34)), (4, .ref (adr G 30)), (5, .ref (adr G 31)), (6, .ref (adr G 33)), (7, .int (5 * a1)), (8, .int v1), (9, .int y2), (10, .int y8), (11, .int y9), (12, .int y10), (14, .int v42), (15, .int v43), (16, .int v43), (17, .int v45), (18, .int ((if 2 ≤ x40 then 25 else 37) : Int32)), (19, .int y51), (20, .int y52)]) hx hb dL_note_485 hl (k := 13) rfl rfl (by decide) rfl (fun ls hl => ?_)
                                                  refine lv_goto (tgt := 255) hx hb dL_note_488 (by decide) ?_
                                                  exact ih (x40 + 1) _ h hq _ _ ls hP hS (lv_sub hl [1, 2, 3, 4, 5, 6, 7, 8, 9, 10, 11, 12, 13, 0] rfl) kk
                                                · rw [if_neg c69] at h
                                                  refine lv_iconst (v := 0) hx hb dL_note_483 rfl ?_
                                                  exact hy_zret (T := (C, M, Mo)) hx hb hr hlocks hP hS (by decide) (by decide) (bI_nar false) (by rw [← (hq _ (Option.some.inj h).symm).symm] <;> rfl) dL_note_484
                                            refine lv_if_ge (tgt := 452) hx hb dL_note_445 (by decide) (fun c65 => ?_) (fun c65 => ?_)
                                            · refine lv_iload hx hb dL_note_452 (lv_at hl 15 rfl) ?_
                                              refine lv_bipush (v := 6) hx hb dL_note_454 rfl ?_
                                              refine lv_icmp_ne (tgt := 463) hx hb dL_note_456 (by decide) (fun c66 => ?_) (fun c66 => ?_)
                                              · refine lv_iload hx hb dL_note_463 (lv_at hl 15 rfl) ?_
                                                refine lv_iconst (v := 3) hx hb dL_note_465 rfl ?_
                                                refine lv_irem hx hb dL_note_466 (by decide) ?_
                                                exact J70 _ _ ls (v43 - v43 / 3 * 3) (by rw [if_pos c65, if_neg c66] <;> rfl) hP hS (lv_sub hl [0, 1, 2, 3, 4, 5, 6, 7, 8, 9, 10, 11, 12, 13, 14, 15, 16, 17, 18, 19, 20] rfl)
                                              · refine lv_iconst (v := 3) hx hb dL_note_459 rfl ?_
                                                refine lv_goto (tgt := 467) hx hb dL_note_460 (by decide) ?_
                                                exact J70 _ _ ls 3 (by rw [if_pos c65, if_pos c66] <;> rfl) hP hS (lv_sub hl [0, 1, 2, 3, 4, 5, 6, 7, 8, 9, 10, 11, 12, 13, 14, 15, 16, 17, 18, 19, 20] rfl)
                                            · refine lv_iconst (v := (-1)) hx hb dL_note_448 rfl ?_
                                              refine lv_goto (tgt := 467) hx hb dL_note_449 (by decide) ?_
                                              exact J70 _ _ ls (-1) (by rw [if_neg c65] <;> rfl) hP hS (lv_sub hl [0, 1, 2, 3, 4, 5, 6, 7, 8, 9, 10, 11, 12, 13, 14, 15, 16, 17, 18, 19, 20] rfl)
                                        refine lv_if_ge (tgt := 431) hx hb dL_note_424 (by decide) (fun c62 => ?_) (fun c62 => ?_)
                                        · refine lv_iconst (v := 0) hx hb dL_note_431 rfl ?_
                                          exact J71 _ _ ls 0 (by rw [decide_eq_true c62] <;> rfl) hP hS (lv_sub hl [0, 1, 2, 3, 4, 5, 6, 7, 8, 9, 10, 11, 12, 13, 14, 15, 16, 17, 18, 19, 20] rfl)
                                        · refine lv_iconst (v := 1) hx hb dL_note_427 rfl ?_
                                          refine lv_goto (tgt := 432) hx hb dL_note_428 (by decide) ?_
                                          exact J71 _ _ ls 1 (by rw [decide_eq_false c62] <;> rfl) hP hS (lv_sub hl [0, 1, 2, 3, 4, 5, 6, 7, 8, 9, 10, 11, 12, 13, 14, 15, 16, 17, 18, 19, 20] rfl)
                                refine lv_icmp_ge (tgt := 323) hx hb dL_note_315 (by decide) (fun c46 => ?_) (fun c46 => ?_)
                                · refine lv_bipush (v := 25) hx hb dL_note_323 rfl ?_
                                  exact J74 _ _ ls 25 (by rw [if_pos c46] <;> rfl) hP hS (lv_sub hl [4, 5, 6, 7, 8, 9, 10, 11, 12, 13, 14, 15, 16, 17, 3, 2, 1, 0] rfl)
                                · refine lv_bipush (v := 37) hx hb dL_note_318 rfl ?_
                                  refine lv_goto (tgt := 325) hx hb dL_note_320 (by decide) ?_
                                  exact J74 _ _ ls 37 (by rw [if_neg c46] <;> rfl) hP hS (lv_sub hl [4, 5, 6, 7, 8, 9, 10, 11, 12, 13, 14, 15, 16, 17, 3, 2, 1, 0] rfl)
                              · rw [if_neg c44] at h
                                refine lv_iload hx hb dL_note_287 (lv_at hl 1 rfl) ?_
                                refine lv_iconst (v := 1) hx hb dL_note_289 rfl ?_
                                refine lv_isub hx hb dL_note_290 ?_
                                refine lv_aload hx hb dL_note_291 (lv_at hl 6 rfl) ?_
                                obtain ⟨v75, hv75, h⟩ := hy_bind h
                                refine hy_ret (hy_rS0 (T := (C, M, Mo)) (v := some (.int v75)) (T2 := (C, M, Mo)) (As := [.int (v42 - 1), .ref (adr G 30)]) (rest := []) (n := 0) hx hb hml hown hts hX hP hS hl (c_La_degree C Mo (v42 - 1) M hv75) m_La_degree q_732 rfl rfl (Nat.le_of_ble_eq_true rfl) dL_note_293 ⟨Nat.le_of_ble_eq_true rfl, Nat.le_of_ble_eq_true rfl⟩ ⟨by decide, by decide⟩) hS (fun H locs hP hS => ?_)
                                refine lv_goto (tgt := 301) hx hb dL_note_296 (by decide) ?_
                                refine lv_istore (lv' := [(16, .int v75), (15, .int v43), (14, .int v42), (0, .ref (adr G 0)), (1, .int a1), (2, .int a2), (3, .ref (adr G 34)), (4, .ref (adr G 30)), (5, .ref (adr G 31)), (6, .ref (adr G 33)), (7, .int (5 * a1)), (8, .int v1), (9, .int y2), (10, .int y8), (11, .int y9), (12, .int y10), (13, .int x40)]) hx hb dL_note_301 hl (by decide) rfl (fun ls hl => ?_)
                                refine lv_iload hx hb dL_note_303 (lv_at hl 2 rfl) ?_
                                refine lv_aload hx hb dL_note_305 (lv_at hl 7 rfl) ?_
                                obtain ⟨v76, hv76, h⟩ := hy_bind h
                                refine hy_ret (hy_rS0 (T := (C, M, Mo)) (v := some (.int v76)) (T2 := (C, M, Mo)) (As := [.int v42, .ref (adr G 30)]) (rest := []) (n := 0) hx hb hml hown hts hX hP hS hl (c_La_stepOf C Mo v42 M hv76) m_La_stepOf q_738 rfl rfl (Nat.le_of_ble_eq_true rfl) dL_note_307 ⟨Nat.le_of_ble_eq_true rfl, Nat.le_of_ble_eq_true rfl⟩ ⟨by decide, by decide⟩) hS (fun H locs hP hS => ?_)
                                refine lv_istore (lv' := [(17, .int v76), (16, .int v75), (15, .int v43), (14, .int v42), (0, .ref (adr G 0)), (1, .int a1), (2, .int a2), (3, .ref (adr G 34)), (4, .ref (adr G 30)), (5, .ref (adr G 31)), (6, .ref (adr G 33)), (7, .int (5 * a1)), (8, .int v1), (9, .int y2), (10, .int y8), (11, .int y9), (12, .int y10), (13, .int x40)]) hx hb dL_note_310 hl (by decide) rfl (fun ls hl => ?_)
                                refine lv_iload hx hb dL_note_312 (lv_at hl 17 rfl) ?_
                                refine lv_iconst (v := 2) hx hb dL_note_314 rfl ?_
                                have J105 : ∀ (H : Heap) (locs : List Loc) (ls : Array Slot) (u1 : Int32), u1 = ((if 2 ≤ x40 then 25 else 37) : Int32) → va_P G.1 vwCl (wld G (C, M, Mo)) H → va_S (hyA G) s.heap H locs → lv_has ls 21 [(0, .ref (adr G 0)), (1, .int a1), (2, .int a2), (3, .ref (adr G 34)), (4, .ref (adr G 30)), (5, .ref (adr G 31)), (6, .ref (adr G 33)), (7, .int (5 * a1)), (8, .int v1), (9, .int y2), (10, .int y8), (11, .int y9), (12, .int y10), (13, .int x40), (14, .int v42), (15, .int v43), (16, .int v75), (17, .int v76)] → W p l e { frames := 8, cells := 0, slots := 6 * 0, locals := 143 } s m ([.ref (adr G 0), .int a1, .int a2, .ref (adr G 34), .ref (adr G 30), .ref (adr G 31), .ref (adr G 33)] : List Value).toArray below meth c H locs 0 0 (vx_MQ below (hyQ G (.inr (some (.int (bI res.1))), (res.2.1, res.2.2, Mo))) (hyXQ G (.inr (some (.int (bI res.1))), (res.2.1, res.2.2, Mo))) ([.ref (adr G 0), .int a1, .int a2, .ref (adr G 34), .ref (adr G 30), .ref (adr G 31), .ref (adr G 33)] : List Value).toArray s 0 (6 * 0) (hyA G)) (F0 m 325 ls [.int u1]) := by
                                  intro H locs ls u1 eu1 hP hS hl
                                  subst eu1
                                  refine lv_istore (lv' := [(18, .int ((if 2 ≤ x40 then 25 else 37) : Int32)), (0, .ref (adr G 0)), (1, .int a1), (2, .int a2), (3, .ref (adr G 34)), (4, .ref (adr G 30)), (5, .ref (adr G 31)), (6, .ref (adr G 33)), (7, .int (5 * a1)), (8, .int v1), (9, .int y2), (10, .int y8), (11, .int y9), (12, .int y10), (13, .int x40), (14, .int v42), (15, .int v43), (16, .int v75), (17, .int v76)]) hx hb dL_note_325 hl (by decide) rfl (fun ls hl => ?_)
                                  refine lv_iconst (v := 0) hx hb dL_note_327 rfl ?_
                                  refine lv_istore (lv' := [(19, .int 0), (18, .int ((if 2 ≤ x40 then 25 else 37) : Int32)), (0, .ref (adr G 0)), (1, .int a1), (2, .int a2), (3, .ref (adr G 34)), (4, .ref (adr G 30)), (5, .ref (adr G 31)), (6, .ref (adr G 33)), (7, .int (5 * a1)), (8, .int v1), (9, .int y2), (10, .int y8), (11, .int y9), (12, .int y10), (13, .int x40), (14, .int v42), (15, .int v43), (16, .int v75), (17, .int v76)]) hx hb dL_note_328 hl (by decide) rfl (fun ls hl => ?_)
                                  refine lv_iload hx hb dL_note_330 (lv_at hl 1 rfl) ?_
                                  refine lv_iconst (v := 2) hx hb dL_note_332 rfl ?_
                                  refine lv_isub hx hb dL_note_333 ?_
                                  refine lv_istore (lv' := [(20, .int (((if 2 ≤ x40 then 25 else 37) : Int32) - 2)), (19, .int 0), (18, .int ((if 2 ≤ x40 then 25 else 37) : Int32)), (0, .ref (adr G 0)), (1, .int a1), (2, .int a2), (3, .ref (adr G 34)), (4, .ref (adr G 30)), (5, .ref (adr G 31)), (6, .ref (adr G 33)), (7, .int (5 * a1)), (8, .int v1), (9, .int y2), (10, .int y8), (11, .int y9), (12, .int y10), (13, .int x40), (14, .int v42), (15, .int v43), (16, .int v75), (17, .int v76)]) hx hb dL_note_334 hl (by decide) rfl (fun ls hl => ?_)
                                  have L81 : ∀ (f : Nat) (x78 : Int32) (x79 : Int32) (qL : (Int32 × Int32)) (h : La_note_L336b v76 f x78 x79 = some qL) (H : Heap) (locs : List Loc) (ls : Array Slot) (hP : va_P G.1 vwCl (wld G (C, M, Mo)) H) (hS : va_S (hyA G) s.heap H locs) (hl : lv_has ls 21 [(0, .ref (adr G 0)), (1, .int a1), (2, .int a2), (3, .ref (adr G 34)), (4, .ref (adr G 30)), (5, .ref (adr G 31)), (6, .ref (adr G 33)), (7, .int (5 * a1)), (8, .int v1), (9, .int y2), (10, .int y8), (11, .int y9), (12, .int y10), (13, .int x40), (14, .int v42), (15, .int v43), (16, .int v75), (17, .int v76), (18, .int ((if 2 ≤ x40 then 25 else 37) : Int32)), (19, .int x78), (20, .int x79)]) (kk : ∀ (y78 : Int32) (y79 : Int32), qL = (y78, y79) → ∀ (H : Heap) (locs : List Loc) (ls : Array Slot), va_P G.1 vwCl (wld G (C, M, Mo)) H → va_S (hyA G) s.heap H locs → lv_has ls 21 [(0, .ref (adr G 0)), (1, .int a1), (2, .int a2), (3, .ref (adr G 34)), (4, .ref (adr G 30)), (5, .ref (adr G 31)), (6, .ref (adr G 33)), (7, .int (5 * a1)), (8, .int v1), (9, .int y2), (10, .int y8), (11, .int y9), (12, .int y10), (13, .int x40), (14, .int v42), (15, .int v43), (16, .int v75), (17, .int v76), (18, .int ((if 2 ≤ x40 then 25 else 37) : Int32)), (19, .int y78), (20, .int y79)] → W p l e { frames := 8, cells := 0, slots := 6 * 0, locals := 143 } s m ([.ref (adr G 0), .int a1, .int a2, .ref (adr G 34), .ref (adr G 30), .ref (adr G 31), .ref (adr G 33)] : List Value).toArray below meth c H locs 0 0 (vx_MQ below (hyQ G (.inr (some (.int (bI res.1))), (res.2.1, res.2.2, Mo))) (hyXQ G (.inr (some (.int (bI res.1))), (res.2.1, res.2.2, Mo))) ([.ref (adr G 0), .int a1, .int a2, .ref (adr G 34), .ref (adr G 30), .ref (adr G 31), .ref (adr G 33)] : List Value).toArray s 0 (6 * 0) (hyA G)) (F0 m 352 ls [])), W p l e { frames := 8, cells := 0, slots := 6 * 0, locals := 143 } s m ([.ref (adr G 0), .int a1, .int a2, .ref (adr G 34), .ref (adr G 30), .ref (adr G 31), .ref (adr G 33)] : List Value).toArray below meth c H locs 0 0 (vx_MQ below (hyQ G (.inr (some (.int (bI res.1))), (res.2.1, res.2.2, Mo))) (hyXQ G (.inr (some (.int (bI res.1))), (res.2.1, res.2.2, Mo))) ([.ref (adr G 0), .int a1, .int a2, .ref (adr G 34), .ref (adr G 30), .ref (adr G 31), .ref (adr G 33)] : List Value).toArray s 0 (6 * 0) (hyA G)) (F0 m 336 ls []) := by
                                    intro f
                                    induction f with
                                    | zero =>
                                      intro x78 x79 qL h H locs ls hP hS hl kk
                                      rw [La_note_L336b] at h
                                      cases h
                                    | succ f ih =>
                                      intro x78 x79 qL h H locs ls hP hS hl kk
                                      rw [La_note_L336b] at h
                                      refine lv_iload hx hb dL_note_336 (lv_at hl 20 rfl) ?_
                                      refine lv_iload hx hb dL_note_338 (lv_at hl 17 rfl) ?_
                                      refine lv_icmp_lt (tgt := 352) hx hb dL_note_340 (by decide) (fun c80 => ?_) (fun c80 => ?_)
                                      · rw [if_pos c80] at h
                                        exact kk x78 x79 (Option.some.inj h).symm _ _ ls hP hS (lv_sub hl [0, 1, 2, 3, 4, 5, 6, 7, 8, 9, 10, 11, 12, 13, 14, 15, 16, 17, 18, 19, 20] rfl)
                                      · rw [if_neg c80] at h
                                        refine lv_iinc (v := (x78 + 1)) (lv' := [(19, .int (x78 + 1)), (0, .ref (adr G 0)), (1, .int a1), (2, .int a2), (3, .ref (adr G 34)), (4, .ref (adr G 30)), (5, .ref (adr G 31)), (6, .ref (adr G 33)), (7, .int (5 * a1)), (8, .int v1), (9, .int y2), (10, .int y8), (11, .int y9), (12, .int y10), (13, .int x40), (14, .int v42), (15, .int v43), (16, .int v75), (17, .int v76), (18, .int ((if 2 ≤ x40 then 25 else 37) : Int32)), (20, .int x79)]) hx hb dL_note_343 hl (k := 19) rfl rfl (by decide) rfl (fun ls hl => ?_)
                                        refine lv_iinc (v := (x79 + (-2))) (lv' := [(20, .int (x79 + (-2))), (19, .int (x78 + 1)), (0, .ref (adr G 0)), (1, .int a1), (2, .int a2), (3, .ref (adr G 34)), (4, .ref (adr G 30)), (5, .ref (adr G 31)), (6, .ref (adr G 33)), (7, .int (5 * a1)), (8, .int v1), (9, .int y2), (10, .int y8), (11, .int y9), (12, .int y10), (13, .int x40), (14, .int v42), (15, .int v43), (16, .int v75), (17, .int v76), (18, .int ((if 2 ≤ x40 then 25 else 37) : Int32))]) hx hb dL_note_346 hl (k := 20) rfl rfl (by decide) rfl (fun ls hl => ?_)
                                        refine lv_goto (tgt := 336) hx hb dL_note_349 (by decide) ?_
                                        exact ih (x78 + 1) (x79 + (-2)) _ h  _ _ ls hP hS (lv_sub hl [2, 3, 4, 5, 6, 7, 8, 9, 10, 11, 12, 13, 14, 15, 16, 17, 18, 19, 20, 1, 0] rfl) kk
                                  obtain ⟨q104, hq104, h⟩ := hy_bind h
                                  refine L81 hyFu 0 (((if 2 ≤ x40 then 25 else 37) : Int32) - 2) q104 hq104 _ _ ls hP hS (lv_sub hl [3, 4, 5, 6, 7, 8, 9, 10, 11, 12, 13, 14, 15, 16, 17, 18, 19, 20, 2, 1, 0] rfl) ?_
                                  intro y78 y79 e9 H locs ls hP hS hl
                                  subst e9
                                  try dsimp only at h
                                  refine lv_iload hx hb dL_note_352 (lv_at hl 18 rfl) ?_
                                  refine lv_bipush (v := 10) hx hb dL_note_354 rfl ?_
                                  refine lv_iadd hx hb dL_note_356 ?_
                                  refine lv_istore (lv' := [(20, .int (((if 2 ≤ x40 then 25 else 37) : Int32) + 10)), (0, .ref (adr G 0)), (1, .int a1), (2, .int a2), (3, .ref (adr G 34)), (4, .ref (adr G 30)), (5, .ref (adr G 31)), (6, .ref (adr G 33)), (7, .int (5 * a1)), (8, .int v1), (9, .int y2), (10, .int y8), (11, .int y9), (12, .int y10), (13, .int x40), (14, .int v42), (15, .int v43), (16, .int v75), (17, .int v76), (18, .int ((if 2 ≤ x40 then 25 else 37) : Int32)), (19, .int y78)]) hx hb dL_note_357 hl (by decide) rfl (fun ls hl => ?_)
                                  have L85 : ∀ (f : Nat) (x82 : Int32) (x83 : Int32) (qL : (Int32 × Int32)) (h : La_note_L359b v76 f x82 x83 = some qL) (H : Heap) (locs : List Loc) (ls : Array Slot) (hP : va_P G.1 vwCl (wld G (C, M, Mo)) H) (hS : va_S (hyA G) s.heap H locs) (hl : lv_has ls 21 [(0, .ref (adr G 0)), (1, .int a1), (2, .int a2), (3, .ref (adr G 34)), (4, .ref (adr G 30)), (5, .ref (adr G 31)), (6, .ref (adr G 33)), (7, .int (5 * a1)), (8, .int v1), (9, .int y2), (10, .int y8), (11, .int y9), (12, .int y10), (13, .int x40), (14, .int v42), (15, .int v43), (16, .int v75), (17, .int v76), (18, .int ((if 2 ≤ x40 then 25 else 37) : Int32)), (19, .int x82), (20, .int x83)]) (kk : ∀ (y82 : Int32) (y83 : Int32), qL = (y82, y83) → ∀ (H : Heap) (locs : List Loc) (ls : Array Slot), va_P G.1 vwCl (wld G (C, M, Mo)) H → va_S (hyA G) s.heap H locs → lv_has ls 21 [(0, .ref (adr G 0)), (1, .int a1), (2, .int a2), (3, .ref (adr G 34)), (4, .ref (adr G 30)), (5, .ref (adr G 31)), (6, .ref (adr G 33)), (7, .int (5 * a1)), (8, .int v1), (9, .int y2), (10, .int y8), (11, .int y9), (12, .int y10), (13, .int x40), (14, .int v42), (15, .int v43), (16, .int v75), (17, .int v76), (18, .int ((if 2 ≤ x40 then 25 else 37) : Int32)), (19, .int y82), (20, .int y83)] → W p l e { frames := 8, cells := 0, slots := 6 * 0, locals := 143 } s m ([.ref (adr G 0), .int a1, .int a2, .ref (adr G 34), .ref (adr G 30), .ref (adr G 31), .ref (adr G 33)] : List Value).toArray below meth c H locs 0 0 (vx_MQ below (hyQ G (.inr (some (.int (bI res.1))), (res.2.1, res.2.2, Mo))) (hyXQ G (.inr (some (.int (bI res.1))), (res.2.1, res.2.2, Mo))) ([.ref (adr G 0), .int a1, .int a2, .ref (adr G 34), .ref (adr G 30), .ref (adr G 31), .ref (adr G 33)] : List Value).toArray s 0 (6 * 0) (hyA G)) (F0 m 375 ls [])), W p l e { frames := 8, cells := 0, slots := 6 * 0, locals := 143 } s m ([.ref (adr G 0), .int a1, .int a2, .ref (adr G 34), .ref (adr G 30), .ref (adr G 31), .ref (adr G 33)] : List Value).toArray below meth c H locs 0 0 (vx_MQ below (hyQ G (.inr (some (.int (bI res.1))), (res.2.1, res.2.2, Mo))) (hyXQ G (.inr (some (.int (bI res.1))), (res.2.1, res.2.2, Mo))) ([.ref (adr G 0), .int a1, .int a2, .ref (adr G 34), .ref (adr G 30), .ref (adr G 31), .ref (adr G 33)] : List Value).toArray s 0 (6 * 0) (hyA G)) (F0 m 359 ls []) := by
                                    intro f
                                    induction f with
                                    | zero =>
                                      intro x82 x83 qL h H locs ls hP hS hl kk
                                      rw [La_note_L359b] at h
                                      cases h
                                    | succ f ih =>
                                      intro x82 x83 qL h H locs ls hP hS hl kk
                                      rw [La_note_L359b] at h
                                      refine lv_iload hx hb dL_note_359 (lv_at hl 20 rfl) ?_
                                      refine lv_iload hx hb dL_note_361 (lv_at hl 17 rfl) ?_
                                      refine lv_icmp_gt (tgt := 375) hx hb dL_note_363 (by decide) (fun c84 => ?_) (fun c84 => ?_)
                                      · rw [if_pos c84] at h
                                        exact kk x82 x83 (Option.some.inj h).symm _ _ ls hP hS (lv_sub hl [0, 1, 2, 3, 4, 5, 6, 7, 8, 9, 10, 11, 12, 13, 14, 15, 16, 17, 18, 19, 20] rfl)
                                      · rw [if_neg c84] at h
                                        refine lv_iinc (v := (x82 + 1)) (lv' := [(19, .int (x82 + 1)), (0, .ref (adr G 0)), (1, .int a1), (2, .int a2), (3, .ref (adr G 34)), (4, .ref (adr G 30)), (5, .ref (adr G 31)), (6, .ref (adr G 33)), (7, .int (5 * a1)), (8, .int v1), (9, .int y2), (10, .int y8), (11, .int y9), (12, .int y10), (13, .int x40), (14, .int v42), (15, .int v43), (16, .int v75), (17, .int v76), (18, .int ((if 2 ≤ x40 then 25 else 37) : Int32)), (20, .int x83)]) hx hb dL_note_366 hl (k := 19) rfl rfl (by decide) rfl (fun ls hl => ?_)
                                        refine lv_iinc (v := (x83 + 2)) (lv' := [(20, .int (x83 + 2)), (19, .int (x82 + 1)), (0, .ref (adr G 0)), (1, .int a1), (2, .int a2), (3, .ref (adr G 34)), (4, .ref (adr G 30)), (5, .ref (adr G 31)), (6, .ref (adr G 33)), (7, .int (5 * a1)), (8, .int v1), (9, .int y2), (10, .int y8), (11, .int y9), (12, .int y10), (13, .int x40), (14, .int v42), (15, .int v43), (16, .int v75), (17, .int v76), (18, .int ((if 2 ≤ x40 then 25 else 37) : Int32))]) hx hb dL_note_369 hl (k := 20) rfl rfl (by decide) rfl (fun ls hl => ?_)
                                        refine lv_goto (tgt := 359) hx hb dL_note_372 (by decide) ?_
                                        exact ih (x82 + 1) (x83 + 2) _ h  _ _ ls hP hS (lv_sub hl [2, 3, 4, 5, 6, 7, 8, 9, 10, 11, 12, 13, 14, 15, 16, 17, 18, 19, 20, 1, 0] rfl) kk
                                  obtain ⟨q103, hq103, h⟩ := hy_bind h
                                  refine L85 hyFu y78 (((if 2 ≤ x40 then 25 else 37) : Int32) + 10) q103 hq103 _ _ ls hP hS (lv_sub hl [1, 2, 3, 4, 5, 6, 7, 8, 9, 10, 11, 12, 13, 14, 15, 16, 17, 18, 19, 20, 0] rfl) ?_
                                  intro y82 y83 e9 H locs ls hP hS hl
                                  subst e9
                                  try dsimp only at h
                                  refine lv_aload_n hx hb dL_note_375 rfl (lv_at hl 0 rfl) ?_
                                  refine lv_iload_n hx hb dL_note_376 rfl (lv_at hl 1 rfl) ?_
                                  refine lv_iload hx hb dL_note_377 (lv_at hl 13 rfl) ?_
                                  refine lv_iconst (v := 0) hx hb dL_note_379 rfl ?_
                                  obtain ⟨v86, hv86, h⟩ := hy_bind h
                                  refine hy_ret (hy_rV0 (T := (C, M, Mo)) (v := some (.int v86)) (T2 := (C, M, Mo)) (As := [.int a1, .int x40, .int 0]) (rest := []) (n := 0) hx hb hml hown hts hX hP hS hl (c_Hp_part hlt M Mo a1 x40 0 C (res := .inr v86) (rtb_some hv86)) m_Hp_part q_744 (hy_recv hX hP 0 9 (by decide) rfl rfl) rfl rfl (Nat.le_of_ble_eq_true rfl) dL_note_380 ⟨Nat.le_of_ble_eq_true rfl, Nat.le_of_ble_eq_true rfl⟩ ⟨by decide, by decide⟩) hS (fun H locs hP hS => ?_)
                                  refine lv_iload hx hb dL_note_383 (lv_at hl 14 rfl) ?_
                                  refine lv_icmp_ne (tgt := 483) hx hb dL_note_385 (by decide) (fun c87 => ?_) (fun c87 => ?_)
                                  · rw [if_neg c87] at h
                                    refine lv_iconst (v := 0) hx hb dL_note_483 rfl ?_
                                    exact hy_zret (T := (C, M, Mo)) hx hb hr hlocks hP hS (by decide) (by decide) (bI_nar false) (by rw [← (hq _ (Option.some.inj h).symm).symm] <;> rfl) dL_note_484
                                  · rw [if_pos (c87)] at h
                                    refine lv_aload_n hx hb dL_note_388 rfl (lv_at hl 0 rfl) ?_
                                    refine lv_iload_n hx hb dL_note_389 rfl (lv_at hl 1 rfl) ?_
                                    refine lv_iload hx hb dL_note_390 (lv_at hl 13 rfl) ?_
                                    refine lv_iconst (v := 1) hx hb dL_note_392 rfl ?_
                                    obtain ⟨v88, hv88, h⟩ := hy_bind h
                                    refine hy_ret (hy_rV0 (T := (C, M, Mo)) (v := some (.int v88)) (T2 := (C, M, Mo)) (As := [.int a1, .int x40, .int 1]) (rest := []) (n := 0) hx hb hml hown hts hX hP hS hl (c_Hp_part hlt M Mo a1 x40 1 C (res := .inr v88) (rtb_some hv88)) m_Hp_part q_744 (hy_recv hX hP 0 9 (by decide) rfl rfl) rfl rfl (Nat.le_of_ble_eq_true rfl) dL_note_393 ⟨Nat.le_of_ble_eq_true rfl, Nat.le_of_ble_eq_true rfl⟩ ⟨by decide, by decide⟩) hS (fun H locs hP hS => ?_)
                                    refine lv_iload hx hb dL_note_396 (lv_at hl 16 rfl) ?_
                                    refine lv_icmp_ne (tgt := 483) hx hb dL_note_398 (by decide) (fun c89 => ?_) (fun c89 => ?_)
                                    · rw [if_neg c89] at h
                                      refine lv_iconst (v := 0) hx hb dL_note_483 rfl ?_
                                      exact hy_zret (T := (C, M, Mo)) hx hb hr hlocks hP hS (by decide) (by decide) (bI_nar false) (by rw [← (hq _ (Option.some.inj h).symm).symm] <;> rfl) dL_note_484
                                    · rw [if_pos (c89)] at h
                                      refine lv_aload_n hx hb dL_note_401 rfl (lv_at hl 0 rfl) ?_
                                      refine lv_iload_n hx hb dL_note_402 rfl (lv_at hl 1 rfl) ?_
                                      refine lv_iload hx hb dL_note_403 (lv_at hl 13 rfl) ?_
                                      refine lv_iconst (v := 2) hx hb dL_note_405 rfl ?_
                                      obtain ⟨v90, hv90, h⟩ := hy_bind h
                                      refine hy_ret (hy_rV0 (T := (C, M, Mo)) (v := some (.int v90)) (T2 := (C, M, Mo)) (As := [.int a1, .int x40, .int 2]) (rest := []) (n := 0) hx hb hml hown hts hX hP hS hl (c_Hp_part hlt M Mo a1 x40 2 C (res := .inr v90) (rtb_some hv90)) m_Hp_part q_744 (hy_recv hX hP 0 9 (by decide) rfl rfl) rfl rfl (Nat.le_of_ble_eq_true rfl) dL_note_406 ⟨Nat.le_of_ble_eq_true rfl, Nat.le_of_ble_eq_true rfl⟩ ⟨by decide, by decide⟩) hS (fun H locs hP hS => ?_)
                                      refine lv_iload hx hb dL_note_409 (lv_at hl 17 rfl) ?_
                                      refine lv_icmp_ne (tgt := 483) hx hb dL_note_411 (by decide) (fun c91 => ?_) (fun c91 => ?_)
                                      · rw [if_neg c91] at h
                                        refine lv_iconst (v := 0) hx hb dL_note_483 rfl ?_
                                        exact hy_zret (T := (C, M, Mo)) hx hb hr hlocks hP hS (by decide) (by decide) (bI_nar false) (by rw [← (hq _ (Option.some.inj h).symm).symm] <;> rfl) dL_note_484
                                      · rw [if_pos (c91)] at h
                                        refine lv_aload_n hx hb dL_note_414 rfl (lv_at hl 0 rfl) ?_
                                        refine lv_iload_n hx hb dL_note_415 rfl (lv_at hl 1 rfl) ?_
                                        refine lv_iload hx hb dL_note_416 (lv_at hl 13 rfl) ?_
                                        refine lv_iconst (v := 3) hx hb dL_note_418 rfl ?_
                                        obtain ⟨v92, hv92, h⟩ := hy_bind h
                                        refine hy_ret (hy_rV0 (T := (C, M, Mo)) (v := some (.int v92)) (T2 := (C, M, Mo)) (As := [.int a1, .int x40, .int 3]) (rest := []) (n := 0) hx hb hml hown hts hX hP hS hl (c_Hp_part hlt M Mo a1 x40 3 C (res := .inr v92) (rtb_some hv92)) m_Hp_part q_744 (hy_recv hX hP 0 9 (by decide) rfl rfl) rfl rfl (Nat.le_of_ble_eq_true rfl) dL_note_419 ⟨Nat.le_of_ble_eq_true rfl, Nat.le_of_ble_eq_true rfl⟩ ⟨by decide, by decide⟩) hS (fun H locs hP hS => ?_)
                                        refine lv_iload hx hb dL_note_422 (lv_at hl 15 rfl) ?_
                                        have J102 : ∀ (H : Heap) (locs : List Loc) (ls : Array Slot) (u1 : Int32), u1 = (bI (!decide (0 ≤ v43))) → va_P G.1 vwCl (wld G (C, M, Mo)) H → va_S (hyA G) s.heap H locs → lv_has ls 21 [(0, .ref (adr G 0)), (1, .int a1), (2, .int a2), (3, .ref (adr G 34)), (4, .ref (adr G 30)), (5, .ref (adr G 31)), (6, .ref (adr G 33)), (7, .int (5 * a1)), (8, .int v1), (9, .int y2), (10, .int y8), (11, .int y9), (12, .int y10), (13, .int x40), (14, .int v42), (15, .int v43), (16, .int v75), (17, .int v76), (18, .int ((if 2 ≤ x40 then 25 else 37) : Int32)), (19, .int y82), (20, .int y83)] → W p l e { frames := 8, cells := 0, slots := 6 * 0, locals := 143 } s m ([.ref (adr G 0), .int a1, .int a2, .ref (adr G 34), .ref (adr G 30), .ref (adr G 31), .ref (adr G 33)] : List Value).toArray below meth c H locs 0 0 (vx_MQ below (hyQ G (.inr (some (.int (bI res.1))), (res.2.1, res.2.2, Mo))) (hyXQ G (.inr (some (.int (bI res.1))), (res.2.1, res.2.2, Mo))) ([.ref (adr G 0), .int a1, .int a2, .ref (adr G 34), .ref (adr G 30), .ref (adr G 31), .ref (adr G 33)] : List Value).toArray s 0 (6 * 0) (hyA G)) (F0 m 432 ls [.int u1, .int v92]) := by
                                          intro H locs ls u1 eu1 hP hS hl
                                          subst eu1
                                          refine lv_icmp_ne (tgt := 483) hx hb dL_note_432 (by decide) (fun c94 => ?_) (fun c94 => ?_)
                                          · rw [if_neg c94] at h
                                            refine lv_iconst (v := 0) hx hb dL_note_483 rfl ?_
                                            exact hy_zret (T := (C, M, Mo)) hx hb hr hlocks hP hS (by decide) (by decide) (bI_nar false) (by rw [← (hq _ (Option.some.inj h).symm).symm] <;> rfl) dL_note_484
                                          · rw [if_pos (c94)] at h
                                            refine lv_aload_n hx hb dL_note_435 rfl (lv_at hl 0 rfl) ?_
                                            refine lv_iload_n hx hb dL_note_436 rfl (lv_at hl 1 rfl) ?_
                                            refine lv_iload hx hb dL_note_437 (lv_at hl 13 rfl) ?_
                                            refine lv_iconst (v := 4) hx hb dL_note_439 rfl ?_
                                            obtain ⟨v95, hv95, h⟩ := hy_bind h
                                            refine hy_ret (hy_rV0 (T := (C, M, Mo)) (v := some (.int v95)) (T2 := (C, M, Mo)) (As := [.int a1, .int x40, .int 4]) (rest := []) (n := 0) hx hb hml hown hts hX hP hS hl (c_Hp_part hlt M Mo a1 x40 4 C (res := .inr v95) (rtb_some hv95)) m_Hp_part q_744 (hy_recv hX hP 0 9 (by decide) rfl rfl) rfl rfl (Nat.le_of_ble_eq_true rfl) dL_note_440 ⟨Nat.le_of_ble_eq_true rfl, Nat.le_of_ble_eq_true rfl⟩ ⟨by decide, by decide⟩) hS (fun H locs hP hS => ?_)
                                            refine lv_iload hx hb dL_note_443 (lv_at hl 15 rfl) ?_
                                            have J101 : ∀ (H : Heap) (locs : List Loc) (ls : Array Slot) (u1 : Int32), u1 = ((if 0 ≤ v43 then (if v43 = 6 then 3 else (v43 - v43 / 3 * 3)) else (-1)) : Int32) → va_P G.1 vwCl (wld G (C, M, Mo)) H → va_S (hyA G) s.heap H locs → lv_has ls 21 [(0, .ref (adr G 0)), (1, .int a1), (2, .int a2), (3, .ref (adr G 34)), (4, .ref (adr G 30)), (5, .ref (adr G 31)), (6, .ref (adr G 33)), (7, .int (5 * a1)), (8, .int v1), (9, .int y2), (10, .int y8), (11, .int y9), (12, .int y10), (13, .int x40), (14, .int v42), (15, .int v43), (16, .int v75), (17, .int v76), (18, .int ((if 2 ≤ x40 then 25 else 37) : Int32)), (19, .int y82), (20, .int y83)] → W p l e { frames := 8, cells := 0, slots := 6 * 0, locals := 143 } s m ([.ref (adr G 0), .int a1, .int a2, .ref (adr G 34), .ref (adr G 30), .ref (adr G 31), .ref (adr G 33)] : List Value).toArray below meth c H locs 0 0 (vx_MQ below (hyQ G (.inr (some (.int (bI res.1))), (res.2.1, res.2.2, Mo))) (hyXQ G (.inr (some (.int (bI res.1))), (res.2.1, res.2.2, Mo))) ([.ref (adr G 0), .int a1, .int a2, .ref (adr G 34), .ref (adr G 30), .ref (adr G 31), .ref (adr G 33)] : List Value).toArray s 0 (6 * 0) (hyA G)) (F0 m 467 ls [.int u1, .int v95]) := by
                                              intro H locs ls u1 eu1 hP hS hl
                                              subst eu1
                                              refine lv_icmp_ne (tgt := 483) hx hb dL_note_467 (by decide) (fun c98 => ?_) (fun c98 => ?_)
                                              · rw [if_neg c98] at h
                                                refine lv_iconst (v := 0) hx hb dL_note_483 rfl ?_
                                                exact hy_zret (T := (C, M, Mo)) hx hb hr hlocks hP hS (by decide) (by decide) (bI_nar false) (by rw [← (hq _ (Option.some.inj h).symm).symm] <;> rfl) dL_note_484
                                              · rw [if_pos (c98)] at h
                                                refine lv_aload_n hx hb dL_note_470 rfl (lv_at hl 0 rfl) ?_
                                                refine lv_iload_n hx hb dL_note_471 rfl (lv_at hl 1 rfl) ?_
                                                refine lv_iload hx hb dL_note_472 (lv_at hl 13 rfl) ?_
                                                refine lv_iconst (v := 5) hx hb dL_note_474 rfl ?_
                                                obtain ⟨v99, hv99, h⟩ := hy_bind h
                                                refine hy_ret (hy_rV0 (T := (C, M, Mo)) (v := some (.int v99)) (T2 := (C, M, Mo)) (As := [.int a1, .int x40, .int 5]) (rest := []) (n := 0) hx hb hml hown hts hX hP hS hl (c_Hp_part hlt M Mo a1 x40 5 C (res := .inr v99) (rtb_some hv99)) m_Hp_part q_744 (hy_recv hX hP 0 9 (by decide) rfl rfl) rfl rfl (Nat.le_of_ble_eq_true rfl) dL_note_475 ⟨Nat.le_of_ble_eq_true rfl, Nat.le_of_ble_eq_true rfl⟩ ⟨by decide, by decide⟩) hS (fun H locs hP hS => ?_)
                                                refine lv_iload hx hb dL_note_478 (lv_at hl 19 rfl) ?_
                                                refine lv_icmp_eq (tgt := 485) hx hb dL_note_480 (by decide) (fun c100 => ?_) (fun c100 => ?_)
                                                · rw [if_pos c100] at h
                                                  refine lv_iinc (v := (x40 + 1)) (lv' := [(13, .int (x40 + 1)), (0, .ref (adr G 0)), (1, .int a1), (2, .int a2), (3, .ref (adr G 34)), (4, .ref (adr G 30)), (5, .ref (adr G 31)), (6, .ref (adr G 33)), (7, .int (5 * a1)), (8, .int v1), (9, .int y2), (10, .int y8), (11, .int y9), (12, .int y10), (14, .int v42), (15, .int v43), (16, .int v75), (17, .int v76), (18, .int ((if 2 ≤ x40 then 25 else 37) : Int32)), (19, .int y82), (20, .int y83)]) hx hb dL_note_485 hl (k := 13) rfl rfl (by decide) rfl (fun ls hl => ?_)
                                                  refine lv_goto (tgt := 255) hx hb dL_note_488 (by decide) ?_
                                                  exact ih (x40 + 1) _ h hq _ _ ls hP hS (lv_sub hl [1, 2, 3, 4, 5, 6, 7, 8, 9, 10, 11, 12, 13, 0] rfl) kk
                                                · rw [if_neg c100] at h
                                                  refine lv_iconst (v := 0) hx hb dL_note_483 rfl ?_
                                                  exact hy_zret (T := (C, M, Mo)) hx hb hr hlocks hP hS (by decide) (by decide) (bI_nar false) (by rw [← (hq _ (Option.some.inj h).symm).symm] <;> rfl) dL_note_484
                                            refine lv_if_ge (tgt := 452) hx hb dL_note_445 (by decide) (fun c96 => ?_) (fun c96 => ?_)
                                            · refine lv_iload hx hb dL_note_452 (lv_at hl 15 rfl) ?_
                                              refine lv_bipush (v := 6) hx hb dL_note_454 rfl ?_
                                              refine lv_icmp_ne (tgt := 463) hx hb dL_note_456 (by decide) (fun c97 => ?_) (fun c97 => ?_)
                                              · refine lv_iload hx hb dL_note_463 (lv_at hl 15 rfl) ?_
                                                refine lv_iconst (v := 3) hx hb dL_note_465 rfl ?_
                                                refine lv_irem hx hb dL_note_466 (by decide) ?_
                                                exact J101 _ _ ls (v43 - v43 / 3 * 3) (by rw [if_pos c96, if_neg c97] <;> rfl) hP hS (lv_sub hl [0, 1, 2, 3, 4, 5, 6, 7, 8, 9, 10, 11, 12, 13, 14, 15, 16, 17, 18, 19, 20] rfl)
                                              · refine lv_iconst (v := 3) hx hb dL_note_459 rfl ?_
                                                refine lv_goto (tgt := 467) hx hb dL_note_460 (by decide) ?_
                                                exact J101 _ _ ls 3 (by rw [if_pos c96, if_pos c97] <;> rfl) hP hS (lv_sub hl [0, 1, 2, 3, 4, 5, 6, 7, 8, 9, 10, 11, 12, 13, 14, 15, 16, 17, 18, 19, 20] rfl)
                                            · refine lv_iconst (v := (-1)) hx hb dL_note_448 rfl ?_
                                              refine lv_goto (tgt := 467) hx hb dL_note_449 (by decide) ?_
                                              exact J101 _ _ ls (-1) (by rw [if_neg c96] <;> rfl) hP hS (lv_sub hl [0, 1, 2, 3, 4, 5, 6, 7, 8, 9, 10, 11, 12, 13, 14, 15, 16, 17, 18, 19, 20] rfl)
                                        refine lv_if_ge (tgt := 431) hx hb dL_note_424 (by decide) (fun c93 => ?_) (fun c93 => ?_)
                                        · refine lv_iconst (v := 0) hx hb dL_note_431 rfl ?_
                                          exact J102 _ _ ls 0 (by rw [decide_eq_true c93] <;> rfl) hP hS (lv_sub hl [0, 1, 2, 3, 4, 5, 6, 7, 8, 9, 10, 11, 12, 13, 14, 15, 16, 17, 18, 19, 20] rfl)
                                        · refine lv_iconst (v := 1) hx hb dL_note_427 rfl ?_
                                          refine lv_goto (tgt := 432) hx hb dL_note_428 (by decide) ?_
                                          exact J102 _ _ ls 1 (by rw [decide_eq_false c93] <;> rfl) hP hS (lv_sub hl [0, 1, 2, 3, 4, 5, 6, 7, 8, 9, 10, 11, 12, 13, 14, 15, 16, 17, 18, 19, 20] rfl)
                                refine lv_icmp_ge (tgt := 323) hx hb dL_note_315 (by decide) (fun c77 => ?_) (fun c77 => ?_)
                                · refine lv_bipush (v := 25) hx hb dL_note_323 rfl ?_
                                  exact J105 _ _ ls 25 (by rw [if_pos c77] <;> rfl) hP hS (lv_sub hl [4, 5, 6, 7, 8, 9, 10, 11, 12, 13, 14, 15, 16, 17, 3, 2, 1, 0] rfl)
                                · refine lv_bipush (v := 37) hx hb dL_note_318 rfl ?_
                                  refine lv_goto (tgt := 325) hx hb dL_note_320 (by decide) ?_
                                  exact J105 _ _ ls 37 (by rw [if_neg c77] <;> rfl) hP hS (lv_sub hl [4, 5, 6, 7, 8, 9, 10, 11, 12, 13, 14, 15, 16, 17, 3, 2, 1, 0] rfl)
                        obtain ⟨q123, hq123, h⟩ := hy_bind h
                        refine L106 hyFu 0 q123 hq123 (fun r9 e9 => by subst e9; exact (Option.some.inj h).symm) _ _ ls hP hS (lv_sub hl [1, 2, 3, 4, 5, 6, 7, 8, 9, 10, 11, 12, 13, 0] rfl) ?_
                        intro y40 e9 H locs ls hP hS hl
                        subst e9
                        try dsimp only at h
                        refine lv_iconst (v := 0) hx hb dL_note_491 rfl ?_
                        refine lv_istore (lv' := [(13, .int 0), (0, .ref (adr G 0)), (1, .int a1), (2, .int a2), (3, .ref (adr G 34)), (4, .ref (adr G 30)), (5, .ref (adr G 31)), (6, .ref (adr G 33)), (7, .int (5 * a1)), (8, .int v1), (9, .int y2), (10, .int y8), (11, .int y9), (12, .int y10)]) hx hb dL_note_492 hl (by decide) rfl (fun ls hl => ?_)
                        have L121 : ∀ (f : Nat) (x107 : Int32) (qL : ((Bool × hyM × hyM) ⊕ (Int32))) (h : La_note_L494 a1 C M f x107 = some qL) (hq : ∀ r9, qL = .inl r9 → res = r9) (H : Heap) (locs : List Loc) (ls : Array Slot) (hP : va_P G.1 vwCl (wld G (C, M, Mo)) H) (hS : va_S (hyA G) s.heap H locs) (hl : lv_has ls 21 [(0, .ref (adr G 0)), (1, .int a1), (2, .int a2), (3, .ref (adr G 34)), (4, .ref (adr G 30)), (5, .ref (adr G 31)), (6, .ref (adr G 33)), (7, .int (5 * a1)), (8, .int v1), (9, .int y2), (10, .int y8), (11, .int y9), (12, .int y10), (13, .int x107)]) (kk : ∀ (y107 : Int32), qL = .inr (y107) → ∀ (H : Heap) (locs : List Loc) (ls : Array Slot), va_P G.1 vwCl (wld G (C, M, Mo)) H → va_S (hyA G) s.heap H locs → lv_has ls 21 [(0, .ref (adr G 0)), (1, .int a1), (2, .int a2), (3, .ref (adr G 34)), (4, .ref (adr G 30)), (5, .ref (adr G 31)), (6, .ref (adr G 33)), (7, .int (5 * a1)), (8, .int v1), (9, .int y2), (10, .int y8), (11, .int y9), (12, .int y10), (13, .int y107)] → W p l e { frames := 8, cells := 0, slots := 6 * 0, locals := 143 } s m ([.ref (adr G 0), .int a1, .int a2, .ref (adr G 34), .ref (adr G 30), .ref (adr G 31), .ref (adr G 33)] : List Value).toArray below meth c H locs 0 0 (vx_MQ below (hyQ G (.inr (some (.int (bI res.1))), (res.2.1, res.2.2, Mo))) (hyXQ G (.inr (some (.int (bI res.1))), (res.2.1, res.2.2, Mo))) ([.ref (adr G 0), .int a1, .int a2, .ref (adr G 34), .ref (adr G 30), .ref (adr G 31), .ref (adr G 33)] : List Value).toArray s 0 (6 * 0) (hyA G)) (F0 m 596 ls [])), W p l e { frames := 8, cells := 0, slots := 6 * 0, locals := 143 } s m ([.ref (adr G 0), .int a1, .int a2, .ref (adr G 34), .ref (adr G 30), .ref (adr G 31), .ref (adr G 33)] : List Value).toArray below meth c H locs 0 0 (vx_MQ below (hyQ G (.inr (some (.int (bI res.1))), (res.2.1, res.2.2, Mo))) (hyXQ G (.inr (some (.int (bI res.1))), (res.2.1, res.2.2, Mo))) ([.ref (adr G 0), .int a1, .int a2, .ref (adr G 34), .ref (adr G 30), .ref (adr G 31), .ref (adr G 33)] : List Value).toArray s 0 (6 * 0) (hyA G)) (F0 m 494 ls []) := by
                          intro f
                          induction f with
                          | zero =>
                            intro x107 qL h hq H locs ls hP hS hl kk
                            rw [La_note_L494] at h
                            cases h
                          | succ f ih =>
                            intro x107 qL h hq H locs ls hP hS hl kk
                            rw [La_note_L494] at h
                            refine lv_iload hx hb dL_note_494 (lv_at hl 13 rfl) ?_
                            refine lv_iconst (v := 2) hx hb dL_note_496 rfl ?_
                            refine lv_icmp_ge (tgt := 596) hx hb dL_note_497 (by decide) (fun c108 => ?_) (fun c108 => ?_)
                            · rw [if_pos c108] at h
                              exact kk x107 (Option.some.inj h).symm _ _ ls hP hS (lv_sub hl [0, 1, 2, 3, 4, 5, 6, 7, 8, 9, 10, 11, 12, 13] rfl)
                            · rw [if_neg c108] at h
                              refine lv_aload hx hb dL_note_500 (lv_at hl 5 rfl) ?_
                              refine lv_iload hx hb dL_note_502 (lv_at hl 7 rfl) ?_
                              refine lv_iconst (v := 1) hx hb dL_note_504 rfl ?_
                              refine lv_iadd hx hb dL_note_505 ?_
                              refine lv_iconst (v := 2) hx hb dL_note_506 rfl ?_
                              refine lv_iload hx hb dL_note_507 (lv_at hl 13 rfl) ?_
                              refine lv_imul hx hb dL_note_509 ?_
                              refine lv_iadd hx hb dL_note_510 ?_
                              obtain ⟨v109, hv109, h⟩ := hy_bind h
                              obtain ⟨nv109, hv109⟩ := ldE_some hv109
                              refine hy_iald (T := (C, M, Mo)) hx hb hX hP 31 60 (M.1 31) (hy34 G (by decide)) rfl nv109 dL_note_511 ?_
                              rw [hv109]
                              refine lv_istore (lv' := [(14, .int v109), (0, .ref (adr G 0)), (1, .int a1), (2, .int a2), (3, .ref (adr G 34)), (4, .ref (adr G 30)), (5, .ref (adr G 31)), (6, .ref (adr G 33)), (7, .int (5 * a1)), (8, .int v1), (9, .int y2), (10, .int y8), (11, .int y9), (12, .int y10), (13, .int x107)]) hx hb dL_note_512 hl (by decide) rfl (fun ls hl => ?_)
                              refine lv_aload hx hb dL_note_514 (lv_at hl 6 rfl) ?_
                              refine lv_iload hx hb dL_note_516 (lv_at hl 8 rfl) ?_
                              refine lv_iconst (v := 2) hx hb dL_note_518 rfl ?_
                              refine lv_iadd hx hb dL_note_519 ?_
                              refine lv_iconst (v := 2) hx hb dL_note_520 rfl ?_
                              refine lv_iload hx hb dL_note_521 (lv_at hl 14 rfl) ?_
                              refine lv_imul hx hb dL_note_523 ?_
                              refine lv_iadd hx hb dL_note_524 ?_
                              obtain ⟨v110, hv110, h⟩ := hy_bind h
                              obtain ⟨nv110, hv110⟩ := ldE_some hv110
                              refine hy_iald (T := (C, M, Mo)) hx hb hX hP 31 60 (M.1 31) (hy34 G (by decide)) rfl nv110 dL_note_525 ?_
                              rw [hv110]
                              refine lv_istore (lv' := [(15, .int v110), (14, .int v109), (0, .ref (adr G 0)), (1, .int a1), (2, .int a2), (3, .ref (adr G 34)), (4, .ref (adr G 30)), (5, .ref (adr G 31)), (6, .ref (adr G 33)), (7, .int (5 * a1)), (8, .int v1), (9, .int y2), (10, .int y8), (11, .int y9), (12, .int y10), (13, .int x107)]) hx hb dL_note_526 hl (by decide) rfl (fun ls hl => ?_)
                              refine lv_aload_n hx hb dL_note_528 rfl (lv_at hl 2 rfl) ?_
                              refine lv_iload_n hx hb dL_note_529 rfl (lv_at hl 3 rfl) ?_
                              refine lv_iload hx hb dL_note_530 (lv_at hl 15 rfl) ?_
                              obtain ⟨v111, hv111, h⟩ := hy_bind h
                              refine hy_ret (hy_rV0 (T := (C, M, Mo)) (v := some (.int v111)) (T2 := (C, M, Mo)) (As := [.int a1, .int x107]) (rest := []) (n := 0) hx hb hml hown hts hX hP hS hl (c_Hp_heads hlt M Mo a1 x107 C (res := .inr v111) (rtb_some hv111)) m_Hp_heads q_788 (hy_recv hX hP 0 9 (by decide) rfl rfl) rfl rfl (Nat.le_of_ble_eq_true rfl) dL_note_532 ⟨Nat.le_of_ble_eq_true rfl, Nat.le_of_ble_eq_true rfl⟩ ⟨by decide, by decide⟩) hS (fun H locs hP hS => ?_)
                              refine lv_iload hx hb dL_note_535 (lv_at hl 1 rfl) ?_
                              refine lv_iload hx hb dL_note_537 (lv_at hl 0 rfl) ?_
                              refine lv_icmp_ne (tgt := 546) hx hb dL_note_539 (by decide) (fun c112 => ?_) (fun c112 => ?_)
                              · rw [if_neg c112] at h
                                refine lv_iload hx hb dL_note_546 (lv_at hl 1 rfl) ?_
                                refine lv_aload hx hb dL_note_548 (lv_at hl 6 rfl) ?_
                                obtain ⟨v113, hv113, h⟩ := hy_bind h
                                refine hy_ret (hy_rS0 (T := (C, M, Mo)) (v := some (.int v113)) (T2 := (C, M, Mo)) (As := [.int v109, .ref (adr G 30)]) (rest := [.int v111]) (n := 0) hx hb hml hown hts hX hP hS hl (c_La_stepOf C Mo v109 M hv113) m_La_stepOf q_738 rfl rfl (Nat.le_of_ble_eq_true rfl) dL_note_550 ⟨Nat.le_of_ble_eq_true rfl, Nat.le_of_ble_eq_true rfl⟩ ⟨by decide, by decide⟩) hS (fun H locs hP hS => ?_)
                                refine lv_iload hx hb dL_note_553 (lv_at hl 0 rfl) ?_
                                refine lv_aload hx hb dL_note_555 (lv_at hl 6 rfl) ?_
                                obtain ⟨v114, hv114, h⟩ := hy_bind h
                                refine hy_ret (hy_rS0 (T := (C, M, Mo)) (v := some (.int v114)) (T2 := (C, M, Mo)) (As := [.int v110, .ref (adr G 30)]) (rest := [.int v113, .int v111]) (n := 0) hx hb hml hown hts hX hP hS hl (c_La_stepOf C Mo v110 M hv114) m_La_stepOf q_738 rfl rfl (Nat.le_of_ble_eq_true rfl) dL_note_557 ⟨Nat.le_of_ble_eq_true rfl, Nat.le_of_ble_eq_true rfl⟩ ⟨by decide, by decide⟩) hS (fun H locs hP hS => ?_)
                                refine hy_ret (hy_rS0 (T := (C, M, Mo)) (v := some (.int (La_apart v113 v114 M))) (T2 := (C, M, Mo)) (As := [.int v113, .int v114]) (rest := [.int v111]) (n := 0) hx hb hml hown hts hX hP hS hl (c_La_apart C Mo v113 v114 M rfl) m_La_apart q_796 rfl rfl (Nat.le_of_ble_eq_true rfl) dL_note_560 ⟨Nat.le_of_ble_eq_true rfl, Nat.le_of_ble_eq_true rfl⟩ ⟨by decide, by decide⟩) hS (fun H locs hP hS => ?_)
                                refine lv_iconst (v := 2) hx hb dL_note_563 rfl ?_
                                have J119 : ∀ (H : Heap) (locs : List Loc) (ls : Array Slot) (u1 : Int32), u1 = ((if 2 ≤ (La_apart v113 v114 M) then 0 else 2) : Int32) → va_P G.1 vwCl (wld G (C, M, Mo)) H → va_S (hyA G) s.heap H locs → lv_has ls 21 [(0, .ref (adr G 0)), (1, .int a1), (2, .int a2), (3, .ref (adr G 34)), (4, .ref (adr G 30)), (5, .ref (adr G 31)), (6, .ref (adr G 33)), (7, .int (5 * a1)), (8, .int v1), (9, .int y2), (10, .int y8), (11, .int y9), (12, .int y10), (13, .int x107), (14, .int v109), (15, .int v110)] → W p l e { frames := 8, cells := 0, slots := 6 * 0, locals := 143 } s m ([.ref (adr G 0), .int a1, .int a2, .ref (adr G 34), .ref (adr G 30), .ref (adr G 31), .ref (adr G 33)] : List Value).toArray below meth c H locs 0 0 (vx_MQ below (hyQ G (.inr (some (.int (bI res.1))), (res.2.1, res.2.2, Mo))) (hyXQ G (.inr (some (.int (bI res.1))), (res.2.1, res.2.2, Mo))) ([.ref (adr G 0), .int a1, .int a2, .ref (adr G 34), .ref (adr G 30), .ref (adr G 31), .ref (adr G 33)] : List Value).toArray s 0 (6 * 0) (hyA G)) (F0 m 572 ls [.int u1, .int v111]) := by
                                  intro H locs ls u1 eu1 hP hS hl
                                  subst eu1
                                  refine lv_iload hx hb dL_note_572 (lv_at hl 15 rfl) ?_
                                  refine lv_iload hx hb dL_note_574 (lv_at hl 14 rfl) ?_
                                  have J118 : ∀ (H : Heap) (locs : List Loc) (ls : Array Slot) (u1 : Int32), u1 = ((if v110 ≤ v109 then 0 else 4) : Int32) → va_P G.1 vwCl (wld G (C, M, Mo)) H → va_S (hyA G) s.heap H locs → lv_has ls 21 [(0, .ref (adr G 0)), (1, .int a1), (2, .int a2), (3, .ref (adr G 34)), (4, .ref (adr G 30)), (5, .ref (adr G 31)), (6, .ref (adr G 33)), (7, .int (5 * a1)), (8, .int v1), (9, .int y2), (10, .int y8), (11, .int y9), (12, .int y10), (13, .int x107), (14, .int v109), (15, .int v110)] → W p l e { frames := 8, cells := 0, slots := 6 * 0, locals := 143 } s m ([.ref (adr G 0), .int a1, .int a2, .ref (adr G 34), .ref (adr G 30), .ref (adr G 31), .ref (adr G 33)] : List Value).toArray below meth c H locs 0 0 (vx_MQ below (hyQ G (.inr (some (.int (bI res.1))), (res.2.1, res.2.2, Mo))) (hyXQ G (.inr (some (.int (bI res.1))), (res.2.1, res.2.2, Mo))) ([.ref (adr G 0), .int a1, .int a2, .ref (adr G 34), .ref (adr G 30), .ref (adr G 31), .ref (adr G 33)] : List Value).toArray s 0 (6 * 0) (hyA G)) (F0 m 584 ls [.int u1, .int ((if 2 ≤ (La_apart v113 v114 M) then 0 else 2) : Int32), .int v111]) := by
                                    intro H locs ls u1 eu1 hP hS hl
                                    subst eu1
                                    refine lv_iadd hx hb dL_note_584 ?_
                                    refine lv_icmp_eq (tgt := 590) hx hb dL_note_585 (by decide) (fun c117 => ?_) (fun c117 => ?_)
                                    · rw [if_pos c117] at h
                                      refine lv_iinc (v := (x107 + 1)) (lv' := [(13, .int (x107 + 1)), (0, .ref (adr G 0)), (1, .int a1), (2, .int a2), (3, .ref (adr G 34)), (4, .ref (adr G 30)), (5, .ref (adr G 31)), (6, .ref (adr G 33)), (7, .int (5 * a1)), (8, .int v1), (9, .int y2), (10, .int y8), (11, .int y9), (12, .int y10), (14, .int v109), (15, .int v110)]) hx hb dL_note_590 hl (k := 13) rfl rfl (by decide) rfl (fun ls hl => ?_)
                                      refine lv_goto (tgt := 494) hx hb dL_note_593 (by decide) ?_
                                      exact ih (x107 + 1) _ h hq _ _ ls hP hS (lv_sub hl [1, 2, 3, 4, 5, 6, 7, 8, 9, 10, 11, 12, 13, 0] rfl) kk
                                    · rw [if_neg c117] at h
                                      refine lv_iconst (v := 0) hx hb dL_note_588 rfl ?_
                                      exact hy_zret (T := (C, M, Mo)) hx hb hr hlocks hP hS (by decide) (by decide) (bI_nar false) (by rw [← (hq _ (Option.some.inj h).symm).symm] <;> rfl) dL_note_589
                                  refine lv_icmp_le (tgt := 583) hx hb dL_note_576 (by decide) (fun c116 => ?_) (fun c116 => ?_)
                                  · refine lv_iconst (v := 0) hx hb dL_note_583 rfl ?_
                                    exact J118 _ _ ls 0 (by rw [if_pos c116] <;> rfl) hP hS (lv_sub hl [0, 1, 2, 3, 4, 5, 6, 7, 8, 9, 10, 11, 12, 13, 14, 15] rfl)
                                  · refine lv_iconst (v := 4) hx hb dL_note_579 rfl ?_
                                    refine lv_goto (tgt := 584) hx hb dL_note_580 (by decide) ?_
                                    exact J118 _ _ ls 4 (by rw [if_neg c116] <;> rfl) hP hS (lv_sub hl [0, 1, 2, 3, 4, 5, 6, 7, 8, 9, 10, 11, 12, 13, 14, 15] rfl)
                                refine lv_icmp_ge (tgt := 571) hx hb dL_note_564 (by decide) (fun c115 => ?_) (fun c115 => ?_)
                                · refine lv_iconst (v := 0) hx hb dL_note_571 rfl ?_
                                  exact J119 _ _ ls 0 (by rw [if_pos c115] <;> rfl) hP hS (lv_sub hl [2, 3, 4, 5, 6, 7, 8, 9, 10, 11, 12, 13, 14, 15, 1, 0] rfl)
                                · refine lv_iconst (v := 2) hx hb dL_note_567 rfl ?_
                                  refine lv_goto (tgt := 572) hx hb dL_note_568 (by decide) ?_
                                  exact J119 _ _ ls 2 (by rw [if_neg c115] <;> rfl) hP hS (lv_sub hl [2, 3, 4, 5, 6, 7, 8, 9, 10, 11, 12, 13, 14, 15, 1, 0] rfl)
                              · rw [if_pos (c112)] at h
                                refine lv_iconst (v := 1) hx hb dL_note_542 rfl ?_
                                refine lv_goto (tgt := 585) hx hb dL_note_543 (by decide) ?_
                                refine lv_icmp_eq (tgt := 590) hx hb dL_note_585 (by decide) (fun c120 => ?_) (fun c120 => ?_)
                                · rw [if_pos c120] at h
                                  refine lv_iinc (v := (x107 + 1)) (lv' := [(13, .int (x107 + 1)), (15, .int v110), (14, .int v109), (0, .ref (adr G 0)), (1, .int a1), (2, .int a2), (3, .ref (adr G 34)), (4, .ref (adr G 30)), (5, .ref (adr G 31)), (6, .ref (adr G 33)), (7, .int (5 * a1)), (8, .int v1), (9, .int y2), (10, .int y8), (11, .int y9), (12, .int y10)]) hx hb dL_note_590 hl (k := 15) rfl rfl (by decide) rfl (fun ls hl => ?_)
                                  refine lv_goto (tgt := 494) hx hb dL_note_593 (by decide) ?_
                                  exact ih (x107 + 1) _ h hq _ _ ls hP hS (lv_sub hl [3, 4, 5, 6, 7, 8, 9, 10, 11, 12, 13, 14, 15, 0] rfl) kk
                                · rw [if_neg c120] at h
                                  refine lv_iconst (v := 0) hx hb dL_note_588 rfl ?_
                                  exact hy_zret (T := (C, M, Mo)) hx hb hr hlocks hP hS (by decide) (by decide) (bI_nar false) (by rw [← (hq _ (Option.some.inj h).symm).symm] <;> rfl) dL_note_589
                        obtain ⟨q122, hq122, h⟩ := hy_bind h
                        refine L121 hyFu 0 q122 hq122 (fun r9 e9 => by subst e9; exact (Option.some.inj h).symm) _ _ ls hP hS (lv_sub hl [1, 2, 3, 4, 5, 6, 7, 8, 9, 10, 11, 12, 13, 0] rfl) ?_
                        intro y107 e9 H locs ls hP hS hl
                        subst e9
                        try dsimp only at h
                        refine lv_iconst (v := 1) hx hb dL_note_596 rfl ?_
                        exact hy_zret (T := (C, M, Mo)) hx hb hr hlocks hP hS (by decide) (by decide) (bI_nar true) (by rw [← (Option.some.inj h)] <;> rfl) dL_note_597
                      · rw [if_neg c39] at h
                        refine lv_iconst (v := 0) hx hb dL_note_250 rfl ?_
                        exact hy_zret (T := (C, M, Mo)) hx hb hr hlocks hP hS (by decide) (by decide) (bI_nar false) (by rw [← (Option.some.inj h)] <;> rfl) dL_note_251
                refine lv_icmp_le (tgt := 208) hx hb dL_note_201 (by decide) (fun c32 => ?_) (fun c32 => ?_)
                · refine lv_iconst (v := 0) hx hb dL_note_208 rfl ?_
                  exact J124 _ _ ls 0 (by rw [decide_eq_true c32] <;> rfl) hP hS (lv_sub hl [0, 1, 2, 3, 4, 5, 6, 7, 8, 9, 10, 11, 12] rfl)
                · refine lv_iconst (v := 1) hx hb dL_note_204 rfl ?_
                  refine lv_goto (tgt := 209) hx hb dL_note_205 (by decide) ?_
                  exact J124 _ _ ls 1 (by rw [decide_eq_false c32] <;> rfl) hP hS (lv_sub hl [0, 1, 2, 3, 4, 5, 6, 7, 8, 9, 10, 11, 12] rfl)
    refine lv_if_eq (tgt := 122) hx hb dL_note_115 (by decide) (fun c19 => ?_) (fun c19 => ?_)
    · refine lv_iconst (v := 0) hx hb dL_note_122 rfl ?_
      exact J125 _ _ ls 0 (by rw [(bI_z c19)] <;> rfl) hP hS (lv_sub hl [0, 1, 2, 3, 4, 5, 6, 7, 8, 9, 10, 11, 12] rfl)
    · refine lv_iconst (v := 1) hx hb dL_note_118 rfl ?_
      refine lv_goto (tgt := 123) hx hb dL_note_119 (by decide) ?_
      exact J125 _ _ ls 1 (by rw [(bI_1 c19)] <;> rfl) hP hS (lv_sub hl [0, 1, 2, 3, 4, 5, 6, 7, 8, 9, 10, 11, 12] rfl)
