theorem inb_of {i : Int32} {n : Nat} (hn : n < 2 ^ 31) (h0 : ¬ i < 0) (h1 : ¬ Int32.ofNat n ≤ i) : inb i n = true := by
  have h2 : i.toInt < n := by
    have e : (Int32.ofNat n).toInt = n := nI_toInt hn
    have := Int32.not_le.mp h1
    rw [Int32.lt_iff_toInt_lt, e] at this
    exact this
  have h3 : 0 ≤ i.toInt := by
    have := Int32.not_lt.mp h0
    rw [Int32.le_iff_toInt_le] at this
    simpa using this
  have h4 : i.toNatClampNeg = i.toInt.toNat := rfl
  simp only [inb, h0, decide_false, Bool.false_or, Bool.not_eq_true', decide_eq_false_iff_not, h4]
  omega
theorem inb_lt {i : Int32} {n : Nat} (h : i < 0) : ¬ inb i n = true := by simp [inb, h]
theorem inb_ge {i : Int32} {n : Nat} (hn : n < 2 ^ 31) (h : Int32.ofNat n ≤ i) : ¬ inb i n = true := by
  have e : (Int32.ofNat n).toInt = n := nI_toInt hn
  rw [Int32.le_iff_toInt_le, e] at h
  have h4 : i.toNatClampNeg = i.toInt.toNat := rfl
  simp only [inb, Bool.not_eq_true', Bool.or_eq_false_iff, decide_eq_false_iff_not, h4]
  omega
set_option maxHeartbeats 4000000 in
set_option maxRecDepth 100000 in
theorem c_at {l : Launch} {G : hyG} (o n : Nat) (ho : o < 34 + exn G) (hn : n < 2 ^ 31) (he : ∀ f g, ent G o f g = arI G n f) (i : Int32) (T : hyT) : hyC l yX10_at (.code yX10_at cX10_at 2 (some .int)) 0 0 0 G [.ref (adr G o), .int i] T (.inr (some (.int (atf n ((pkM T o).1 o) i))), T) := by
  refine hy_of (by decide +kernel) (Nat.le_of_ble_eq_true rfl) ?_
  intro p e s m below meth c hx hb hml hown hts hr hlocks ht hX hP hS ls hl
  have hl : lv_has ls 2 [(0, .ref (adr G o)), (1, .int i)] := hl
  unfold atf
  refine lv_iload_n hx hb dX10_at_0 rfl (lv_at hl 1 rfl) ?_
  refine lv_if_lt (tgt := 16) hx hb dX10_at_1 (by decide) (fun c1 => ?_) (fun c1 => ?_)
  · refine lv_iconst (v := 0) hx hb dX10_at_16 rfl ?_
    exact hy_iret (T := T) hx hb hr hlocks hP hS (Nat.zero_le _) (Nat.zero_le _) (by rw [if_neg (inb_lt c1)]) dX10_at_17
  · refine lv_iload_n hx hb dX10_at_4 rfl (lv_at hl 1 rfl) ?_
    refine lv_aload_n hx hb dX10_at_5 rfl (lv_at hl 0 rfl) ?_
    refine hy_alen (T := T) hx hb hX hP o n ho he rfl dX10_at_6 ?_
    refine lv_icmp_ge (tgt := 16) hx hb dX10_at_7 (by decide) (fun c2 => ?_) (fun c2 => ?_)
    · refine lv_iconst (v := 0) hx hb dX10_at_16 rfl ?_
      exact hy_iret (T := T) hx hb hr hlocks hP hS (Nat.zero_le _) (Nat.zero_le _) (by rw [if_neg (inb_ge hn c2)]) dX10_at_17
    · refine lv_aload_n hx hb dX10_at_10 rfl (lv_at hl 0 rfl) ?_
      refine lv_iload_n hx hb dX10_at_11 rfl (lv_at hl 1 rfl) ?_
      refine hy_iald (T := T) hx hb hX hP o n _ ho (he _ _) (inb_of hn c1 c2) dX10_at_12 ?_
      refine lv_goto (tgt := 17) hx hb dX10_at_13 (by decide) ?_
      exact hy_iret (T := T) hx hb hr hlocks hP hS (Nat.zero_le _) (Nat.zero_le _) (by rw [if_pos (inb_of hn c1 c2)]) dX10_at_17
set_option maxHeartbeats 4000000 in
set_option maxRecDepth 100000 in
theorem c_atx {l : Launch} {G : hyG} (o : Nat) (ho : o < 4) (i : Int32) (T : hyT) : hyC l yX10_at (.code yX10_at cX10_at 2 (some .int)) 0 0 0 G [.ref (exa G o), .int i] T (.inr (some (.int (atf (hyKl o) (hyKf o) i))), T) := by
  have hn : hyKl o < 2 ^ 31 := by
    match o, ho with
    | 0, _ => decide
    | 1, _ => decide
    | 2, _ => decide
    | 3, _ => decide
  refine hy_of (by decide +kernel) (Nat.le_of_ble_eq_true rfl) ?_
  intro p e s m below meth c hx hb hml hown hts hr hlocks ht hX hP hS ls hl
  have hl : lv_has ls 2 [(0, .ref (exa G o)), (1, .int i)] := hl
  unfold atf
  refine lv_iload_n hx hb dX10_at_0 rfl (lv_at hl 1 rfl) ?_
  refine lv_if_lt (tgt := 16) hx hb dX10_at_1 (by decide) (fun c1 => ?_) (fun c1 => ?_)
  · refine lv_iconst (v := 0) hx hb dX10_at_16 rfl ?_
    exact hy_iret (T := T) hx hb hr hlocks hP hS (Nat.zero_le _) (Nat.zero_le _) (by rw [if_neg (inb_lt c1)]) dX10_at_17
  · refine lv_iload_n hx hb dX10_at_4 rfl (lv_at hl 1 rfl) ?_
    refine lv_aload_n hx hb dX10_at_5 rfl (lv_at hl 0 rfl) ?_
    refine hy_xlen hx hb hX hS o ho rfl dX10_at_6 ?_
    refine lv_icmp_ge (tgt := 16) hx hb dX10_at_7 (by decide) (fun c2 => ?_) (fun c2 => ?_)
    · refine lv_iconst (v := 0) hx hb dX10_at_16 rfl ?_
      exact hy_iret (T := T) hx hb hr hlocks hP hS (Nat.zero_le _) (Nat.zero_le _) (by rw [if_neg (inb_ge hn c2)]) dX10_at_17
    · refine lv_aload_n hx hb dX10_at_10 rfl (lv_at hl 0 rfl) ?_
      refine lv_iload_n hx hb dX10_at_11 rfl (lv_at hl 1 rfl) ?_
      refine hy_xald hx hb hX hS o ho (inb_of hn c1 c2) dX10_at_12 ?_
      refine lv_goto (tgt := 17) hx hb dX10_at_13 (by decide) ?_
      exact hy_iret (T := T) hx hb hr hlocks hP hS (Nat.zero_le _) (Nat.zero_le _) (by rw [if_pos (inb_of hn c1 c2)]) dX10_at_17
set_option maxHeartbeats 4000000 in
set_option maxRecDepth 100000 in
theorem c_put {l : Launch} {G : hyG} (Mr Mo : hyM) (o n : Nat) (ho : o < 30) (hn : n < 2 ^ 31) (he : ∀ f g, ent G o f g = arI G n f) (i x : Int32) (M : hyM) : hyC l yX10_put (.code yX10_put cX10_put 3 none) 0 0 0 G [.ref (adr G o), .int i, .int x] (M, Mr, Mo) (.inr none, (putf M o n i x, Mr, Mo)) := by
  have ho2 : o < 34 + exn G := by omega
  have hT : wTI (M, Mr, Mo) o i.toNatClampNeg x = (wI M o i.toNatClampNeg x, Mr, Mo) := by simp [wTI, ho]
  refine hy_of (by decide +kernel) (Nat.le_of_ble_eq_true rfl) ?_
  intro p e s m below meth c hx hb hml hown hts hr hlocks ht hX hP hS ls hl
  have hl : lv_has ls 3 [(0, .ref (adr G o)), (1, .int i), (2, .int x)] := hl
  unfold putf
  refine lv_iload_n hx hb dX10_put_0 rfl (lv_at hl 1 rfl) ?_
  refine lv_if_lt (tgt := 14) hx hb dX10_put_1 (by decide) (fun c1 => ?_) (fun c1 => ?_)
  · exact hy_vret (T := (M, Mr, Mo)) hx hb hr hlocks hP hS (Nat.zero_le _) (Nat.zero_le _) (by rw [if_neg (inb_lt c1)]) dX10_put_14
  · refine lv_iload_n hx hb dX10_put_4 rfl (lv_at hl 1 rfl) ?_
    refine lv_aload_n hx hb dX10_put_5 rfl (lv_at hl 0 rfl) ?_
    refine hy_alen (T := (M, Mr, Mo)) hx hb hX hP o n ho2 he rfl dX10_put_6 ?_
    refine lv_icmp_ge (tgt := 14) hx hb dX10_put_7 (by decide) (fun c2 => ?_) (fun c2 => ?_)
    · exact hy_vret (T := (M, Mr, Mo)) hx hb hr hlocks hP hS (Nat.zero_le _) (Nat.zero_le _) (by rw [if_neg (inb_ge hn c2)]) dX10_put_14
    · refine lv_aload_n hx hb dX10_put_10 rfl (lv_at hl 0 rfl) ?_
      refine lv_iload_n hx hb dX10_put_11 rfl (lv_at hl 1 rfl) ?_
      refine lv_iload_n hx hb dX10_put_12 rfl (lv_at hl 2 rfl) ?_
      refine hy_iast (T := (M, Mr, Mo)) (T2 := (wI M o i.toNatClampNeg x, Mr, Mo)) hx hb hX hP hS o n ho2 he (inb_of hn c1 c2) hT dX10_put_13 (fun H locs hP hS => ?_)
      exact hy_vret (T := (wI M o i.toNatClampNeg x, Mr, Mo)) hx hb hr hlocks hP hS (Nat.zero_le _) (Nat.zero_le _) (by rw [if_pos (inb_of hn c1 c2)]) dX10_put_14
