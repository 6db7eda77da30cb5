/-! The law's loop. -/
theorem lt6z : ∀ L : Fin 6, n3 L.val - 6 < 0 := by decide +kernel
theorem lt6 {L k : Nat} (hL : L ≤ 3072) (hk : k ≤ 4000) : (n3 L - 6 < n3 k) ↔ L < k + 6 := by
  by_cases h : L < 6
  · have h1 := lt6z ⟨L, h⟩
    have h2 : (0 : Int32) ≤ n3 k := by rw [l_0, n3_le (by decide) (by omega)]; exact Nat.zero_le _
    have h3 : n3 L - 6 < n3 k := by
      rw [Int32.lt_iff_toInt_lt] at h1 ⊢
      rw [Int32.le_iff_toInt_le] at h2
      exact Int.lt_of_lt_of_le h1 h2
    exact ⟨fun _ => by omega, fun _ => h3⟩
  · rw [show (6 : Int32) = n3 6 from rfl, n3_sub (by omega), n3_lt (by omega) (by omega)]
    omega
theorem and31 (x : Int32) : ∃ k, k < 32 ∧ x &&& 31 = n3 k := by
  refine ⟨(x &&& 31).toUInt32.toNat, ?_, ?_⟩
  · have : (x &&& 31).toUInt32.toNat = x.toUInt32.toNat &&& 31 := by
      show (x.toUInt32 &&& (31 : Int32).toUInt32).toNat = _
      rw [UInt32.toNat_and]
      rfl
    rw [this]
    exact Nat.lt_succ_of_le Nat.and_le_right
  · have h : UInt32.ofNat (x &&& 31).toUInt32.toNat = (x &&& 31).toUInt32 := UInt32.ofNat_toNat
    exact (congrArg UInt32.toInt32 h).symm
set_option maxHeartbeats 4000000 in
set_option maxRecDepth 100000 in
theorem law_loop {p : Program} {l : Launch} {e : Env} {s : State} {m : MethodId} {below : List Frame} {meth : Method} {c : Code} {G : hyG} {b L : Nat} {xs : Nat → Int32} (hL : L ≤ 3072) (CX : lcx p l s m c G b L xs) (hr : meth.sig.returnType = ret) (hlocks : meth.locks = false) (hA : ∀ q : Nat, hyA G q → s.heap.size ≤ q) :
    ∀ (n j : Nat) (T : hyT) (H : Heap) (locs : List Loc) (cells slots : Nat) (ls : Array Slot), 6 * j ≤ L → L < 6 * j + 6 * n → cells ≤ 52 + j → slots ≤ 10738 + 6 * j → INV T → va_P G.1 vwCl (wld G T) H → va_S (hyA G) s.heap H locs → lv_has ls 9 (lvb b G (n3 (6 * j))) →
      W p l e room_1 s m #[Value.ref b] below meth c H locs cells slots (lw_Z below #[Value.ref b] s) (F0 m 23 ls []) := by
  intro n
  induction n with
  | zero => intro j T H locs cells slots ls h1 h2; exact absurd h2 (by omega)
  | succ n ih =>
    intro j T H locs cells slots ls h1 h2 h3 h4 hI hP hS hl
    obtain ⟨hx, hb, hml, hown, hts, hX, hN, hXs, hbl, hbA, hlt⟩ := id CX
    refine lv_iload hx hb dL_law_23 (lv_at hl 0 rfl) ?_
    refine lv_aload_n hx hb dL_law_25 rfl (lv_at hl 4 rfl) ?_
    refine va_slen hx hb hXs hbl hbA hS dL_law_26 ?_
    refine lv_bipush (v := 6) hx hb dL_law_27 rfl ?_
    refine lv_isub hx hb dL_law_29 ?_
    refine lv_icmp_gt (tgt := 2005) hx hb dL_law_30 (by decide) (fun cc => ?_) (fun cc => ?_)
    · refine lv_iconst (v := 1) hx hb dL_law_2005 rfl ?_
      refine va_forget (fun q hq => hA _ (hS.2.2 q hq)) ?_
      refine W.widen (k := 1087) (n := 18996) (by omega) (by omega) ?_
      refine W.base ?_
      exact lw_ret (Drawn.sameBut.refl s.drawn lw_cs) hx hb hr hlocks dL_law_2006
    · have h6 : 6 * j + 6 ≤ L := by
        rcases Nat.lt_or_ge L (6 * j + 6) with q | q
        · exact absurd ((lt6 hL (by omega)).mpr q) cc
        · exact q
      have vin : ∀ k, k < 6 → vp_in (n3 (6 * j + k)) L := fun k hk => inb_vp (by rw [inb_n3 (by omega)]; exact decide_eq_true (by omega))
      have hv : liv (n3 (6 * j)) L := by
        refine ⟨?_, ?_, ?_, ?_, ?_⟩
        · rw [show (1 : Int32) = n3 1 from rfl, n3_add]; exact vin 1 (by decide)
        · rw [show (2 : Int32) = n3 2 from rfl, n3_add]; exact vin 2 (by decide)
        · rw [show (3 : Int32) = n3 3 from rfl, n3_add]; exact vin 3 (by decide)
        · rw [show (4 : Int32) = n3 4 from rfl, n3_add]; exact vin 4 (by decide)
        · rw [show (5 : Int32) = n3 5 from rfl, n3_add]; exact vin 5 (by decide)
      have go : ∀ (cells2 slots2 : Nat), cells2 ≤ 52 + (j + 1) → slots2 ≤ 10738 + 6 * (j + 1) → ∀ (T2 : hyT) (H2 : Heap) (locs2 : List Loc) (ls2 : Array Slot), INV T2 → va_P G.1 vwCl (wld G T2) H2 → va_S (hyA G) s.heap H2 locs2 → lv_has ls2 9 (lvb b G (n3 (6 * j))) → W p l e room_1 s m #[Value.ref b] below meth c H2 locs2 cells2 slots2 (lw_Z below #[Value.ref b] s) (F0 m 1999 ls2 []) := by
        intro cells2 slots2 g1 g2 T2 H2 locs2 ls2 hI2 hP2 hS2 hl2
        refine lv_iinc (v := n3 (6 * (j + 1))) (lv' := lvb b G (n3 (6 * (j + 1)))) hx hb dL_law_1999 hl2 (k := 0) rfl (by rw [show Int32.ofInt 6 = n3 6 from rfl, n3_add, Nat.mul_succ]) (by decide) rfl (fun ls hl => ?_)
        refine lv_goto (tgt := 23) hx hb dL_law_2002 (by decide) ?_
        exact ih (j + 1) T2 H2 locs2 cells2 slots2 ls (by omega) (by omega) g1 g2 hI2 hP2 hS2 hl
      have hroom : cells + 1 ≤ room_1.cells ∧ slots + 6 * 1 ≤ room_1.slots := by
        show cells + 1 ≤ 1087 ∧ slots + 6 * 1 ≤ 18996
        omega
      have next : lnx p l e s m below meth c G b (n3 (6 * j)) cells slots (lw_Z below #[Value.ref b] s) := go (cells + 1) (slots + 6 * 1) (by omega) (by omega)
      refine lv_aload_n hx hb dL_law_33 rfl (lv_at hl 4 rfl) ?_
      refine lv_iload hx hb dL_law_34 (lv_at hl 0 rfl) ?_
      refine va_sld hx hb hXs hbl hbA hS (vin 0 (by decide)) dL_law_36 ?_
      refine lv_bipush (v := 31) hx hb dL_law_37 rfl ?_
      refine lv_iand hx hb dL_law_39 ?_
      obtain ⟨k, hk, ek⟩ := and31 (xs (n3 (6 * j)).toNatClampNeg)
      rw [ek]
      rcases (show k = 0 ∨ k = 1 ∨ k = 2 ∨ k = 3 ∨ k = 4 ∨ k = 5 ∨ k = 6 ∨ k = 7 ∨ k = 8 ∨ k = 9 ∨ k = 10 ∨ k = 11 ∨ k = 12 ∨ k = 13 ∨ k = 14 ∨ k = 15 ∨ k = 16 ∨ k = 17 ∨ k = 18 ∨ k = 19 ∨ k = 20 ∨ k = 21 ∨ k = 22 ∨ k = 23 ∨ k = 24 ∨ k = 25 ∨ k = 26 ∨ k = 27 ∨ k = 28 ∨ k = 29 ∨ k = 30 ∨ k = 31 by omega) with rfl | rfl | rfl | rfl | rfl | rfl | rfl | rfl | rfl | rfl | rfl | rfl | rfl | rfl | rfl | rfl | rfl | rfl | rfl | rfl | rfl | rfl | rfl | rfl | rfl | rfl | rfl | rfl | rfl | rfl | rfl | rfl
      · exact lv_tableIn (off := 140) (tgt := 180) hx hb dL_law_40 (by decide) (by decide) (by decide) (by decide) (lc_0 CX hv hI hP hS hl hroom next)
      · exact lv_tableIn (off := 196) (tgt := 236) hx hb dL_law_40 (by decide) (by decide) (by decide) (by decide) (lc_1 CX hv hI hP hS hl hroom next)
      · exact lv_tableIn (off := 300) (tgt := 340) hx hb dL_law_40 (by decide) (by decide) (by decide) (by decide) (lc_2 CX hv hI hP hS hl hroom next)
      · exact lv_tableIn (off := 344) (tgt := 384) hx hb dL_law_40 (by decide) (by decide) (by decide) (by decide) (lc_3 CX hv hI hP hS hl hroom next)
      · exact lv_tableIn (off := 424) (tgt := 464) hx hb dL_law_40 (by decide) (by decide) (by decide) (by decide) (lc_4 CX hv hI hP hS hl hroom next)
      · exact lv_tableIn (off := 536) (tgt := 576) hx hb dL_law_40 (by decide) (by decide) (by decide) (by decide) (lc_5 CX hv hI hP hS hl hroom next)
      · exact lv_tableIn (off := 604) (tgt := 644) hx hb dL_law_40 (by decide) (by decide) (by decide) (by decide) (lc_6 CX hv hI hP hS hl hroom next)
      · exact lv_tableIn (off := 684) (tgt := 724) hx hb dL_law_40 (by decide) (by decide) (by decide) (by decide) (lc_7 CX hv hI hP hS hl hroom next)
      · exact lv_tableIn (off := 697) (tgt := 737) hx hb dL_law_40 (by decide) (by decide) (by decide) (by decide) (lc_8 CX hv hI hP hS hl hroom next)
      · exact lv_tableIn (off := 753) (tgt := 793) hx hb dL_law_40 (by decide) (by decide) (by decide) (by decide) (lc_9 CX hv hI hP hS hl hroom next)
      · exact lv_tableIn (off := 809) (tgt := 849) hx hb dL_law_40 (by decide) (by decide) (by decide) (by decide) (lc_10 CX hv hI hP hS hl hroom next)
      · exact lv_tableIn (off := 865) (tgt := 905) hx hb dL_law_40 (by decide) (by decide) (by decide) (by decide) (lc_11 CX hv hI hP hS hl hroom next)
      · exact lv_tableIn (off := 878) (tgt := 918) hx hb dL_law_40 (by decide) (by decide) (by decide) (by decide) (lc_12 CX hv hI hP hS hl hroom next)
      · exact lv_tableIn (off := 919) (tgt := 959) hx hb dL_law_40 (by decide) (by decide) (by decide) (by decide) (lc_13 CX hv hI hP hS hl hroom next)
      · exact lv_tableIn (off := 987) (tgt := 1027) hx hb dL_law_40 (by decide) (by decide) (by decide) (by decide) (lc_14 CX hv hI hP hS hl hroom next)
      · exact lv_tableIn (off := 1043) (tgt := 1083) hx hb dL_law_40 (by decide) (by decide) (by decide) (by decide) (lc_15 CX hv hI hP hS hl hroom next)
      · exact lv_tableIn (off := 1087) (tgt := 1127) hx hb dL_law_40 (by decide) (by decide) (by decide) (by decide) (lc_16 CX hv hI hP hS hl hroom next)
      · exact lv_tableIn (off := 1143) (tgt := 1183) hx hb dL_law_40 (by decide) (by decide) (by decide) (by decide) (lc_17 CX hv hI hP hS hl hroom next)
      · exact lv_tableIn (off := 1211) (tgt := 1251) hx hb dL_law_40 (by decide) (by decide) (by decide) (by decide) (lc_18 CX hv hI hP hS hl hroom next)
      · exact lv_tableIn (off := 1291) (tgt := 1331) hx hb dL_law_40 (by decide) (by decide) (by decide) (by decide) (lc_19 CX hv hI hP hS hl hroom next)
      · exact lv_tableIn (off := 1359) (tgt := 1399) hx hb dL_law_40 (by decide) (by decide) (by decide) (by decide) (lc_20 CX hv hI hP hS hl hroom next)
      · exact lv_tableIn (off := 1427) (tgt := 1467) hx hb dL_law_40 (by decide) (by decide) (by decide) (by decide) (lc_21 CX hv hI hP hS hl hroom next)
      · exact lv_tableIn (off := 1483) (tgt := 1523) hx hb dL_law_40 (by decide) (by decide) (by decide) (by decide) (lc_22 CX hv hI hP hS hl hroom next)
      · exact lv_tableIn (off := 1539) (tgt := 1579) hx hb dL_law_40 (by decide) (by decide) (by decide) (by decide) (lc_23 CX hv hI hP hS hl hroom next)
      · exact lv_tableIn (off := 1619) (tgt := 1659) hx hb dL_law_40 (by decide) (by decide) (by decide) (by decide) (lc_24 CX hv hI hP hS hl hroom next)
      · exact lv_tableIn (off := 1711) (tgt := 1751) hx hb dL_law_40 (by decide) (by decide) (by decide) (by decide) (lc_25 CX hv hI hP hS hl hroom next)
      · exact lv_tableIn (off := 1767) (tgt := 1807) hx hb dL_law_40 (by decide) (by decide) (by decide) (by decide) (lc_26 CX hv hI hP hS hl hroom next)
      · exact lv_tableIn (off := 1780) (tgt := 1820) hx hb dL_law_40 (by decide) (by decide) (by decide) (by decide) (lc_27 CX hv hI hP hS hl hroom next)
      · exact lv_tableIn (off := 1848) (tgt := 1888) hx hb dL_law_40 (by decide) (by decide) (by decide) (by decide) (lc_28 CX hv hI hP hS hl hroom next)
      · exact lv_tableIn (off := 1904) (tgt := 1944) hx hb dL_law_40 (by decide) (by decide) (by decide) (by decide) (lc_29 CX hv hI hP hS hl hroom next)
      · exact lv_tableIn (off := 1945) (tgt := 1985) hx hb dL_law_40 (by decide) (by decide) (by decide) (by decide) (lc_30 CX hv hI hP hS hl hroom next)
      · exact lv_tableOut (tgt := 1999) hx hb dL_law_40 (Or.inr (by decide)) (by decide) (go cells slots (by omega) (by omega) T H locs ls hI hP hS hl)
