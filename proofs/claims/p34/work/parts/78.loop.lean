/-! The law's own code: its first lines behind what it makes, and its loop. -/
def lcx (p : Program) (l : Launch) (s : State) (m : MethodId) (c : Code) (G : hyG) (b L : Nat) : Prop :=
  p.tables.exec = Jvm.exec ∧ c.code = cL_law ∧ c.maxLocals = 9 ∧ s.vm.findClass RL = some m.cls ∧ (∀ w ∈ hyGood, w.before #[Value.ref b] s = true) ∧ hyS G s ∧ l.stackTraces = false ∧ exn G = 0 ∧ scn G = L
abbrev lvb (G : hyG) : List (Nat × Value) := [(5, .ref (adr G 33)), (4, .ref (adr G 32)), (3, .ref (adr G 31)), (2, .ref (adr G 30)), (1, .ref (adr G 0)), (0, .ref (scb G))]
theorem scv_some {G : hyG} (hL : scn G ≤ 260) {k : Nat} (hk : k < 1000) : ∃ v, scv G (n3 k) = some v := by
  unfold scv
  by_cases c : n3 k < Int32.ofNat (scn G)
  · rw [if_pos c]
    have c2 : k < scn G := by
      have : n3 k < n3 (scn G) := c
      rw [n3_lt (by omega) (by omega)] at this
      exact this
    exact ⟨_, ldE_in _ c2 (by omega)⟩
  · rw [if_neg c]
    exact ⟨_, rfl⟩
theorem k_3 {a : Nat} (ha : a < 2147483648) : jrm (n3 a) 3 = some (n3 (a % 3)) := jrm_n3 ha (b := 3) (by decide) (by decide)
set_option maxHeartbeats 4000000 in
set_option maxRecDepth 100000 in
theorem law_loop {p : Program} {l : Launch} {e : Env} {s : State} {m : MethodId} {below : List Frame} {meth : Method} {c : Code} {G : hyG} {b L : Nat} (hL : L ≤ 260) (CX : lcx p l s m c G b L) (hr : meth.sig.returnType = ret) (hlocks : meth.locks = false) (hA : ∀ q : Nat, hyA G q → s.heap.size ≤ q) :
    ∀ (n j : Nat) (C M : hyM) (H : Heap) (locs : List Loc) (cells slots : Nat) (ls : Array Slot), j + n = 30 → 1 ≤ j → cells ≤ 100 + 13 * j → slots ≤ 6000 + 78 * j → AO C M → va_P G.1 vwCl (wld G (C, M, hZM)) H → va_S (hyA G) s.heap H locs → lv_has ls 9 ((6, .int (n3 j)) :: lvb G) →
      W p l e room_1 s m #[Value.ref b] below meth c H locs cells slots (lw_Z below #[Value.ref b] s) (F0 m 103 ls []) := by
  obtain ⟨hx, hb, hml, hown, hts, hX, hlt, hex, hsn⟩ := id CX
  intro n
  induction n with
  | zero =>
    intro j C M H locs cells slots ls h1 h2 h3 h4 hI hP hS hl
    have hj : j = 30 := by omega
    subst hj
    have hl : lv_has ls 9 [(6, .int (n3 30)), (5, .ref (adr G 33)), (4, .ref (adr G 32)), (3, .ref (adr G 31)), (2, .ref (adr G 30)), (1, .ref (adr G 0)), (0, .ref (scb G))] := hl
    refine lv_iload hx hb dL_law_103 (lv_at hl 0 rfl) ?_
    refine lv_bipush (v := 30) hx hb dL_law_105 rfl ?_
    refine lv_icmp_ge (tgt := 208) hx hb dL_law_107 (by decide) (fun _ => ?_) (fun z => absurd (show (30 : Int32) ≤ n3 30 by decide) z)
    refine lv_iconst (v := 1) hx hb dL_law_208 rfl ?_
    refine va_forget (fun q hq => hA _ (hS.2.2 q hq)) ?_
    refine W.widen (k := 600086) (n := 7301442) (by omega) (by omega) ?_
    refine W.base ?_
    exact lw_ret (Drawn.sameBut.refl s.drawn lw_cs) hx hb hr hlocks dL_law_209
  | succ n ih =>
    intro j C M H locs cells slots ls h1 h2 h3 h4 hI hP hS hl
    have hl : lv_has ls 9 [(6, .int (n3 j)), (5, .ref (adr G 33)), (4, .ref (adr G 32)), (3, .ref (adr G 31)), (2, .ref (adr G 30)), (1, .ref (adr G 0)), (0, .ref (scb G))] := hl
    have hroom : ∀ k, k ≤ 13 → cells + k ≤ room_1.cells ∧ slots + 6 * k ≤ room_1.slots := fun k hk => by
      show cells + k ≤ 600086 ∧ slots + 6 * k ≤ 7301442
      omega
    obtain ⟨x, ex⟩ := scv_some (G := G) (by omega) (show 2 * j < 1000 by omega)
    obtain ⟨y, ey⟩ := scv_some (G := G) (by omega) (show 2 * j + 1 < 1000 by omega)
    have e2 : (2 : Int32) * n3 j = n3 (2 * j) := by rw [show (2 : Int32) = n3 2 from rfl, n3_mul]
    refine lv_iload hx hb dL_law_103 (lv_at hl 0 rfl) ?_
    refine lv_bipush (v := 30) hx hb dL_law_105 rfl ?_
    refine lv_icmp_ge (tgt := 208) hx hb dL_law_107 (by decide) (fun z => absurd z (show ¬ (30 : Int32) ≤ n3 j by rw [show (30 : Int32) = n3 30 from rfl, n3_le (by omega) (by omega)]; omega)) (fun _ => ?_)
    refine lv_aload_n hx hb dL_law_110 rfl (lv_at hl 6 rfl) ?_
    refine lv_iconst (v := 2) hx hb dL_law_111 rfl ?_
    refine lv_iload hx hb dL_law_112 (lv_at hl 0 rfl) ?_
    refine lv_imul hx hb dL_law_114 ?_
    rw [e2]
    refine hy_ret (hy_rS0 (T := (C, M, hZM)) (v := some (.int x)) (T2 := (C, M, hZM)) (As := [.ref (scb G), .int (n3 (2 * j))]) (rest := []) (n := 0) hx hb hml hown hts hX hP hS hl (c_La_cell (n3 (2 * j)) (C, M, hZM) ex) m_La_cell q_637 rfl rfl (Nat.le_of_ble_eq_true rfl) dL_law_115 ⟨Nat.le_of_ble_eq_true rfl, Nat.le_of_ble_eq_true rfl⟩ (hroom 0 (by decide))) hS (fun H locs hP hS => ?_)
    refine lv_ldc (v := 2147483647) hx hb hown (hts _ q_1090) dL_law_118 ?_
    refine lv_iand hx hb dL_law_120 ?_
    generalize x &&& 2147483647 = x7
    refine lv_istore (lv' := [(7, .int x7), (6, .int (n3 j)), (5, .ref (adr G 33)), (4, .ref (adr G 32)), (3, .ref (adr G 31)), (2, .ref (adr G 30)), (1, .ref (adr G 0)), (0, .ref (scb G))]) hx hb dL_law_121 hl (by decide) rfl (fun ls hl => ?_)
    refine lv_aload_n hx hb dL_law_123 rfl (lv_at hl 7 rfl) ?_
    refine lv_iconst (v := 2) hx hb dL_law_124 rfl ?_
    refine lv_iload hx hb dL_law_125 (lv_at hl 1 rfl) ?_
    refine lv_imul hx hb dL_law_127 ?_
    refine lv_iconst (v := 1) hx hb dL_law_128 rfl ?_
    refine lv_iadd hx hb dL_law_129 ?_
    rw [e2, n3_s]
    refine hy_ret (hy_rS0 (T := (C, M, hZM)) (v := some (.int y)) (T2 := (C, M, hZM)) (As := [.ref (scb G), .int (n3 (2 * j + 1))]) (rest := []) (n := 0) hx hb hml hown hts hX hP hS hl (c_La_cell (n3 (2 * j + 1)) (C, M, hZM) ey) m_La_cell q_637 rfl rfl (Nat.le_of_ble_eq_true rfl) dL_law_130 ⟨Nat.le_of_ble_eq_true rfl, Nat.le_of_ble_eq_true rfl⟩ (hroom 0 (by decide))) hS (fun H locs hP hS => ?_)
    refine lv_ldc (v := 2147483647) hx hb hown (hts _ q_1090) dL_law_133 ?_
    refine lv_iand hx hb dL_law_135 ?_
    generalize y &&& 2147483647 = y8
    refine lv_istore (lv' := [(8, .int y8), (7, .int x7), (6, .int (n3 j)), (5, .ref (adr G 33)), (4, .ref (adr G 32)), (3, .ref (adr G 31)), (2, .ref (adr G 30)), (1, .ref (adr G 0)), (0, .ref (scb G))]) hx hb dL_law_136 hl (by decide) rfl (fun ls hl => ?_)
    refine lv_aload_n hx hb dL_law_138 rfl (lv_at hl 7 rfl) ?_
    refine lv_iload hx hb dL_law_139 (lv_at hl 2 rfl) ?_
    refine lv_bipush (v := 6) hx hb dL_law_141 rfl ?_
    have next : ∀ (C2 M2 : hyM) (H2 : Heap) (locs2 : List Loc) (cells2 slots2 : Nat), cells2 ≤ cells + 13 → slots2 ≤ slots + 78 → AO C2 M2 → va_P G.1 vwCl (wld G (C2, M2, hZM)) H2 → va_S (hyA G) s.heap H2 locs2 → W p l e room_1 s m #[Value.ref b] below meth c H2 locs2 cells2 slots2 (lw_Z below #[Value.ref b] s) (F0 m 202 ls []) := by
      intro C2 M2 H2 locs2 cells2 slots2 g1 g2 hI2 hP2 hS2
      have hl2 : lv_has ls 9 ((6, .int (n3 j)) :: lvb G) := lv_sub hl [2, 3, 4, 5, 6, 7, 8] rfl
      refine lv_iinc (v := n3 (j + 1)) (lv' := (6, .int (n3 (j + 1))) :: lvb G) hx hb dL_law_202 hl2 (k := 0) rfl (by rw [show Int32.ofInt 1 = n3 1 from rfl, n3_add]) (by decide) rfl (fun ls hl => ?_)
      refine lv_goto (tgt := 103) hx hb dL_law_205 (by decide) ?_
      exact ih (j + 1) C2 M2 H2 locs2 cells2 slots2 ls (by omega) (by omega) (by omega) (by omega) hI2 hP2 hS2 hl
    have J : ∀ (a : Int32) (H : Heap) (locs : List Loc), va_P G.1 vwCl (wld G (C, M, hZM)) H → va_S (hyA G) s.heap H locs → W p l e room_1 s m #[Value.ref b] below meth c H locs cells slots (lw_Z below #[Value.ref b] s) (F0 m 160 ls [.int a, .ref (adr G 0)]) := by
      intro a H locs hP hS
      obtain ⟨C1, M1, e1, hI1⟩ := act_AO hI a x7 y8
      refine lv_iload hx hb dL_law_160 (lv_at hl 1 rfl) ?_
      refine lv_iload hx hb dL_law_162 (lv_at hl 0 rfl) ?_
      refine lv_aload_n hx hb dL_law_164 rfl (lv_at hl 6 rfl) ?_
      refine lv_aload_n hx hb dL_law_165 rfl (lv_at hl 5 rfl) ?_
      refine lv_aload hx hb dL_law_166 (lv_at hl 4 rfl) ?_
      refine lv_aload hx hb dL_law_168 (lv_at hl 3 rfl) ?_
      refine hy_ret (hy_rS0 (T := (C, M, hZM)) (v := some (.int 1)) (T2 := (C1, M1, hZM)) (As := [.ref (adr G 0), .int a, .int x7, .int y8, .ref (adr G 30), .ref (adr G 31), .ref (adr G 32), .ref (adr G 33)]) (rest := []) (n := 5) hx hb hml hown hts hX hP hS hl (c_La_act hlt hex hZM a x7 y8 C M (res := (true, C1, M1)) e1) m_La_act q_978 rfl rfl (Nat.le_of_ble_eq_true rfl) dL_law_170 ⟨Nat.le_of_ble_eq_true rfl, Nat.le_of_ble_eq_true rfl⟩ (hroom 5 (by decide))) hS (fun H locs hP hS => ?_)
      refine lv_if_eq (tgt := 200) hx hb dL_law_173 (by decide) (fun z => absurd z (by decide)) (fun _ => ?_)
      refine lv_iload hx hb dL_law_176 (lv_at hl 2 rfl) ?_
      refine lv_iconst (v := 3) hx hb dL_law_178 rfl ?_
      obtain ⟨nv, hv⟩ := jrm_some (k_3 (a := j) (by omega))
      refine lv_irem hx hb dL_law_179 nv ?_
      rw [hv]
      refine lv_if_ne (tgt := 202) hx hb dL_law_180 (by decide) (fun _ => ?_) (fun _ => ?_)
      · exact next C1 M1 H locs _ _ (by omega) (by omega) hI1 hP hS
      · refine lv_aload_n hx hb dL_law_183 rfl (lv_at hl 7 rfl) ?_
        refine lv_iload hx hb dL_law_184 (lv_at hl 0 rfl) ?_
        refine lv_iconst (v := 2) hx hb dL_law_186 rfl ?_
        refine lv_ishr hx hb dL_law_187 ?_
        refine lv_aload_n hx hb dL_law_188 rfl (lv_at hl 6 rfl) ?_
        refine lv_aload_n hx hb dL_law_189 rfl (lv_at hl 5 rfl) ?_
        refine lv_aload hx hb dL_law_190 (lv_at hl 4 rfl) ?_
        refine lv_aload hx hb dL_law_192 (lv_at hl 3 rfl) ?_
        obtain ⟨C2, M2, e3, hI2⟩ := told_AO hI1 (y8 >>> (2 &&& 31))
        refine hy_ret (hy_rS0 (T := (C1, M1, hZM)) (v := some (.int 1)) (T2 := (C2, M2, hZM)) (As := [.ref (adr G 0), .int (y8 >>> (2 &&& 31)), .ref (adr G 30), .ref (adr G 31), .ref (adr G 32), .ref (adr G 33)]) (rest := []) (n := 8) hx hb hml hown hts hX hP hS hl (c_La_told hlt hex hZM (y8 >>> (2 &&& 31)) C1 M1 (res := (true, C2, M2)) e3) m_La_told q_644 rfl rfl (Nat.le_of_ble_eq_true rfl) dL_law_194 ⟨Nat.le_of_ble_eq_true rfl, Nat.le_of_ble_eq_true rfl⟩ (by have := hroom 13 (by decide); exact ⟨by omega, by omega⟩)) hS (fun H locs hP hS => ?_)
        refine lv_if_ne (tgt := 202) hx hb dL_law_197 (by decide) (fun _ => ?_) (fun z => absurd z (by decide))
        exact next C2 M2 H locs _ _ (by omega) (by omega) hI2 hP hS
    refine lv_icmp_ge (tgt := 150) hx hb dL_law_143 (by decide) (fun _ => ?_) (fun _ => ?_)
    · refine lv_iload hx hb dL_law_150 (lv_at hl 1 rfl) ?_
      refine lv_bipush (v := 13) hx hb dL_law_152 rfl ?_
      refine lv_ishr hx hb dL_law_154 ?_
      refine lv_bipush (v := 21) hx hb dL_law_155 rfl ?_
      obtain ⟨r, hr2, er⟩ := at_ok (x7 >>> (13 &&& 31)) (m := 21) (by decide) (by decide) M
      have er : La_at (x7 >>> (13 &&& 31)) 21 M = some (n3 r) := er
      refine hy_ret (hy_rS0 (T := (C, M, hZM)) (v := some (.int (n3 r))) (T2 := (C, M, hZM)) (As := [.int (x7 >>> (13 &&& 31)), .int 21]) (rest := [.ref (adr G 0)]) (n := 0) hx hb hml hown hts hX hP hS hl (c_La_at C hZM (x7 >>> (13 &&& 31)) 21 M er) m_La_at q_641 rfl rfl (Nat.le_of_ble_eq_true rfl) dL_law_157 ⟨Nat.le_of_ble_eq_true rfl, Nat.le_of_ble_eq_true rfl⟩ (hroom 0 (by decide))) hS (fun H locs hP hS => ?_)
      exact J (n3 r) H locs hP hS
    · refine lv_iconst (v := 0) hx hb dL_law_146 rfl ?_
      refine lv_goto (tgt := 160) hx hb dL_law_147 (by decide) ?_
      exact J 0 H locs hP hS
