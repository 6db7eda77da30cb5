/-! What the Statement gives of the start; the law, from its entry. -/
theorem hy_exref {args : Array Value} {s : State} {t : Term} {nm : String} (h : (Cond.exactly t nm).before args s = true) : ∃ a : Nat, t.eval args s none [] s = some (.ref a) := by
  obtain ⟨a, c, cA, kA, q1, -⟩ := Cond.exactly_spec (args := args) (first := s) (o := none) (s := s) (idx := []) (t := t) (cls := nm) h
  exact ⟨a, q1⟩
set_option maxHeartbeats 8000000 in
set_option maxRecDepth 100000 in
theorem whole_start {p : Program} {e : Env} {s : State} {m : MethodId} {below : List Frame} {meth : Method} {c : Code} (l : Launch) (hflags : l.flags = flags0) {b L : Nat} {xs : Nat → Int32} (hL : L ≤ 260) (C0 : lw_At p s m meth c b L xs) : W p l e room_1 s m #[Value.ref b] below meth c s.heap [] 0 0 (lw_Z below #[Value.ref b] s) (entryFrame m ([Value.ref b] : List Value).toArray 9) := by
  obtain ⟨hx, hb, hr, hml, hown, hts, hX, hbl, hlocks, hgv⟩ := id C0
  have hs := flat_of_before _ hgv
  have hg : ∀ w ∈ hyGood, w.before #[Value.ref b] s = true := fun w hw => hts w (List.mem_filter.mp hw).1
  have hA : ∀ a : Nat, a < s.heap.size → ¬ (fun q : Nat => s.heap.size ≤ q) a := fun a h => Nat.not_le.mpr h
  have hlt : l.stackTraces = false := by
    unfold Launch.stackTraces
    rw [hflags]
    decide
  have ha0 : (Cond.arrayOf (Term.static "HymnPage$Key" "MAJOR" "[I") .int).before #[Value.ref b] s = true := hs _ (by decide +kernel)
  have hl0 : (Cond.eq (.length (Term.static "HymnPage$Key" "MAJOR" "[I")) (.int 7)).before #[Value.ref b] s = true := hs _ (by decide +kernel)
  obtain ⟨t0, e0, T0⟩ := va_Tof (tm := (Term.static "HymnPage$Key" "MAJOR" "[I")) (ty := .int) (N := 7) (f := fun j => .int (hyKf 0 j)) (A := (fun q : Nat => s.heap.size ≤ q)) (by decide) ha0 (va_eqt hl0) (fun j hj => by rcases (show j = 0 ∨ j = 1 ∨ j = 2 ∨ j = 3 ∨ j = 4 ∨ j = 5 ∨ j = 6 by omega) with rfl | rfl | rfl | rfl | rfl | rfl | rfl <;> exact va_eqt (hs _ (by decide +kernel))) hA
  have ha1 : (Cond.arrayOf (Term.static "HymnPage$Key" "TONIC_LETTERS" "[I") .int).before #[Value.ref b] s = true := hs _ (by decide +kernel)
  have hl1 : (Cond.eq (.length (Term.static "HymnPage$Key" "TONIC_LETTERS" "[I")) (.int 12)).before #[Value.ref b] s = true := hs _ (by decide +kernel)
  obtain ⟨t1, e1, T1⟩ := va_Tof (tm := (Term.static "HymnPage$Key" "TONIC_LETTERS" "[I")) (ty := .int) (N := 12) (f := fun j => .int (hyKf 1 j)) (A := (fun q : Nat => s.heap.size ≤ q)) (by decide) ha1 (va_eqt hl1) (fun j hj => by rcases (show j = 0 ∨ j = 1 ∨ j = 2 ∨ j = 3 ∨ j = 4 ∨ j = 5 ∨ j = 6 ∨ j = 7 ∨ j = 8 ∨ j = 9 ∨ j = 10 ∨ j = 11 by omega) with rfl | rfl | rfl | rfl | rfl | rfl | rfl | rfl | rfl | rfl | rfl | rfl <;> exact va_eqt (hs _ (by decide +kernel))) hA
  have ha2 : (Cond.arrayOf (Term.static "HymnPage$Key" "SHAPES" "[I") .int).before #[Value.ref b] s = true := hs _ (by decide +kernel)
  have hl2 : (Cond.eq (.length (Term.static "HymnPage$Key" "SHAPES" "[I")) (.int 7)).before #[Value.ref b] s = true := hs _ (by decide +kernel)
  obtain ⟨t2, e2, T2⟩ := va_Tof (tm := (Term.static "HymnPage$Key" "SHAPES" "[I")) (ty := .int) (N := 7) (f := fun j => .int (hyKf 2 j)) (A := (fun q : Nat => s.heap.size ≤ q)) (by decide) ha2 (va_eqt hl2) (fun j hj => by rcases (show j = 0 ∨ j = 1 ∨ j = 2 ∨ j = 3 ∨ j = 4 ∨ j = 5 ∨ j = 6 by omega) with rfl | rfl | rfl | rfl | rfl | rfl | rfl <;> exact va_eqt (hs _ (by decide +kernel))) hA
  have ha3 : (Cond.arrayOf (Term.static "HymnPage$Key" "BOTTOM_LINES" "[I") .int).before #[Value.ref b] s = true := hs _ (by decide +kernel)
  have hl3 : (Cond.eq (.length (Term.static "HymnPage$Key" "BOTTOM_LINES" "[I")) (.int 2)).before #[Value.ref b] s = true := hs _ (by decide +kernel)
  obtain ⟨t3, e3, T3⟩ := va_Tof (tm := (Term.static "HymnPage$Key" "BOTTOM_LINES" "[I")) (ty := .int) (N := 2) (f := fun j => .int (hyKf 3 j)) (A := (fun q : Nat => s.heap.size ≤ q)) (by decide) ha3 (va_eqt hl3) (fun j hj => by rcases (show j = 0 ∨ j = 1 by omega) with rfl | rfl <;> exact va_eqt (hs _ (by decide +kernel))) hA
  obtain ⟨cX0, iX0, kX0⟩ := u_known (C := RX0) (T := TX0) (N := 2) (n := 2) hg inX0g (hg _ q_144)
  obtain ⟨cX1, iX1, kX1⟩ := u_known (C := RX1) (T := TX1) (N := 3) (n := 3) hg inX1g (hg _ q_261)
  obtain ⟨cX2, iX2, kX2⟩ := u_known (C := RX2) (T := TX2) (N := 5) (n := 5) hg inX2g (hg _ q_237)
  obtain ⟨cX3, iX3, kX3⟩ := u_known (C := RX3) (T := TX3) (N := 2) (n := 2) hg inX3g (hg _ q_278)
  obtain ⟨cX5, iX5, kX5⟩ := u_known (C := RX5) (T := TX5) (N := 3) (n := 3) hg inX5g (hg _ q_219)
  obtain ⟨cX6, iX6, kX6⟩ := u_known (C := RX6) (T := TX6) (N := 6) (n := 6) hg inX6g (hg _ q_192)
  obtain ⟨cX7, iX7, kX7⟩ := u_known (C := RX7) (T := TX7) (N := 4) (n := 4) hg inX7g (hg _ q_159)
  obtain ⟨cX8, iX8, kX8⟩ := u_known (C := RX8) (T := TX8) (N := 6) (n := 6) hg inX8g (hg _ q_111)
  obtain ⟨cX9, iX9, kX9⟩ := u_known (C := RX9) (T := TX9) (N := 2) (n := 2) hg inX9g (hg _ q_179)
  obtain ⟨cX10, iX10, kX10⟩ := u_known (C := RX10) (T := TX10) (N := 10) (n := 10) hg inX10g (hg _ q_103)
  have hKc : ∀ (k : Nat) (q : vw_C), vwCl[k]? = some q → u_Kn s q.1 q.2.1 q.2.2 ((fun k => ([cX0, cX1, cX2, cX3, cX5, cX6, cX7, cX8, cX9, cX10] : List ClassId).getD k cX0) k) ((fun k => ([iX0, iX1, iX2, iX3, iX5, iX6, iX7, iX8, iX9, iX10] : List (Nat → Nat)).getD k iX0) k) := by
    intro k q hq
    match k, hq with
    | 0, hq => cases hq; exact kX0
    | 1, hq => cases hq; exact kX1
    | 2, hq => cases hq; exact kX2
    | 3, hq => cases hq; exact kX3
    | 4, hq => cases hq; exact kX5
    | 5, hq => cases hq; exact kX6
    | 6, hq => cases hq; exact kX7
    | 7, hq => cases hq; exact kX8
    | 8, hq => cases hq; exact kX9
    | 9, hq => cases hq; exact kX10
    | k + 10, hq => simp [vwCl] at hq
  have wI : (Cond.arrayClass .int).before #[Value.ref b] s = true := (hts _ (List.mem_of_getElem? (i := 142) (by decide +kernel)))
  obtain ⟨cI, kAI, cpI, aI1, aI2, aI3⟩ := Cond.arrayClass_spec wI
  have hK : va_K ((fun k => ([cX0, cX1, cX2, cX3, cX5, cX6, cX7, cX8, cX9, cX10] : List ClassId).getD k cX0), (fun k => ([iX0, iX1, iX2, iX3, iX5, iX6, iX7, iX8, iX9, iX10] : List (Nat → Nat)).getD k iX0)) vwCl [(cI, .int)] s := by
    refine ⟨hKc, fun k q hq => ?_⟩
    match k, hq with
    | 0, hq => cases hq; exact ⟨fun n z => ⟨fun k h => (by cases h), kAI, aI2, cpI, aI3⟩, aI1⟩
    | k + 1, hq => simp at hq
  have hst : ∀ q ∈ hyStr, ∃ a : Nat, vk_R RX10 q.1 q.2 a s := by
    intro q hq
    simp only [hyStr, List.mem_cons, List.not_mem_nil, or_false] at hq
    rcases hq with rfl | rfl | rfl | rfl | rfl | rfl | rfl | rfl | rfl | rfl | rfl
    · obtain ⟨a, ha⟩ := hy_exref (nm := "java/lang/String") (hs (Cond.exactly (Term.string "HymnPage" 300) "java/lang/String") (by decide +kernel))
      exact ⟨a, vk_R.of (hts _ (List.mem_of_getElem? (i := 372) (by decide +kernel))) ha⟩
    · obtain ⟨a, ha⟩ := hy_exref (nm := "java/lang/String") (hs (Cond.exactly (Term.string "HymnPage" 104) "java/lang/String") (by decide +kernel))
      exact ⟨a, vk_R.of (hts _ (List.mem_of_getElem? (i := 994) (by decide +kernel))) ha⟩
    · obtain ⟨a, ha⟩ := hy_exref (nm := "java/lang/String") (hs (Cond.exactly (Term.string "HymnPage" 113) "java/lang/String") (by decide +kernel))
      exact ⟨a, vk_R.of (hts _ (List.mem_of_getElem? (i := 1016) (by decide +kernel))) ha⟩
    · obtain ⟨a, ha⟩ := hy_exref (nm := "java/lang/String") (hs (Cond.exactly (Term.string "HymnPage" 297) "java/lang/String") (by decide +kernel))
      exact ⟨a, vk_R.of (hts _ (List.mem_of_getElem? (i := 678) (by decide +kernel))) ha⟩
    · obtain ⟨a, ha⟩ := hy_exref (nm := "java/lang/String") (hs (Cond.exactly (Term.string "HymnPage" 143) "java/lang/String") (by decide +kernel))
      exact ⟨a, vk_R.of (hts _ (List.mem_of_getElem? (i := 1039) (by decide +kernel))) ha⟩
    · obtain ⟨a, ha⟩ := hy_exref (nm := "java/lang/String") (hs (Cond.exactly (Term.string "HymnPage" 149) "java/lang/String") (by decide +kernel))
      exact ⟨a, vk_R.of (hts _ (List.mem_of_getElem? (i := 1044) (by decide +kernel))) ha⟩
    · obtain ⟨a, ha⟩ := hy_exref (nm := "java/lang/String") (hs (Cond.exactly (Term.string "HymnPage" 158) "java/lang/String") (by decide +kernel))
      exact ⟨a, vk_R.of (hts _ (List.mem_of_getElem? (i := 1054) (by decide +kernel))) ha⟩
    · obtain ⟨a, ha⟩ := hy_exref (nm := "java/lang/String") (hs (Cond.exactly (Term.string "HymnPage" 170) "java/lang/String") (by decide +kernel))
      exact ⟨a, vk_R.of (hts _ (List.mem_of_getElem? (i := 892) (by decide +kernel))) ha⟩
    · obtain ⟨a, ha⟩ := hy_exref (nm := "java/lang/String") (hs (Cond.exactly (Term.string "HymnPage" 187) "java/lang/String") (by decide +kernel))
      exact ⟨a, vk_R.of (hts _ (List.mem_of_getElem? (i := 1079) (by decide +kernel))) ha⟩
    · obtain ⟨a, ha⟩ := hy_exref (nm := "java/lang/String") (hs (Cond.exactly (Term.string "HymnPage" 200) "java/lang/String") (by decide +kernel))
      exact ⟨a, vk_R.of (hts _ (List.mem_of_getElem? (i := 943) (by decide +kernel))) ha⟩
    · obtain ⟨a, ha⟩ := hy_exref (nm := "java/lang/String") (hs (Cond.exactly (Term.string "HymnPage" 203) "java/lang/String") (by decide +kernel))
      exact ⟨a, vk_R.of (hts _ (List.mem_of_getElem? (i := 944) (by decide +kernel))) ha⟩
  obtain ⟨sta, hsta⟩ : ∃ sta : Nat → Nat, ∀ q ∈ hyStr, vk_R RX10 q.1 q.2 (sta q.1) s := by
    refine ⟨fun k => match (Term.string RX10 k).eval #[] s none [] s with | some (.ref a) => a | _ => 0, fun q hq => ?_⟩
    obtain ⟨a, h1, h2⟩ := hst q hq
    refine ⟨h1, ?_⟩
    dsimp only
    rw [h2]
  refine law_start hL C0 _ cI (fun i => ([t0, t1, t2, t3] : List Nat).getD i 0) sta hK (fun adr => ?_) hlt
  refine ⟨hyNw.of hts, fun i hi => ?_, vx_Zqof (hts _ (List.mem_of_getElem? (i := 358) (by decide +kernel))) (hts _ (List.mem_of_getElem? (i := 94) (by decide +kernel))) (hs _ (by decide +kernel)) hA, vx_Zqof (hts _ (List.mem_of_getElem? (i := 360) (by decide +kernel))) (hts _ (List.mem_of_getElem? (i := 94) (by decide +kernel))) (hs _ (by decide +kernel)) hA, hsta, hX, fun z => hA b hbl z⟩
  rcases (show i = 0 ∨ i = 1 ∨ i = 2 ∨ i = 3 by omega) with rfl | rfl | rfl | rfl
  · exact ⟨va_Zref (C := "HymnPage$Key") (n := "MAJOR") (d := "[I") (hts _ (List.mem_of_getElem? (i := 761) (by decide +kernel))) (hts _ (List.mem_of_getElem? (i := 101) (by decide +kernel))) e0 hA, T0⟩
  · exact ⟨va_Zref (C := "HymnPage$Key") (n := "TONIC_LETTERS") (d := "[I") (hts _ (List.mem_of_getElem? (i := 770) (by decide +kernel))) (hts _ (List.mem_of_getElem? (i := 101) (by decide +kernel))) e1 hA, T1⟩
  · exact ⟨va_Zref (C := "HymnPage$Key") (n := "SHAPES") (d := "[I") (hts _ (List.mem_of_getElem? (i := 782) (by decide +kernel))) (hts _ (List.mem_of_getElem? (i := 101) (by decide +kernel))) e2 hA, T2⟩
  · exact ⟨va_Zref (C := "HymnPage$Key") (n := "BOTTOM_LINES") (d := "[I") (hts _ (List.mem_of_getElem? (i := 787) (by decide +kernel))) (hts _ (List.mem_of_getElem? (i := 101) (by decide +kernel))) e3 hA, T3⟩
