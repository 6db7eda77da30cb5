/-! The class's answers to the calls of its input and its book, and the state behind them. -/
theorem p_errLine {A : aS} {M : hyM} (hW : WFA A) (hC : CA A M) : Hp_firstError false M = some (n3 (lgo (A 42) (A 30 19) 0 0).1) := by
  rw [Hp_firstError, if_neg (by decide), In_errorAsLine_ok (CA_inb hW hC)]; rfl
theorem p_errMetre {A : aS} {M : hyM} (hW : WFA A) (hC : CA A M) {k0 : Nat} {s : mS} (hF : Fin_ (A 42) (A 30 19) k0 s) : Hp_firstError true M = some (n3 k0) := by
  rw [Hp_firstError, if_pos rfl, In_errorAsMetre_ok (CA_inb hW hC) hF]; rfl
theorem p_setLine {A : aS} {M : hyM} (hW : WFA A) (hC : CA A M) {v l : Nat} (hv : v < 4) (hl : l < 24) (z : cpl (A 42) (A 30 19) = true) :
    ∃ M', (Hp_setLine (n3 v) (n3 l) M).bind rtM = some (n3 (nsS (rwT (slA A (v * 24 + l)) (v * 24 + l)) (rwL (slA A (v * 24 + l)) (v * 24 + l))), M') ∧ WFA (slA A (v * 24 + l)) ∧ CA (slA A (v * 24 + l)) M' := by
  have hL := hW.2.2.2.2.2.1
  have il := In_isLine_ok (CA_inb hW hC)
  rw [z] at il
  have hVT := cpl_VT z
  have hW' := slA_WF hW (v * 24 + l) hVT
  obtain ⟨M1, m1, m2, m3, m4⟩ := Ve_take_ok (CA_inb hW hC) hVT hv hl
  have hB : CB (slA A (v * 24 + l)) (wI M1 28 1 0) := by
    obtain ⟨⟨a1, a2, a3, a4, a5⟩, ⟨b1, b2⟩, ⟨c1, c2⟩, ⟨q1, q2⟩, vv, ⟨x1, x2⟩, ⟨i1, i2⟩⟩ := hC.1
    have g : ∀ c k, vcel c k = false → c ≠ 28 → (wI M1 28 1 0).1 c k = M.1 c k := fun c k h1 h2 => by rw [rd_ne h2]; exact m2.2 c k h1
    refine ⟨⟨by rw [g _ _ rfl (by decide)]; exact a1, by rw [g _ _ rfl (by decide)]; exact a2, by rw [g _ _ rfl (by decide)]; exact a3, fun i => by rw [g _ _ rfl (by decide)]; exact a4 i, fun i => by rw [g _ _ rfl (by decide)]; exact a5 i⟩, ⟨by show ∀ i, i < 40 → hbt (M1.2 1 2) i = _; rw [m2.1]; exact b1, by show ∀ i, i < 40 → hbt (M1.2 1 3) i = _; rw [m2.1]; exact b2⟩, ⟨by rw [g _ _ rfl (by decide)]; exact c1, by rw [g _ _ rfl (by decide)]; exact c2⟩, ⟨by rw [g _ _ rfl (by decide)]; exact q1, fun i => by rw [g _ _ rfl (by decide)]; exact q2.1 i, fun i => by rw [g _ _ rfl (by decide)]; exact q2.2.1 i, fun i => by rw [g _ _ rfl (by decide)]; exact q2.2.2 i⟩, ?_, ⟨by rw [g _ _ rfl (by decide)]; exact x1, fun m hm => ⟨by rw [g _ _ rfl (by decide)]; exact (x2 m hm).1, fun j hj => by rw [g _ _ rfl (by decide)]; exact (x2 m hm).2 j hj⟩⟩, ⟨rd_eq _ _ _ _, fun i => by rw [rd_ne (by decide), m2.2 _ _ rfl]; exact i2 i⟩⟩
    intro q hq
    have e2 : (XA (slA A (v * 24 + l))).2 q = if q = v * 24 + l then A 30 19 else A 38 q := slA_38 A _ q
    rw [e2]
    have hfr : ∀ t L, VR t L q M1 → VR t L q (wI M1 28 1 0) := fun t L x => ⟨by rw [rd_ne (by decide)]; exact x.1, fun j hj => by rw [rd_ne (by decide)]; exact x.2 j hj⟩
    apply hfr
    by_cases c : q = v * 24 + l
    · rw [if_pos c, c]
      exact VR_cg (sl_row A _) ⟨hL, Or.inr hVT, hW.2.2.2.2.2.2⟩ m3
    · rw [if_neg c]
      obtain ⟨p1, p2⟩ := m4 q c
      have hV := hW.2.2.2.1 q
      refine VR_cg (sl_oth hW c) hV ⟨by rw [p1]; exact (vv q hq).1, fun j hj => ?_⟩
      have hns : nsS ((XA A).1 q) (A 38 q) ≤ 30 := ns_le hV
      have hj2 : j < nsS ((XA A).1 q) (A 38 q) := hj
      rw [p2 j (by omega)]
      exact (vv q hq).2 j hj
  obtain ⟨M', n1, n2, -, -, -, -⟩ := lay_same hW' hB
  have hsyl : Ve_syllablesOf (n3 v) (n3 l) M' = n3 (nsS ((XA (slA A (v * 24 + l))).1 (v * 24 + l)) ((XA (slA A (v * 24 + l))).2 (v * 24 + l))) := Ve_syl_ok (n2.1.2.2.2.2.1 (v * 24 + l) (by omega)) hv hl
  refine ⟨M', ?_, hW', n2⟩
  rw [Hp_setLine, show (4 : Int32) = n3 4 from rfl, ixOk M hv (by decide)]
  dsimp only
  rw [show (24 : Int32) = n3 24 from rfl, ixOk M hl (by decide)]
  dsimp only
  rw [il, Option.bind_some, if_pos rfl, m1, Option.bind_some, Option.bind_some, n1, Option.bind_some, hsyl]
  rfl
theorem p_addMetre {A : aS} {M : hyM} (hW : WFA A) (hC : CA A M) {k0 : Nat} {s : mS} (hF : Fin_ (A 42) (A 30 19) k0 s) (z : okm (A 30 19) k0 s = true) (hp : A 30 16 < 8) :
    ∃ M', (Hp_addMetre M).bind rtM = some (n3 (A 30 16), M') ∧ WFA (moA A (szM s) (fun j => s.2.2.2 (j % s.1))) ∧ CA (moA A (szM s) (fun j => s.2.2.2 (j % s.1))) M' := by
  have hm8 := hW.2.2.2.2.1.1
  have hk0 := hF.2.1
  have hI := mrn_I _ _ hF.1
  have hL := hW.2.2.2.2.2.1
  have im := In_isMetre_ok (CA_inb hW hC) hF
  have h25 : M.1 25 2 = n3 (A 30 16) := hC.1.2.2.2.2.2.1.1
  rw [z] at im
  unfold okm at z
  rw [Bool.and_eq_true, Bool.or_eq_true, decide_eq_true_eq, decide_eq_true_eq] at z
  obtain ⟨rfl, hv⟩ := z
  obtain ⟨P, e1, e2⟩ := Bo_take_ok (CA_inb hW hC) hF.1 hv h25 hp
  obtain ⟨i1, i2, i3, i4, i5, i6⟩ := hI
  have hn1 : 1 ≤ s.1 := hv.elim (fun q => (i3 q).1) (fun q => (i6 q).1)
  have hsz : 1 ≤ szM s ∧ szM s ≤ 24 := by
    unfold szM
    by_cases q : s.2.1 = 0
    · rw [if_pos q]
      have hd : s.2.2.1 = true := hv.elim (fun q2 => by omega) id
      have := i6 hd
      omega
    · rw [if_neg q]; omega
  have hg : ∀ j, j < szM s → 1 ≤ s.2.2.2 (j % s.1) ∧ s.2.2.2 (j % s.1) ≤ 20 := fun j _ => i5 _ (Nat.mod_lt _ hn1)
  have hW' := moA_WF hW hp hsz hg
  have hC' : CA (moA A (szM s) (fun j => s.2.2.2 (j % s.1))) (wI (wI P 25 2 (n3 (A 30 16 + 1))) 28 1 0) := by
    obtain ⟨⟨a1, a2, a3, a4, a5⟩, ⟨b1, b2⟩, ⟨c1, c2⟩, ⟨q1, q2⟩, vv, ⟨x1, x2⟩, ⟨j1, j2⟩⟩ := hC.1
    obtain ⟨p1, p2, p3, p4, p5, p6, p7⟩ := e2
    have g : ∀ c k, c ≠ 25 → c ≠ 26 → c ≠ 27 → c ≠ 28 → (wI (wI P 25 2 (n3 (A 30 16 + 1))) 28 1 0).1 c k = M.1 c k := fun c k h1 h2 h3 h4 => by rw [rd_ne h4, rd_ne h1]; exact p5 c k h2 h3
    have gd : ∀ c k, dce c = true → (wI (wI P 25 2 (n3 (A 30 16 + 1))) 28 1 0).1 c k = M.1 c k := fun c k hd => by
      unfold dce at hd
      rw [Bool.and_eq_true] at hd
      have := Nat.le_of_ble_eq_true hd.2
      exact g c k (by omega) (by omega) (by omega) (by omega)
    refine ⟨⟨⟨by rw [g _ _ (by decide) (by decide) (by decide) (by decide)]; exact a1, by rw [g _ _ (by decide) (by decide) (by decide) (by decide)]; exact a2, by rw [g _ _ (by decide) (by decide) (by decide) (by decide)]; exact a3, fun i => by rw [g _ _ (by decide) (by decide) (by decide) (by decide)]; exact a4 i, fun i => by rw [g _ _ (by decide) (by decide) (by decide) (by decide)]; exact a5 i⟩, ⟨by show ∀ i, i < 40 → hbt (P.2 1 2) i = _; rw [p4]; exact b1, by show ∀ i, i < 40 → hbt (P.2 1 3) i = _; rw [p4]; exact b2⟩, ⟨by rw [g _ _ (by decide) (by decide) (by decide) (by decide)]; exact c1, by rw [g _ _ (by decide) (by decide) (by decide) (by decide)]; exact c2⟩, ⟨by rw [g _ _ (by decide) (by decide) (by decide) (by decide)]; exact q1, fun i => by rw [g _ _ (by decide) (by decide) (by decide) (by decide)]; exact q2.1 i, fun i => by rw [g _ _ (by decide) (by decide) (by decide) (by decide)]; exact q2.2.1 i, fun i => by rw [g _ _ (by decide) (by decide) (by decide) (by decide)]; exact q2.2.2 i⟩, fun r hr => ⟨by rw [g _ _ (by decide) (by decide) (by decide) (by decide)]; exact (vv r hr).1, fun j hj => by rw [g _ _ (by decide) (by decide) (by decide) (by decide)]; exact (vv r hr).2 j hj⟩, ⟨by rw [rd_ne (by decide), rd_eq]; rfl, fun m hm => ?_⟩, ⟨rd_eq _ _ _ _, fun i => by rw [rd_ne (by decide), rd_ne (by decide), p5 _ _ (by decide) (by decide)]; exact j2 i⟩⟩, CD.fr (M := M) (A := moA A (szM s) (fun j => s.2.2.2 (j % s.1))) hC.2 gd⟩
    have hm : m < A 30 16 + 1 := hm
    rw [moA_40, rd_ne (by decide), rd_ne (by decide)]
    by_cases q : m = A 30 16
    · rw [if_pos q, q]
      refine ⟨p2, fun j hj => ?_⟩
      rw [rd_ne (by decide), rd_ne (by decide), p3 j hj, moA_41, if_pos (by omega), show 24 * A 30 16 + j - 24 * A 30 16 = j from by omega]
    · rw [if_neg q, p6 m q]
      have hx := x2 m (by omega)
      have hb := (hW.2.2.2.2.1.2 m (by omega)).2.1
      refine ⟨hx.1, fun j hj => ?_⟩
      rw [rd_ne (by decide), rd_ne (by decide), p7 _ (by omega), moA_41, if_neg (by omega)]
      exact hx.2 j hj
  refine ⟨_, ?_, hW', hC'⟩
  rw [Hp_addMetre, im, Option.bind_some, if_pos rfl, h25, if_pos (by rw [show (8 : Int32) = n3 8 from rfl, n3_lt (by omega) (by omega)]; exact hp), e1, Option.bind_some, Option.bind_some, rd_ne (by decide), rd_eq, l_1, n3_sub (by omega)]
  rfl
theorem p_dropMetre {A : aS} {M : hyM} (hW : WFA A) (hC : CA A M) {x : Nat} (hx : x < A 30 16) :
    ∃ M', (Hp_dropMetre (n3 x) M).bind rtM = some (n3 (A 30 16 - 1), M') ∧ WFA (drA A x) ∧ CA (drA A x) M' := by
  have h8 := hW.2.2.2.2.1.1
  have h25 : M.1 25 2 = n3 (A 30 16) := hC.1.2.2.2.2.2.1.1
  have hW' := drA_WF hW hx
  obtain ⟨P, b1, b2, b3, b4⟩ := Bo_remove_ok hW hC hx
  have g25 : P.1 25 2 = n3 (A 30 16 - 1) := by rw [b3 _ _ (by decide) (by decide), rd_eq]
  have hC' : CA (drA A x) P := by
    obtain ⟨⟨a1, a2, a3, a4, a5⟩, ⟨c1, c2⟩, ⟨d1, d2⟩, ⟨q1, q2⟩, vv, ⟨x1, x2⟩, ⟨j1, j2⟩⟩ := hC.1
    have gg : ∀ c k, c ≠ 25 → c ≠ 26 → c ≠ 27 → P.1 c k = M.1 c k := fun c k h1 h2 h3 => by rw [b3 c k h2 h3, rd_ne h1]
    have gd : ∀ c k, dce c = true → P.1 c k = M.1 c k := fun c k hd => by
      unfold dce at hd
      rw [Bool.and_eq_true] at hd
      have := Nat.le_of_ble_eq_true hd.2
      exact gg c k (by omega) (by omega) (by omega)
    refine ⟨⟨⟨by rw [gg _ _ (by decide) (by decide) (by decide)]; exact a1, by rw [gg _ _ (by decide) (by decide) (by decide)]; exact a2, by rw [gg _ _ (by decide) (by decide) (by decide)]; exact a3, fun i => by rw [gg _ _ (by decide) (by decide) (by decide)]; exact a4 i, fun i => by rw [gg _ _ (by decide) (by decide) (by decide)]; exact a5 i⟩, ⟨by rw [b2]; exact c1, by rw [b2]; exact c2⟩, ⟨by rw [gg _ _ (by decide) (by decide) (by decide)]; exact d1, by rw [gg _ _ (by decide) (by decide) (by decide)]; exact d2⟩, ⟨by rw [gg _ _ (by decide) (by decide) (by decide)]; exact q1, fun i => by rw [gg _ _ (by decide) (by decide) (by decide)]; exact q2.1 i, fun i => by rw [gg _ _ (by decide) (by decide) (by decide)]; exact q2.2.1 i, fun i => by rw [gg _ _ (by decide) (by decide) (by decide)]; exact q2.2.2 i⟩, fun r hr => ⟨by rw [gg _ _ (by decide) (by decide) (by decide)]; exact (vv r hr).1, fun j hj => by rw [gg _ _ (by decide) (by decide) (by decide)]; exact (vv r hr).2 j hj⟩, ⟨g25, fun m hm => ?_⟩, ⟨by rw [gg _ _ (by decide) (by decide) (by decide)]; exact j1, fun i => by rw [gg _ _ (by decide) (by decide) (by decide)]; exact j2 i⟩⟩, CD.fr (M := M) (A := drA A x) hC.2 gd⟩
    have hm : m < A 30 16 - 1 := hm
    obtain ⟨u1, u2⟩ := drA_m (x := x) hm
    have hb : mvd x (A 30 16 - 1) m < A 30 16 := by unfold mvd; split <;> omega
    have hb2 := (hW.2.2.2.2.1.2 _ hb).2.1
    rw [u1]
    refine ⟨(b4 m (by omega)).1, fun j hj => ?_⟩
    rw [u2 j (by omega)]
    exact (b4 m (by omega)).2 j hj
  refine ⟨P, ?_, hW', hC'⟩
  rw [Hp_dropMetre, h25, ixOk M hx (by omega)]
  dsimp only
  rw [b1, Option.bind_some, g25]
  rfl
