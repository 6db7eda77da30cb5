/-! The calls for metres. -/
def moA (A : aS) (sz : Nat) (g : Nat → Nat) : aS := fun c k => if c = 41 ∧ 24 * A 30 16 ≤ k ∧ k < 24 * A 30 16 + sz then g (k - 24 * A 30 16) else if c = 40 ∧ k = A 30 16 then sz else if c = 30 ∧ k = 16 then A 30 16 + 1 else if c = 30 ∧ k = 19 then 0 else A c k
theorem moA_41 (A : aS) (sz : Nat) (g : Nat → Nat) (k : Nat) : moA A sz g 41 k = if 24 * A 30 16 ≤ k ∧ k < 24 * A 30 16 + sz then g (k - 24 * A 30 16) else A 41 k := by
  unfold moA
  by_cases q : 24 * A 30 16 ≤ k ∧ k < 24 * A 30 16 + sz
  · rw [if_pos ⟨rfl, q⟩, if_pos q]
  · rw [if_neg (fun z => q z.2), if_neg q]; rfl
theorem moA_40 (A : aS) (sz : Nat) (g : Nat → Nat) (k : Nat) : moA A sz g 40 k = if k = A 30 16 then sz else A 40 k := by
  unfold moA
  by_cases q : k = A 30 16
  · rw [if_neg (fun z => absurd z.1 (by decide)), if_pos ⟨rfl, q⟩, if_pos q]
  · rw [if_neg (fun z => absurd z.1 (by decide)), if_neg (fun z => q z.2), if_neg q]; rfl
theorem moA_o (A : aS) (sz : Nat) (g : Nat → Nat) {c k : Nat} (h1 : c ≠ 41) (h2 : c ≠ 40) (h3 : ¬ (c = 30 ∧ k = 16)) (h4 : ¬ (c = 30 ∧ k = 19)) : moA A sz g c k = A c k := by
  unfold moA
  rw [if_neg (fun z => h1 z.1), if_neg (fun z => h2 z.1), if_neg h3, if_neg h4]
theorem moA_WF {A : aS} (hW : WFA A) {sz : Nat} {g : Nat → Nat} (hp : A 30 16 < 8) (hs : 1 ≤ sz ∧ sz ≤ 24) (hg : ∀ j, j < sz → 1 ≤ g j ∧ g j ≤ 20) : WFA (moA A sz g) := by
  refine ⟨hW.1, hW.2.1, hW.2.2.1, hW.2.2.2.1, ⟨show A 30 16 + 1 ≤ 8 from hp, fun m hm => ?_⟩, Nat.zero_le _, hW.2.2.2.2.2.2⟩
  have hm : m < A 30 16 + 1 := hm
  rw [moA_40]
  by_cases q : m = A 30 16
  · rw [if_pos q]
    refine ⟨hs.1, hs.2, fun j hj => ?_⟩
    rw [moA_41, if_pos (by omega), show 24 * m + j - 24 * A 30 16 = j from by omega]
    exact hg j hj
  · rw [if_neg q]
    have := hW.2.2.2.2.1.2 m (by omega)
    refine ⟨this.1, this.2.1, fun j hj => ?_⟩
    have h2 := this.2.1
    rw [moA_41, if_neg (by omega)]
    exact this.2.2 j hj
theorem s_addMetre {T : hyT} (h : INV T) : okS (La_addMetre T) Rf_addMetre := by
  obtain ⟨A, hW, hC, hR⟩ := h
  have hm8 := hW.2.2.2.2.1.1
  obtain ⟨k0, s, hF⟩ := Fin_ex (A 42) (A 30 19)
  have hk0 := hF.2.1
  have hI := mrn_I _ _ hF.1
  have hL := hW.2.2.2.2.2.1
  have im := In_isMetre_ok (CA_inb hW hC) hF
  obtain ⟨N1, f1, f2, f3⟩ := Rf_rightMetre_ok (RI_rbuf hW hR) hF
  have hR1 := hR.fr f2
  have h19 : N1.1 30 19 = n3 (A 30 19) := hR1 30 19 rfl
  have h16 : N1.1 30 16 = n3 (A 30 16) := hR1 30 16 rfl
  have h25 : T.1.1 25 2 = n3 (A 30 16) := hC.1.2.2.2.2.2.1.1
  obtain ⟨r1, r2, ⟨w, r3, hw, hwv⟩, r4⟩ := f3
  have hok : (if n3 k0 = N1.1 30 19 then (if 0 < N1.1 30 31 then true else (!decide (N1.1 30 33 = 0))) else false) = okm (A 30 19) k0 s := by
    rw [h19, r2, r3, tn0', l_0, ite_eq (by omega) (by omega), ite_lt (by omega) (by omega)]
    unfold okm
    by_cases q : k0 = A 30 19
    · rw [if_pos q, decide_eq_true q, Bool.true_and]
      by_cases q2 : 0 < w
      · rw [if_pos q2, decide_eq_true (hwv.mp q2)]; rfl
      · rw [if_neg q2, decide_eq_false (fun z => q2 (hwv.mpr z)), Bool.not_not]; rfl
    · rw [if_neg q, decide_eq_false q]; rfl
  have hfull : (if N1.1 30 16 = 8 then 2 else 0 : Int32) = if A 30 16 = 8 then 2 else 0 := by rw [h16, show (8 : Int32) = n3 8 from rfl, ite_eq (by omega) (by omega)]
  cases z : okm (A 30 19) k0 s with
  | false =>
    rw [z] at im hok
    refine fin_t (T := T) (k := 1) (b := 0) (N := wI N1 30 0 1) (by decide) hW hC (RI.w hR1 rfl) ?_ ?_ (rd_eq _ _ _ _)
    · rw [La_addMetre, Hp_addMetre, im]
      rfl
    · rw [Rf_addMetre, f1, Option.bind_some]
      dsimp only
      rw [hok, if_neg (by decide), Option.bind_some, rd_eq, if_neg gt0.1]
  | true =>
    rw [z] at im hok
    by_cases hp : A 30 16 < 8
    · rw [show (if A 30 16 = 8 then 2 else 0 : Int32) = 0 from if_neg (by omega)] at hfull
      unfold okm at z
      rw [Bool.and_eq_true, Bool.or_eq_true, decide_eq_true_eq, decide_eq_true_eq] at z
      obtain ⟨rfl, hv⟩ := z
      obtain ⟨P, e1, e2⟩ := Bo_take_ok (CA_inb hW hC) hF.1 hv h25 hp
      obtain ⟨i1, i2, i3, i4, i5, i6⟩ := hI
      have hn1 : 1 ≤ s.1 := hv.elim (fun q => (i3 q).1) (fun q => (i6 q).1)
      have hsz : 1 ≤ szM s ∧ szM s ≤ 24 := by
        unfold szM
        by_cases q : s.2.1 = 0
        · rw [if_pos q]
          have hd : s.2.2.1 = true := hv.elim (fun q2 => by omega) id
          have := i6 hd
          omega
        · rw [if_neg q]; omega
      have hg : ∀ j, j < szM s → 1 ≤ s.2.2.2 (j % s.1) ∧ s.2.2.2 (j % s.1) ≤ 20 := fun j _ => i5 _ (Nat.mod_lt _ hn1)
      have hW' := moA_WF hW hp hsz hg
      have hC' : CA (moA A (szM s) (fun j => s.2.2.2 (j % s.1))) (wI (wI P 25 2 (n3 (A 30 16 + 1))) 28 1 0) := by
        obtain ⟨⟨a1, a2, a3, a4, a5⟩, ⟨b1, b2⟩, ⟨c1, c2⟩, ⟨q1, q2⟩, vv, ⟨x1, x2⟩, ⟨j1, j2⟩⟩ := hC.1
        obtain ⟨p1, p2, p3, p4, p5, p6, p7⟩ := e2
        have g : ∀ c k, c ≠ 25 → c ≠ 26 → c ≠ 27 → c ≠ 28 → (wI (wI P 25 2 (n3 (A 30 16 + 1))) 28 1 0).1 c k = T.1.1 c k := fun c k h1 h2 h3 h4 => by rw [rd_ne h4, rd_ne h1]; exact p5 c k h2 h3
        have gd : ∀ c k, dce c = true → (wI (wI P 25 2 (n3 (A 30 16 + 1))) 28 1 0).1 c k = T.1.1 c k := fun c k hd => by
          unfold dce at hd
          rw [Bool.and_eq_true] at hd
          have := Nat.le_of_ble_eq_true hd.2
          exact g c k (by omega) (by omega) (by omega) (by omega)
        refine ⟨⟨⟨by rw [g _ _ (by decide) (by decide) (by decide) (by decide)]; exact a1, by rw [g _ _ (by decide) (by decide) (by decide) (by decide)]; exact a2, by rw [g _ _ (by decide) (by decide) (by decide) (by decide)]; exact a3, fun i => by rw [g _ _ (by decide) (by decide) (by decide) (by decide)]; exact a4 i, fun i => by rw [g _ _ (by decide) (by decide) (by decide) (by decide)]; exact a5 i⟩, ⟨by show ∀ i, i < 40 → hbt (P.2 1 2) i = _; rw [p4]; exact b1, by show ∀ i, i < 40 → hbt (P.2 1 3) i = _; rw [p4]; exact b2⟩, ⟨by rw [g _ _ (by decide) (by decide) (by decide) (by decide)]; exact c1, by rw [g _ _ (by decide) (by decide) (by decide) (by decide)]; exact c2⟩, ⟨by rw [g _ _ (by decide) (by decide) (by decide) (by decide)]; exact q1, fun i => by rw [g _ _ (by decide) (by decide) (by decide) (by decide)]; exact q2.1 i, fun i => by rw [g _ _ (by decide) (by decide) (by decide) (by decide)]; exact q2.2.1 i, fun i => by rw [g _ _ (by decide) (by decide) (by decide) (by decide)]; exact q2.2.2 i⟩, fun r hr => ⟨by rw [g _ _ (by decide) (by decide) (by decide) (by decide)]; exact (vv r hr).1, fun j hj => by rw [g _ _ (by decide) (by decide) (by decide) (by decide)]; exact (vv r hr).2 j hj⟩, ⟨by rw [rd_ne (by decide), rd_eq]; rfl, fun m hm => ?_⟩, ⟨rd_eq _ _ _ _, fun i => by rw [rd_ne (by decide), rd_ne (by decide), p5 _ _ (by decide) (by decide)]; exact j2 i⟩⟩, CD.fr (M := T.1) (A := moA A (szM s) (fun j => s.2.2.2 (j % s.1))) hC.2 gd⟩
        have hm : m < A 30 16 + 1 := hm
        rw [moA_40, rd_ne (by decide), rd_ne (by decide)]
        by_cases q : m = A 30 16
        · rw [if_pos q, q]
          refine ⟨p2, fun j hj => ?_⟩
          rw [rd_ne (by decide), rd_ne (by decide), p3 j hj, moA_41, if_pos (by omega), show 24 * A 30 16 + j - 24 * A 30 16 = j from by omega]
        · rw [if_neg q, p6 m q]
          have hx := x2 m (by omega)
          have hb := (hW.2.2.2.2.1.2 m (by omega)).2.1
          refine ⟨hx.1, fun j hj => ?_⟩
          rw [rd_ne (by decide), rd_ne (by decide), p7 _ (by omega), moA_41, if_neg (by omega)]
          exact hx.2 j hj
      have hbase : RI A (wI N1 30 0 0) := RI.w hR1 rfl
      have hsize : (if N1.1 30 33 = 0 then N1.1 30 32 else 2 * N1.1 30 32) = n3 (szM s) := by
        rw [r1, r2]
        unfold szM
        cases hd : s.2.2.1 with
        | true =>
          have hv0 : s.2.1 = 0 := by
            by_cases q : s.2.1 = 0
            · exact q
            · have := (i3 (by omega)).2.2; rw [hd] at this; cases this
          rw [if_neg (by decide), if_pos hv0, show (2 : Int32) = n3 2 from rfl, n3_mul]
        | false =>
          have hv0 : 0 < s.2.1 := hv.elim id (fun q => by rw [hd] at q; cases q)
          rw [if_pos (by decide), if_neg (by omega)]
      have k2 := lpI (σ := Int32 × hyM) (fun F x => Rf_addMetre_L97 F x.1 x.2) (fun j x => x.1 = n3 j ∧ (∀ c k, c ≠ 41 → x.2.1 c k = (wI (wI N1 30 0 0) 40 (A 30 16) (n3 (szM s))).1 c k) ∧ ∀ k, x.2.1 41 k = n3 (if 24 * A 30 16 ≤ k ∧ k < 24 * A 30 16 + j then s.2.2.2 ((k - 24 * A 30 16) % s.1) else A 41 k)) (szM s) (fun r => (∀ c k, c ≠ 41 → r.2.1 c k = (wI (wI N1 30 0 0) 40 (A 30 16) (n3 (szM s))).1 c k) ∧ ∀ k, r.2.1 41 k = n3 (if 24 * A 30 16 ≤ k ∧ k < 24 * A 30 16 + szM s then s.2.2.2 ((k - 24 * A 30 16) % s.1) else A 41 k)) ?_ ?_ hyFu 0 (n3 0, wI (wI N1 30 0 0) 40 (A 30 16) (n3 (szM s))) (Nat.zero_le _) (hyFu_big (by omega)) ⟨rfl, fun _ _ _ => rfl, fun k => by rw [if_neg (by omega), rd_ne (by decide)]; exact hbase 41 k rfl⟩
      · obtain ⟨⟨y, N2⟩, p1, p2, p3⟩ := k2
        dsimp only at p1 p2 p3
        have g16 : N2.1 30 16 = n3 (A 30 16) := by rw [p2 _ _ (by decide), rd_ne (by decide)]; exact hbase 30 16 rfl
        have hR' : RI (moA A (szM s) (fun j => s.2.2.2 (j % s.1))) (wI (wI N2 30 16 (n3 (A 30 16 + 1))) 30 19 0) := by
          intro c k hc
          by_cases q1 : c = 41
          · subst q1; rw [rd_ne (by decide), rd_ne (by decide), p3, moA_41]
          by_cases q0 : c = 40
          · subst q0
            rw [rd_ne (by decide), rd_ne (by decide), p2 _ _ (by decide), moA_40, rd_wI]
            by_cases q : k = A 30 16
            · rw [if_pos ⟨rfl, q⟩, if_pos q]
            · rw [if_neg (fun z => q z.2), if_neg q]; exact hbase 40 k rfl
          by_cases q19 : c = 30 ∧ k = 19
          · obtain ⟨rfl, rfl⟩ := q19; rw [rd_eq]; rfl
          by_cases q16 : c = 30 ∧ k = 16
          · obtain ⟨rfl, rfl⟩ := q16; rw [rd_nk (by decide), rd_eq]; rfl
          rw [moA_o A _ _ q1 q0 q16 q19, rd_wI, if_neg q19, rd_wI, if_neg q16, p2 _ _ q1, rd_ne q0]
          exact hbase c k hc
        refine fin_v (T := T) (v := n3 (A 30 16)) hW' hC' hR' ?_ ?_ ?_
        · rw [rd_nk (by decide), rd_nk (by decide), p2 _ _ (by decide)]; rfl
        · rw [La_addMetre, Hp_addMetre, im, Option.bind_some, if_pos rfl, h25, if_pos (by rw [show (8 : Int32) = n3 8 from rfl, n3_lt (by omega) (by omega)]; exact hp), e1, Option.bind_some, Option.bind_some, rd_ne (by decide), rd_eq, l_1, n3_sub (by omega)]
          rfl
        · rw [Rf_addMetre, f1, Option.bind_some]
          dsimp only
          rw [hok, if_pos rfl, hfull, Option.bind_some, rd_eq, if_pos gt0.2.2.2, rd_nk (by decide), rd_nk (by decide), rd_nk (by decide), hsize, h16, stE_in _ _ _ hp (by decide), Option.bind_some]
          rw [show (0 : Int32) = n3 0 from rfl] at p1 ⊢
          rw [p1, Option.bind_some]
          dsimp only
          rw [g16, n3_s, Option.bind_some, Option.bind_some, rd_nk (by decide), rd_eq, l_1, n3_sub (by omega)]
          rfl
      · rintro F j ⟨x, P2⟩ hj ⟨rfl, i7, i8⟩
        refine Or.inl ?_
        dsimp only at i7 i8 ⊢
        have g16 : P2.1 30 16 = n3 (A 30 16) := by rw [i7 _ _ (by decide), rd_ne (by decide)]; exact hbase 30 16 rfl
        have g40 : P2.1 40 (A 30 16) = n3 (szM s) := by rw [i7 _ _ (by decide), rd_eq]
        have g32 : P2.1 30 32 = n3 s.1 := by rw [i7 _ _ (by decide), rd_ne (by decide), rd_nk (by decide)]; exact r1
        have hmod : j % s.1 < s.1 := Nat.mod_lt _ hn1
        have g50 : P2.1 50 (j % s.1) = n3 (s.2.2.2 (j % s.1)) := by rw [i7 _ _ (by decide), rd_ne (by decide), rd_ne (by decide)]; exact r4 _ hmod
        rw [Rf_addMetre_L97, g16, ldE_in _ hp (by decide), Option.bind_some, g40, if_neg (by rw [n3_le (by omega) (by omega)]; omega), g32, jrm_n3 (by omega) (by omega) hn1, Option.bind_some, ldE_in _ (by omega) (by decide), Option.bind_some, g50, l_24, n3_mul, n3_add, stE_in _ _ _ (by omega) (by decide), Option.bind_some, n3_s]
        refine ⟨(n3 (j + 1), wI P2 41 (24 * A 30 16 + j) (n3 (s.2.2.2 (j % s.1)))), rfl, rfl, fun c k hc => by rw [rd_ne hc]; exact i7 c k hc, fun k => ?_⟩
        dsimp only
        by_cases e : k = 24 * A 30 16 + j
        · subst e; rw [rd_eq, if_pos (by omega), show 24 * A 30 16 + j - 24 * A 30 16 = j from by omega]
        · rw [rd_nk e, i8]
          by_cases q : 24 * A 30 16 ≤ k ∧ k < 24 * A 30 16 + j
          · rw [if_pos q, if_pos (by omega)]
          · rw [if_neg q, if_neg (by omega)]
      · rintro F ⟨x, P2⟩ ⟨rfl, i7, i8⟩
        dsimp only at i7 i8 ⊢
        have g16 : P2.1 30 16 = n3 (A 30 16) := by rw [i7 _ _ (by decide), rd_ne (by decide)]; exact hbase 30 16 rfl
        have g40 : P2.1 40 (A 30 16) = n3 (szM s) := by rw [i7 _ _ (by decide), rd_eq]
        rw [Rf_addMetre_L97, g16, ldE_in _ hp (by decide), Option.bind_some, g40, if_pos (by rw [n3_le (by omega) (by omega)]; omega)]
        exact ⟨_, rfl, i7, i8⟩
    · rw [show (if A 30 16 = 8 then 2 else 0 : Int32) = 2 from if_pos (by omega)] at hfull
      refine fin_t (T := T) (k := 2) (b := 0) (N := wI N1 30 0 2) (by decide) hW hC (RI.w hR1 rfl) ?_ ?_ (rd_eq _ _ _ _)
      · rw [La_addMetre, Hp_addMetre, im, Option.bind_some, if_pos rfl, h25, if_neg (by rw [show (8 : Int32) = n3 8 from rfl, n3_lt (by omega) (by omega)]; exact hp)]
        rfl
      · rw [Rf_addMetre, f1, Option.bind_some]
        dsimp only
        rw [hok, if_pos rfl, hfull, Option.bind_some, rd_eq, if_neg gt0.2.1]
