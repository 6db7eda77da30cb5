/-! The law's look below the notes; its whole look at the page but for the metres. -/
theorem bgn_in {A : aS} {p i : Nat} (hp : p < mA A) (hi : i < A 30 2) (h1 : pfi (eA A) (A 30 2) p ≤ i) (h2 : i ≤ pla (eA A) (A 30 2) p) : bgn (eA A) i = pfi (eA A) (A 30 2) p := by
  have h := (ph_in (e := eA A) (n := A 30 2) hp hi).mpr ⟨h1, h2⟩
  have h3 := bgn_pfi (e := eA A) hi
  rw [h, Nat.add_sub_cancel] at h3
  exact h3.symm
theorem one_sub (b : Bool) : (1 : Int32) - bI (!b) = bI b := by cases b <;> decide
theorem T_below {A : aS} {C M : hyM} (hW : WFA A) (hC : CA A C) (hR : LR A M) (hs : LSu A M) (x : Int32) : La_told_L600 x (n3 (LA A).length) C M hyFu 0 = some (.inr (n3 (LA A).length)) := by
  have h24 := hs.1
  have hT := hR.1
  have hN := hT.1
  have hl := hR.2.2.1
  refine lpE (fun f (s : Int32) => La_told_L600 x (n3 (LA A).length) C M f s) (fun j => n3 j) (LA A).length _ ?_ ?_ hyFu 0 (Nat.zero_le _) (hyFu_big (by omega))
  · intro f k hk
    try dsimp only
    have hkp := List.getElem?_eq_getElem hk
    have hpm : (LA A)[k] < mA A := LA_mem hW (List.getElem_mem hk)
    generalize (LA A)[k] = p at hkp hpm
    have hle := pfi_le_pla (e := eA A) (n := A 30 2) hpm
    have hla := (pla_spec (e := eA A) (n := A 30 2) hpm).1
    obtain ⟨v, hv, ev⟩ := at_ok (x >>> (n3 k &&& 31)) (m := 3) (by decide) (by decide) M
    have ev : La_at (x >>> (n3 k &&& 31)) 3 M = some (n3 v) := ev
    obtain ⟨j, hj, ej⟩ := at_ok (x >>> ((n3 k + 2) &&& 31)) (m := pla (eA A) (A 30 2) p - pfi (eA A) (A 30 2) p + 1) (by omega) (by omega) M
    have hi : pfi (eA A) (A 30 2) p + j < A 30 2 := by omega
    have hbg := bgn_in hpm hi (by omega) (by omega)
    have hsl := La_slo_ok hW hT hi
    rw [hbg] at hsl
    have hslo := slo_le (eA A) (sA A) (pfi (eA A) (A 30 2) p + j)
    have hbq := bq_le hW v k (pfi (eA A) (A 30 2) p + j)
    have gb : ∀ w, w ≤ 3 → rt (Hp_below (n3 v) (n3 k) (n3 j) (n3 w) C) = some (beV A v k (pfi (eA A) (A 30 2) p + j) w) := fun w hw => g_below hW hC (by omega) hkp (by omega) hw
    have g0 : rt (Hp_below (n3 v) (n3 k) (n3 j) 0 C) = some (beV A v k (pfi (eA A) (A 30 2) p + j) 0) := gb 0 (by decide)
    have g1 : rt (Hp_below (n3 v) (n3 k) (n3 j) 1 C) = some (beV A v k (pfi (eA A) (A 30 2) p + j) 1) := gb 1 (by decide)
    have g2 : rt (Hp_below (n3 v) (n3 k) (n3 j) 2 C) = some (beV A v k (pfi (eA A) (A 30 2) p + j) 2) := gb 2 (by decide)
    have g3 : rt (Hp_below (n3 v) (n3 k) (n3 j) 3 C) = some (beV A v k (pfi (eA A) (A 30 2) p + j) 3) := gb 3 (by decide)
    have enj : n3 (pfi (eA A) (A 30 2) p + j) - n3 (pfi (eA A) (A 30 2) p) = n3 j := by rw [n3_sub (by omega), Nat.add_sub_cancel_left]
    rw [La_told_L600, if_pos (show (if n3 (LA A).length ≤ n3 k then false else (!decide (n3 (LA A).length ≤ 0))) = true by
      rw [ite_le (by omega) (by omega), if_neg (by omega), l_0, dec_le (by omega) (by omega), decide_eq_false (by omega)]; rfl), ev, Option.bind_some, ldE_in _ (by omega) (by decide), hs.2 k p hkp, Option.bind_some, La_first_ok hW hT hpm, Option.bind_some, Option.bind_some, La_last_ok hW hT hpm, Option.bind_some, n3_sub hle, n3_s, ej, Option.bind_some, n3_add, La_below_ok hW hT hl (by omega) (by omega) hi, Option.bind_some, hsl, Option.bind_some, enj]
    by_cases hb : qf (eA A) (sA A) (pfi (eA A) (A 30 2) p + j) = true ∧ slo (eA A) (sA A) (pfi (eA A) (A 30 2) p + j) < nsS (rwT A (v * 24 + k)) (rwL A (v * 24 + k))
    · have hin : v < 2 ∧ k < 8 := by
        rcases Nat.lt_or_ge v 2 with c1 | c1
        · rcases Nat.lt_or_ge k 8 with c2 | c2
          · exact ⟨c1, c2⟩
          · have h0 := hl.2 v k (by omega) (by omega) (Or.inr c2)
            have hb2 := hb.2
            rw [h0, ns_0] at hb2
            omega
        · have h0 := hl.2 v k (by omega) (by omega) (Or.inl c1)
          have hb2 := hb.2
          rw [h0, ns_0] at hb2
          omega
      have hw := hl.1 v k hin.1 hin.2
      obtain ⟨z1, z2, z3⟩ := LIw_szp hw hb.2
      have hbe : bq A v k (pfi (eA A) (A 30 2) p + j) = szS (rwT A (v * 24 + k)) (rwL A (v * 24 + k)) (slo (eA A) (sA A) (pfi (eA A) (A 30 2) p + j)) := by
        unfold bq bel
        rw [if_pos hb.1, if_pos hb.2]
      have hcb : k < 24 ∧ qf (eA A) (sA A) (pfi (eA A) (A 30 2) p + j) = true ∧ slo (eA A) (sA A) (pfi (eA A) (A 30 2) p + j) < nsS (rwT A (v * 24 + k)) (rwL A (v * 24 + k)) := ⟨by omega, hb.1, hb.2⟩
      have v0 : beV A v k (pfi (eA A) (A 30 2) p + j) 0 = n3 (slo (eA A) (sA A) (pfi (eA A) (A 30 2) p + j)) := if_pos hcb
      have v1 : beV A v k (pfi (eA A) (A 30 2) p + j) 1 = n3 (szS (rwT A (v * 24 + k)) (rwL A (v * 24 + k)) (slo (eA A) (sA A) (pfi (eA A) (A 30 2) p + j))) := if_pos hcb
      have v2 : beV A v k (pfi (eA A) (A 30 2) p + j) 2 = n3 (sgS (rwT A (v * 24 + k)) (rwL A (v * 24 + k)) (slo (eA A) (sA A) (pfi (eA A) (A 30 2) p + j))) := if_pos hcb
      have v3 : beV A v k (pfi (eA A) (A 30 2) p + j) 3 = bI (lkS (rwT A (v * 24 + k)) (rwL A (v * 24 + k)) (slo (eA A) (sA A) (pfi (eA A) (A 30 2) p + j))) := if_pos hcb
      rw [if_pos (show (if (2 : Int32) ≤ n3 v then false else (!decide ((8 : Int32) ≤ n3 k))) = true by
        rw [l_2, ite_le (by omega) (by omega), if_neg (by omega), show (8 : Int32) = n3 8 from rfl, dec_le (by omega) (by omega), decide_eq_false (by omega)]; rfl), show (8 : Int32) * n3 v = n3 (8 * v) from by rw [show (8 : Int32) = n3 8 from rfl, n3_mul], n3_add, ldE_in _ (by omega) (by decide), Option.bind_some, hb.1, Bool.toNat_true, show n3 (slo (eA A) (sA A) (pfi (eA A) (A 30 2) p + j) + 1) - 1 = n3 (slo (eA A) (sA A) (pfi (eA A) (A 30 2) p + j)) from by rw [l_1, n3_sub (by omega), Nat.add_sub_cancel], LIw_en hw hb.2, one_sub, hbe]
      have hnz : ¬ n3 (szS (rwT A (v * 24 + k)) (rwL A (v * 24 + k)) (slo (eA A) (sA A) (pfi (eA A) (A 30 2) p + j))) = 0 := by
        rw [l_0, n3_eq (by omega) (by omega)]; omega
      rw [g0, Option.bind_some, v0, if_neg hnz, if_pos rfl, g1, Option.bind_some, v1, if_neg hnz, if_pos rfl, g2, Option.bind_some, v2, if_neg hnz, if_pos (by rw [l_97, n3_add, z3]), g3, Option.bind_some, v3, if_neg hnz, if_pos rfl, n3_s]
    · have hbe : bq A v k (pfi (eA A) (A 30 2) p + j) = 0 := by
        unfold bq bel
        by_cases q : qf (eA A) (sA A) (pfi (eA A) (A 30 2) p + j) = true
        · rw [if_pos q, if_neg (fun z => hb ⟨q, z⟩)]
        · rw [if_neg q]
      have hv0 : ∀ w, beV A v k (pfi (eA A) (A 30 2) p + j) w = -1 := fun w => if_neg (fun z => hb z.2)
      have hz : n3 0 = (0 : Int32) := rfl
      rw [hbe, g0, g1, g2, g3, hv0 0, hv0 1, hv0 2, hv0 3]
      by_cases c : v < 2 ∧ k < 8
      · rw [if_pos (show (if (2 : Int32) ≤ n3 v then false else (!decide ((8 : Int32) ≤ n3 k))) = true by
          rw [l_2, ite_le (by omega) (by omega), if_neg (by omega), show (8 : Int32) = n3 8 from rfl, dec_le (by omega) (by omega), decide_eq_false (by omega)]; rfl), show (8 : Int32) * n3 v = n3 (8 * v) from by rw [show (8 : Int32) = n3 8 from rfl, n3_mul], n3_add, ldE_in _ (by omega) (by decide), Option.bind_some, Option.bind_some, if_pos hz, if_pos rfl, Option.bind_some, if_pos hz, if_pos rfl, Option.bind_some, if_pos hz, if_pos rfl, Option.bind_some, if_pos hz, if_pos rfl, n3_s]
      · rw [if_neg (show ¬ (if (2 : Int32) ≤ n3 v then false else (!decide ((8 : Int32) ≤ n3 k))) = true by
          rw [l_2, ite_le (by omega) (by omega), show (8 : Int32) = n3 8 from rfl, dec_le (by omega) (by omega)]
          by_cases c2 : 2 ≤ v
          · rw [if_pos c2]; decide
          · rw [if_neg c2, decide_eq_true (by omega)]; decide), Option.bind_some, if_pos hz, if_pos rfl, Option.bind_some, if_pos hz, if_pos rfl, Option.bind_some, if_pos hz, if_pos rfl, Option.bind_some, if_pos hz, if_pos rfl, n3_s]
  · intro f
    try dsimp only
    rw [La_told_L600, if_neg (show ¬ (if n3 (LA A).length ≤ n3 (LA A).length then false else (!decide (n3 (LA A).length ≤ 0))) = true by
      rw [ite_le (by omega) (by omega), if_pos (Nat.le_refl _)]; decide)]
theorem sys_nsA {A : aS} : sysN A (mA A) + 1 = n3 (nsA A) := by
  unfold sysN nsA nsy mA
  by_cases c : phc (eA A) (A 30 2) = 0
  · rw [if_pos c, if_pos c]; decide
  · rw [if_neg c, if_neg c, n3_s]
theorem La_told_ok {A : aS} {C M : hyM} (hW : WFA A) (hC : CA A C) (hR : LR A M) (x : Int32) (P : hyM → hyM → Prop) (hm : ∀ M1, LR A M1 → LSu A M1 → ∃ C' M', La_metres (x >>> (3 &&& 31)) (n3 (LA A).length) C M1 = some (true, C', M') ∧ P C' M') : ∃ C' M', La_told x C M = some (true, C', M') ∧ P C' M' := by
  have hN := hR.1.1
  obtain ⟨hb1, hb2, hu, hp1, hp2⟩ := hW.2.2.1
  have hR0 : LR A (zM M 34) := hR.fr (fun c k hc => by
    show (if c = 34 then (fun _ => 0) else M.1 c) k = M.1 c k
    rw [if_neg (by omega)])
  obtain ⟨M1, s1, s2, s3, s4⟩ := La_sung_ok hW hR0.1 hR0.rp
  have hR1 : LR A M1 := hR0.fr (fun c k hc => s3.2 c k (by
    unfold sucel
    cases q : Nat.beq c 34 with
    | false => rfl
    | true => have := Nat.eq_of_beq_eq_true q; omega))
  have hs : LSu A M1 := ⟨s4, s2⟩
  obtain ⟨C', M', m1, m2⟩ := hm M1 hR1 hs
  refine ⟨C', M', ?_, m2⟩
  have hT := hR1.1
  obtain ⟨d0, d2, d3, d4, d5⟩ := hR1.2.2.2.1
  have hst := st_le hW (Nat.le_refl (A 30 2))
  obtain ⟨y, z, hph⟩ := T_phrases hW hC hR1 hs
  have c0 : (Hp_count 0 C).bind rt = some (n3 (A 30 2)) := g_count hW hC (w := 0) (by decide)
  have c1 : (Hp_count 1 C).bind rt = some (n3 (A 30 1)) := g_count hW hC (w := 1) (by decide)
  have c2 : (Hp_count 2 C).bind rt = some (n3 (mA A)) := g_count hW hC (w := 2) (by decide)
  have c3 : (Hp_count 3 C).bind rt = some (n3 (LA A).length) := g_count hW hC (w := 3) (by decide)
  have c4 : (Hp_count 4 C).bind rt = some (n3 (A 30 7)) := g_count hW hC (w := 4) (by decide)
  have c5 : (Hp_count 5 C).bind rt = some (n3 (A 30 11)) := g_count hW hC (w := 5) (by decide)
  have c6 : (Hp_count 6 C).bind rt = some (n3 (A 30 12)) := g_count hW hC (w := 6) (by decide)
  have c7 : (Hp_count 7 C).bind rt = some (n3 (smN (A 31) (A 30 2))) := g_count hW hC (w := 7) (by decide)
  have c8 : (Hp_count 8 C).bind rt = some (bI (decide (smN (A 31) (A 30 2) % A 30 11 = 0))) := g_count hW hC (w := 8) (by decide)
  have c9 : (Hp_count 9 C).bind rt = some (n3 (A 30 13)) := g_count hW hC (w := 9) (by decide)
  have c10 : (Hp_count 10 C).bind rt = some (n3 (nsA A)) := g_count hW hC (w := 10) (by decide)
  have c12 : (Hp_count 12 C).bind rt = some (ftV A 4) := g_count hW hC (w := 12) (by decide)
  have c13 : (Hp_count 13 C).bind rt = some (n3 (fau (A 32) (A 30 2))) := g_count hW hC (w := 13) (by decide)
  have e0 : ldE 6 (M1.1 30) 0 = some (n3 (A 30 1)) := ld30 d0
  have e1 : ldE 6 (M1.1 30) 1 = some (n3 (A 30 2)) := by rw [l_1, ldE_in _ (by decide) (by decide), hT.2.1]
  have e2 : ldE 6 (M1.1 30) 2 = some (n3 (A 30 11)) := by rw [l_2, ldE_in _ (by decide) (by decide), d2]
  have e3 : ldE 6 (M1.1 30) 3 = some (n3 (A 30 12)) := by rw [l_3, ldE_in _ (by decide) (by decide), d3]
  have e4 : ldE 6 (M1.1 30) 4 = some (n3 (A 30 13)) := by rw [l_4, ldE_in _ (by decide) (by decide), d4]
  have e5 : ldE 6 (M1.1 30) 5 = some (n3 (A 30 7)) := by rw [l_5, ldE_in _ (by decide) (by decide), d5]
  have hmod : smN (A 31) (A 30 2) % A 30 11 ≤ smN (A 31) (A 30 2) := Nat.mod_le _ _
  obtain ⟨n1, n2, n3'⟩ := nsA_bd hW
  have hmean := mean_class hW hN hC
  rw [La_told, s1, Option.bind_some]
  dsimp only
  rw [La_phrases_ok hW hT, Option.bind_some, T_notes hW hC hR1 hs, Option.bind_some]
  dsimp only
  rw [hph, Option.bind_some]
  dsimp only
  rw [T_sung hW hC hs, Option.bind_some]
  dsimp only
  rw [T_verses hW hC hR1 hs, Option.bind_some]
  dsimp only
  rw [T_below hW hC hR1 hs, Option.bind_some]
  dsimp only
  rw [c0, Option.bind_some, e1, Option.bind_some, if_pos rfl, c1, Option.bind_some, e0, Option.bind_some, if_pos rfl, c2, Option.bind_some, if_pos rfl, c3, Option.bind_some, if_pos rfl, c4, Option.bind_some, e5, Option.bind_some, if_pos rfl, c5, Option.bind_some, e2, Option.bind_some, if_pos rfl, c6, Option.bind_some, e3, Option.bind_some, if_pos rfl, c7, Option.bind_some, if_pos rfl, c8, Option.bind_some, Option.bind_some, jrm_n3 (by omega) (by omega) (by omega), Option.bind_some, if_pos (show bI (decide (smN (A 31) (A 30 2) % A 30 11 = 0)) = bI (decide (n3 (smN (A 31) (A 30 2) % A 30 11) = 0)) by rw [l_0, dec_eq (by omega) (by omega)]), c9, Option.bind_some, e4, Option.bind_some, if_pos rfl, c10, Option.bind_some, sys_nsA, if_pos rfl, c12, Option.bind_some, if_pos rfl, c13, Option.bind_some, if_pos rfl, hmean, Option.bind_some]
  by_cases c : mA A = 0
  · have hz : nsA A = 0 := by
      unfold nsA nsy
      exact if_pos c
    rw [if_pos (show n3 (mA A) = 0 by rw [c]; rfl)]
    unfold mwV
    rw [if_pos hz, if_pos k_z0, m1, Option.bind_some]
  · have hmA := mA_lt hW
    have hz : 1 ≤ nsA A := by
      unfold nsA nsy
      rw [if_neg (show ¬ phc (eA A) (A 30 2) = 0 from c)]
      omega
    obtain ⟨k1, k2⟩ := mean_ok (a := smN (wA A) (A 30 2)) (b := nsA A) ⟨hz, by omega⟩ ⟨n2, by omega⟩
    rw [if_neg (show ¬ n3 (mA A) = 0 by rw [l_0, n3_eq (by omega) (by omega)]; exact c), mul_ok (by omega), Option.bind_some]
    unfold mwV
    rw [if_neg (show ¬ nsA A = 0 by omega)]
    rw [show ckD (FP.ddiv (FP.i2d (n3 (smN (wA A) (A 30 2)))) (FP.i2d (n3 (nsA A)))) = some (mnD (smN (wA A) (A 30 2)) (nsA A)) from k1, Option.bind_some, if_pos k2, m1, Option.bind_some]
