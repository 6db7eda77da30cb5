/-- a state that the law's tune still tells of, with the law's words anew -/
theorem LR.up {A B : aS} {M N : hyM} (h : LR A M) (gB : ∀ c k, 31 ≤ c → c ≤ 37 → B c k = A c k) (g30 : ∀ k, k ≠ 19 → B 30 k = A 30 k) (gM : ∀ c k, c < 34 → c ≠ 33 → N.1 c k = M.1 c k) (hl : LL B N) : LR B N := by
  obtain ⟨hT, hP, -, ⟨d0, d2, d3, d4, d5⟩, h2, hq⟩ := h
  have n2 : B 30 2 = A 30 2 := g30 2 (by decide)
  refine ⟨⟨by rw [n2]; exact hT.1, by rw [n2, gM _ _ (by decide) (by decide)]; exact hT.2.1, fun i hi => ?_⟩, fun i p hi hp => ?_, hl, ⟨by rw [g30 1 (by decide), gM _ _ (by decide) (by decide)]; exact d0, by rw [g30 11 (by decide), gM _ _ (by decide) (by decide)]; exact d2, by rw [g30 12 (by decide), gM _ _ (by decide) (by decide)]; exact d3, by rw [g30 13 (by decide), gM _ _ (by decide) (by decide)]; exact d4, by rw [g30 7 (by decide), gM _ _ (by decide) (by decide)]; exact d5⟩, by rw [g30 7 (by decide)]; exact h2, fun k hk => ?_⟩
  · rw [n2] at hi
    rw [gM _ _ (by decide) (by decide), gB 31 i (by decide) (by decide), gB 34 i (by decide) (by decide), gB 33 i (by decide) (by decide)]
    exact hT.2.2 i hi
  · rw [n2] at hi
    rw [gM _ _ (by decide) (by decide), gB 32 _ (by decide) (by decide)]
    exact hP i p hi hp
  · rw [g30 7 (by decide)] at hk
    rw [gM _ _ (by decide) (by decide), gM _ _ (by decide) (by decide), gM _ _ (by decide) (by decide), gB 35 _ (by decide) (by decide), gB 36 _ (by decide) (by decide), gB 37 _ (by decide) (by decide)]
    exact hq k hk
theorem lin_or {W z k : Nat} (hz : z < 16) (hk : k < 6) (b : Bool) : n3 W ||| (((n3 z) <<< ((4 * n3 k) &&& 31)) ||| ((if b = true then ((1 : Int32) <<< ((24 + n3 k) &&& 31)) else 0) : Int32)) = n3 (W ||| ((z <<< (4 * k)) ||| (b.toNat <<< (24 + k)))) := by
  obtain ⟨a, c⟩ := k_shl ⟨z, hz⟩ ⟨k, hk⟩
  dsimp only at a c
  rw [a]
  cases b with
  | true => rw [if_pos rfl, c, n3_or, n3_or]; rfl
  | false =>
    rw [if_neg (by decide), show (0 : Int32) = n3 0 from rfl, n3_or, n3_or]
    congr 2
    rw [show false.toNat = 0 from rfl, Nat.zero_shiftLeft]
theorem La_line_L43_ok {A : aS} {C M : hyM} (hW : WFA A) (hC : CA A C) (a1 a2 : Int32) {r : Nat} (hr : r < 6) (h0 : A 30 19 = 0) :
    ∃ B C' L W y, La_line_L43 a1 a2 M (n3 r) hyFu 0 0 0 C = some (.inr (n3 L, n3 W, y, C')) ∧ WFA B ∧ CA B C' ∧ sI A B ∧ B 30 19 = L ∧ LIw (n3 W) (B 42) L ∧ nsS (B 42) L = 1 + r ∧ cpl (B 42) L = true := by
  have key := lpI (σ := Int32 × Int32 × Int32 × hyM) (fun f s => La_line_L43 a1 a2 M (n3 r) f s.1 s.2.1 s.2.2.1 s.2.2.2)
    (fun k s => ∃ B L W, s.1 = n3 L ∧ s.2.1 = n3 W ∧ s.2.2.1 = n3 k ∧ WFA B ∧ CA B s.2.2.2 ∧ sI A B ∧ B 30 19 = L ∧ ((k < 1 + r ∧ ∃ sz en, WB W k sz en ∧ (∀ j, sz j < 16) ∧ TX (B 42) L k 0 sz en) ∨ (k = 1 + r ∧ LIw (n3 W) (B 42) L ∧ nsS (B 42) L = 1 + r ∧ cpl (B 42) L = true))) (1 + r)
    (fun r' => ∃ B C' L W y, r' = .inr (n3 L, n3 W, y, C') ∧ WFA B ∧ CA B C' ∧ sI A B ∧ B 30 19 = L ∧ LIw (n3 W) (B 42) L ∧ nsS (B 42) L = 1 + r ∧ cpl (B 42) L = true)
    ?_ ?_ hyFu 0 (n3 0, n3 0, n3 0, C) (Nat.zero_le _) (hyFu_big (by omega)) ⟨A, 0, 0, rfl, rfl, rfl, hW, hC, sI.rf A, h0, Or.inl ⟨by omega, fun _ => 0, fun _ => false, WB_0 _ _, fun _ => (by decide : 0 < 16), TX_0 _ _ _⟩⟩
  · obtain ⟨r', e, B, C', L, W, y, rfl, q⟩ := key
    exact ⟨B, C', L, W, y, e, q⟩
  · rintro f k ⟨xa, xb, xc, C2⟩ hk ⟨B, L, W, rfl, rfl, rfl, hW2, hC2, hI, hL2, hq⟩
    refine Or.inl ?_
    dsimp only at hC2 ⊢
    obtain ⟨sz, en, hwb, h16, hT⟩ : ∃ sz en, WB W k sz en ∧ (∀ j, sz j < 16) ∧ TX (B 42) L k 0 sz en := by
      rcases hq with q | q
      · exact q.2
      · omega
    obtain ⟨ra, hra, era⟩ := at_ok (a2 >>> (20 &&& 31)) (m := 4) (by decide) (by decide) M
    have era : La_at (a2 >>> (20 &&& 31)) 4 M = some (n3 ra) := era
    have hsz : ∃ rz, rz < 9 ∧ La_at ((a2 >>> ((3 * n3 k) &&& 31)) + n3 k) ((if n3 ra = 0 then 9 else 4) : Int32) M = some (n3 rz) := by
      by_cases c : n3 ra = 0
      · rw [if_pos c]
        exact at_ok _ (m := 9) (by decide) (by decide) M
      · rw [if_neg c]
        obtain ⟨rz, h, e⟩ := at_ok ((a2 >>> ((3 * n3 k) &&& 31)) + n3 k) (m := 4) (by decide) (by decide) M
        exact ⟨rz, by omega, e⟩
    obtain ⟨rz, hrz, erz⟩ := hsz
    rw [La_line_L43, if_neg (show ¬ (1 + n3 r ≤ n3 k) by rw [l_1, n3_add, n3_le (by omega) (by omega)]; omega), era, Option.bind_some, erz, Option.bind_some, show (1 : Int32) + n3 r - 1 = n3 r by rw [l_1, n3_add, n3_sub (by omega), Nat.add_sub_cancel_left], ite_eq (by omega) (by omega), show (1 : Int32) + n3 rz = n3 (1 + rz) by rw [l_1, n3_add]]
    by_cases c : k = r
    · obtain ⟨B', C', y, e1, w1, q1, g1, l1, t1, f1⟩ := sylb_ok hW2 hC2 a2 (M := M) hrz (show k ≤ 5 by omega) hL2 hT (La_line_L145b a2 M (n3 rz)) (fun _ _ _ _ => rfl)
      obtain ⟨u1, u2, u3⟩ := TX_e t1 hwb h16 (by omega) (by omega) f1 (by omega)
      have hor := lin_or (W := W) (z := 1 + rz) (by omega) (show k < 6 by omega) true
      rw [if_pos rfl] at hor
      rw [if_pos c, e1, Option.bind_some]
      dsimp only
      rw [ite_eq (by omega) (by omega), if_pos c, hor, n3_s]
      exact ⟨(n3 (L + (1 + rz)), n3 (W ||| (((1 + rz) <<< (4 * k)) ||| (true.toNat <<< (24 + k)))), n3 (k + 1), C'), rfl, B', _, _, rfl, rfl, rfl, w1, q1, hI.trans g1, l1, Or.inr ⟨by omega, u1, by rw [u2]; omega, u3⟩⟩
    · obtain ⟨rb, hrb, erb⟩ := at_ok (a1 >>> ((n3 k + 7) &&& 31)) (m := 2) (by decide) (by decide) M
      have erb : La_at (a1 >>> ((n3 k + 7) &&& 31)) 2 M = some (n3 rb) := erb
      obtain ⟨B', C', y, e1, w1, q1, g1, l1, t1, f1⟩ := sylb_ok hW2 hC2 a2 (M := M) hrz (show k ≤ 5 by omega) hL2 hT (La_line_L145bb a2 M (n3 rz)) (fun _ _ _ _ => rfl)
      have hL10 := t1.2.2.2.1
      have hor := lin_or (W := W) (z := 1 + rz) (by omega) (show k < 6 by omega) (decide (n3 rb = 0))
      have hcd : (if decide (n3 rb = 0) = true then (32 : Int32) else 45) = n3 (if rb = 0 then 32 else 45) := by
        rw [show decide (n3 rb = 0) = decide (rb = 0) from dec_eq (b := 0) (by omega) (by decide)]
        by_cases c2 : rb = 0
        · rw [if_pos (decide_eq_true c2), if_pos c2]; rfl
        · rw [if_neg (by rw [decide_eq_false c2]; decide), if_neg c2]; rfl
      obtain ⟨B3, C3, e3, w3, q3, g3, l3, x3, y3⟩ := ap_ok w1 q1 (c := if rb = 0 then 32 else 45) (by split <;> decide) l1 (by omega)
      have hT3 := TX_s t1 y3 x3 (by split <;> simp) (by omega) (by omega) f1 (b := decide (n3 rb = 0)) (by
        rw [show decide (n3 rb = 0) = decide (rb = 0) from dec_eq (b := 0) (by omega) (by decide)]
        by_cases c2 : rb = 0
        · rw [if_pos c2, decide_eq_true c2]; rfl
        · rw [if_neg c2, decide_eq_false c2]; rfl)
      have he := p_errLine w3 q3
      rw [l3, hT3.1] at he
      rw [if_neg c, erb, Option.bind_some, e1, Option.bind_some]
      dsimp only
      rw [ite_eq (by omega) (by omega), if_neg c, hor, hcd, e3, Option.bind_some]
      dsimp only
      rw [n3_s, if_pos rfl, he, Option.bind_some, if_pos rfl, n3_s]
      refine ⟨(n3 (L + (1 + rz) + 1), n3 (W ||| (((1 + rz) <<< (4 * k)) ||| ((decide (n3 rb = 0)).toNat <<< (24 + k)))), n3 (k + 1), C3), rfl, B3, _, _, rfl, rfl, rfl, w3, q3, (hI.trans g1).trans g3, l3, Or.inl ⟨by omega, _, _, WB_push hwb (by omega) (by omega), fun i => ?_, hT3⟩⟩
      by_cases e : i = k
      · subst e; rw [updN_eq]; omega
      · rw [updN_ne e]; exact h16 i
  · rintro f ⟨xa, xb, xc, C2⟩ ⟨B, L, W, rfl, rfl, rfl, hW2, hC2, hI, hL2, hq⟩
    dsimp only at hC2 ⊢
    rw [La_line_L43, if_pos (show (1 + n3 r ≤ n3 (1 + r)) by rw [l_1, n3_add, n3_le (by omega) (by omega)]; omega)]
    rcases hq with q | q
    · omega
    · exact ⟨_, rfl, B, C2, L, W, _, rfl, hW2, hC2, hI, hL2, q.2⟩
theorem La_line_ok {A : aS} {C M : hyM} (hW : WFA A) (hC : CA A C) (hR : LR A M) (a1 a2 : Int32) :
    ∃ C' M', La_line a1 a2 C M = some (true, C', M') ∧ ∃ B, WFA B ∧ CA B C' ∧ LR B M' := by
  obtain ⟨v, hv, ev⟩ := at_ok a1 (m := 2) (by decide) (by decide) M
  have ev : La_at a1 2 M = some (n3 v) := ev
  obtain ⟨k, hk, ek⟩ := at_ok (a1 >>> (1 &&& 31)) (m := 8) (by decide) (by decide) M
  have ek : La_at (a1 >>> (1 &&& 31)) 8 M = some (n3 k) := ek
  obtain ⟨r, hr, er⟩ := at_ok (a1 >>> (4 &&& 31)) (m := 6) (by decide) (by decide) M
  have er : La_at (a1 >>> (4 &&& 31)) 6 M = some (n3 r) := er
  obtain ⟨ci, w0, q0⟩ := p_clearInput hW hC
  obtain ⟨B, C1, L, W, y, e1, w1, q1, g1, hL, hw1, hw2, hw3⟩ := La_line_L43_ok (M := M) w0 q0 a1 a2 hr (uA_eq _ _ _ _)
  have hI : sI A B := (sI_0 A 0).trans g1
  have hRB := hI.b.lr hR
  have hlg : (lgo (B 42) (B 30 19) 0 0).1 = L := by
    have z := hw3
    unfold cpl at z
    rw [Bool.and_eq_true, decide_eq_true_eq] at z
    rw [hL]
    exact z.1
  have he := p_errLine w1 q1
  rw [hlg] at he
  obtain ⟨C2, e2, w2, q2⟩ := p_setLine w1 q1 (v := v) (l := k) (by omega) (by omega) (by rw [hL]; exact hw3)
  have hrl : rwL (slA B (v * 24 + k)) (v * 24 + k) = L := by
    show slA B (v * 24 + k) 38 (v * 24 + k) = L
    rw [slA_38, if_pos rfl, hL]
  have hrow : ∀ i, i < L → B 42 i = rwT (slA B (v * 24 + k)) (v * 24 + k) i := fun i hi => sl_row B (v * 24 + k) i (by omega)
  have hns : nsS (rwT (slA B (v * 24 + k)) (v * 24 + k)) (rwL (slA B (v * 24 + k)) (v * 24 + k)) = 1 + r := by
    rw [hrl, ← ns_cg hrow, hw2]
  rw [hns] at e2
  have hVT := cpl_VT hw3
  have hVL : VL (B 42) L := ⟨by rw [← hL]; exact w1.2.2.2.2.2.1, Or.inr hVT, w1.2.2.2.2.2.2⟩
  obtain ⟨ci2, w3, q3⟩ := p_clearInput w2 q2
  have hll : LL (slA B (v * 24 + k)) (wI M 33 (8 * v + k) (n3 W)) := by
    refine ⟨fun v' k' hv' hk' => ?_, fun v' k' hv' hk' hc => ?_⟩
    · by_cases c : v' = v ∧ k' = k
      · obtain ⟨rfl, rfl⟩ := c
        rw [rd_eq, hrl]
        exact LIw_cg hrow hVL hw1
      · rw [rd_nk (by omega)]
        have hne : v' * 24 + k' ≠ v * 24 + k := by omega
        have hl2 : rwL (slA B (v * 24 + k)) (v' * 24 + k') = rwL B (v' * 24 + k') := by
          show slA B (v * 24 + k) 38 (v' * 24 + k') = B 38 (v' * 24 + k')
          rw [slA_38, if_neg hne]
        rw [hl2]
        exact LIw_cg (sl_oth w1 hne) (w1.2.2.2.1 _) (hRB.2.2.1.1 v' k' hv' hk')
    · show slA B (v * 24 + k) 38 (v' * 24 + k') = 0
      rw [slA_38, if_neg (by omega)]
      exact hRB.2.2.1.2 v' k' hv' hk' hc
  have hR3 : LR (slA B (v * 24 + k)) (wI M 33 (8 * v + k) (n3 W)) := hRB.up (fun c k' h1 h2 => slA_o B _ (by omega) (by omega) (fun z => by omega)) (fun k' h => slA_o B _ (by decide) (by decide) (fun z => h z.2)) (fun c k' _ h => rd_ne h) hll
  have h19 : slA B (v * 24 + k) 30 19 = 0 := by
    unfold slA
    rw [if_neg (fun z => absurd z.1 (by decide)), if_neg (fun z => absurd z.1 (by decide)), if_pos (by decide)]
  rw [La_line, ev, Option.bind_some, ek, Option.bind_some, er, Option.bind_some, ci, Option.bind_some]
  dsimp only
  rw [e1, Option.bind_some]
  dsimp only
  rw [show (8 : Int32) * n3 v + n3 k = n3 (8 * v + k) by rw [show (8 : Int32) = n3 8 from rfl, n3_mul, n3_add], stE_in _ _ _ (by omega) (by decide), Option.bind_some, he, Option.bind_some, if_pos rfl, e2, Option.bind_some]
  dsimp only
  rw [show (1 : Int32) + n3 r = n3 (1 + r) by rw [l_1, n3_add], if_pos rfl, ci2, Option.bind_some]
  dsimp only
  rw [h19, show decide (n3 0 = (0 : Int32)) = true by decide]
  exact ⟨_, _, rfl, _, w3, q3, (sI_0 _ 0).b.lr hR3⟩
