/-! The law's acts: marks, notes dropped, pitches, bars, widths, repeats cleared, verses cleared. -/
theorem ld_0 (M : hyM) : ldE 6 (M.1 30) 0 = some (M.1 30 0) := ldE_in (n := 6) (i := 0) _ (by decide) (by decide)
theorem st_0 (M : hyM) (x : Int32) : stE M 30 6 0 x = some (wI M 30 0 x) := stE_in (n := 6) (i := 0) _ _ _ (by decide) (by decide)
theorem ld_1 (M : hyM) : ldE 6 (M.1 30) 1 = some (M.1 30 1) := ldE_in (n := 6) (i := 1) _ (by decide) (by decide)
theorem st_1 (M : hyM) (x : Int32) : stE M 30 6 1 x = some (wI M 30 1 x) := stE_in (n := 6) (i := 1) _ _ _ (by decide) (by decide)
theorem ld_2 (M : hyM) : ldE 6 (M.1 30) 2 = some (M.1 30 2) := ldE_in (n := 6) (i := 2) _ (by decide) (by decide)
theorem st_2 (M : hyM) (x : Int32) : stE M 30 6 2 x = some (wI M 30 2 x) := stE_in (n := 6) (i := 2) _ _ _ (by decide) (by decide)
theorem ld_3 (M : hyM) : ldE 6 (M.1 30) 3 = some (M.1 30 3) := ldE_in (n := 6) (i := 3) _ (by decide) (by decide)
theorem st_3 (M : hyM) (x : Int32) : stE M 30 6 3 x = some (wI M 30 3 x) := stE_in (n := 6) (i := 3) _ _ _ (by decide) (by decide)
theorem ld_4 (M : hyM) : ldE 6 (M.1 30) 4 = some (M.1 30 4) := ldE_in (n := 6) (i := 4) _ (by decide) (by decide)
theorem st_4 (M : hyM) (x : Int32) : stE M 30 6 4 x = some (wI M 30 4 x) := stE_in (n := 6) (i := 4) _ _ _ (by decide) (by decide)
theorem ld_5 (M : hyM) : ldE 6 (M.1 30) 5 = some (M.1 30 5) := ldE_in (n := 6) (i := 5) _ (by decide) (by decide)
theorem st_5 (M : hyM) (x : Int32) : stE M 30 6 5 x = some (wI M 30 5 x) := stE_in (n := 6) (i := 5) _ _ _ (by decide) (by decide)
def AO (C M : hyM) : Prop := ∃ B, WFA B ∧ CA B C ∧ LR B M
theorem kpA_same {B : aS} (hW : WFA B) : kpA B = B := by
  have h := kept_same hW
  funext c k
  unfold kpA
  rw [h]
  by_cases c1 : c = 35
  · rw [if_pos c1, c1]; rfl
  · rw [if_neg c1]
    by_cases c2 : c = 36
    · rw [if_pos c2, c2]; rfl
    · rw [if_neg c2]
      by_cases c3 : c = 37
      · rw [if_pos c3, c3]; rfl
      · rw [if_neg c3]
        by_cases c4 : c = 30 ∧ k = 7
        · rw [if_pos c4, c4.1, c4.2]; rfl
        · rw [if_neg c4]
def LD (A : aS) (M : hyM) : Prop := M.1 30 0 = n3 (A 30 1) ∧ M.1 30 2 = n3 (A 30 11) ∧ M.1 30 3 = n3 (A 30 12) ∧ M.1 30 4 = n3 (A 30 13)
theorem LRx {A B : aS} {M N : hyM} (hR : LR A M) (gB : ∀ c k, 35 ≤ c → c ≤ 39 → B c k = A c k) (g30 : ∀ k, k ≠ 2 → B 30 k = A 30 k) (gM : ∀ k, k ≠ 1 → N.1 30 k = M.1 30 k) (gN : ∀ c k, 32 ≤ c → c < 34 → N.1 c k = M.1 c k) : LL B N ∧ LD B N ∧ LRp B N := by
  obtain ⟨hT, hP, hl, ⟨d0, d2, d3, d4, d5⟩, h2, hq⟩ := hR
  have hx : XA B = XA A := by
    unfold XA
    refine Prod.ext ?_ ?_
    · funext r i
      exact gB 39 _ (by decide) (by decide)
    · funext r
      exact gB 38 _ (by decide) (by decide)
  refine ⟨⟨fun v k hv hk => ?_, fun v k hv hk hc => ?_⟩, ⟨by rw [gM _ (by decide), g30 1 (by decide)]; exact d0, by rw [gM _ (by decide), g30 11 (by decide)]; exact d2, by rw [gM _ (by decide), g30 12 (by decide)]; exact d3, by rw [gM _ (by decide), g30 13 (by decide)]; exact d4⟩, by rw [gM _ (by decide), g30 7 (by decide)]; exact d5, by rw [g30 7 (by decide)]; exact h2, fun k hk => ?_⟩
  · rw [gN _ _ (by decide) (by decide)]
    show LIw _ ((XA B).1 _) ((XA B).2 _)
    rw [hx]
    exact hl.1 v k hv hk
  · show (XA B).2 _ = 0
    rw [hx]
    exact hl.2 v k hv hk hc
  · rw [g30 7 (by decide)] at hk
    rw [gN _ _ (by decide) (by decide), gN _ _ (by decide) (by decide), gN _ _ (by decide) (by decide), gB 35 _ (by decide) (by decide), gB 36 _ (by decide) (by decide), gB 37 _ (by decide) (by decide)]
    exact hq k hk
theorem LR_mk {A : aS} {M : hyM} (hT : LT A M) (hP : LPi A M) (hl : LL A M) (hd : LD A M) (hq : LRp A M) : LR A M := ⟨hT, hP, hl, ⟨hd.1, hd.2.1, hd.2.2.1, hd.2.2.2, hq.1⟩, hq.2⟩
theorem settle_LR {B : aS} {M : hyM} (hW : WFA (kpA B)) (hT : LT B M) (hP : LPi B M) (hl : LL B M) (hd : LD B M) (hq : LRp B M) (hb : ∀ i, B 35 i < 1000 ∧ B 36 i < 1000 ∧ B 37 i < 1000) :
    ∃ M', La_settle M = some M' ∧ LR (kpA B) M' ∧ ∀ c k, c ≠ 32 → ¬ (c = 30 ∧ k = 5) → M'.1 c k = M.1 c k := by
  obtain ⟨M', e, q, fr⟩ := La_settle_ok hW (show LT (kpA B) M from hT) hq.1 hq.2.1 hb hq.2.2
  have g : ∀ c k, c ≠ 32 → ¬ (c = 30 ∧ k = 5) → M'.1 c k = M.1 c k := fun c k h1 h2 => fr.2 c k (by
    unfold stcel
    rw [nbf h1, Bool.false_or]
    by_cases c3 : c = 30
    · rw [nbf (fun z => h2 ⟨c3, z⟩), Bool.and_false]
    · rw [nbf c3, Bool.false_and])
  have g30 : ∀ k, k ≠ 5 → M'.1 30 k = M.1 30 k := fun k h => g 30 k (by decide) (fun z => h z.2)
  refine ⟨M', e, LR_mk ⟨hT.1, by rw [g30 1 (by decide)]; exact hT.2.1, fun i hi => by rw [g _ _ (by decide) (fun z => absurd z.1 (by decide))]; exact hT.2.2 i hi⟩ (fun i p hi hp => by rw [g _ _ (by decide) (fun z => absurd z.1 (by decide))]; exact hP i p hi hp) ⟨fun v k hv hk => by rw [g _ _ (by decide) (fun z => absurd z.1 (by decide))]; exact hl.1 v k hv hk, hl.2⟩ ⟨by rw [g30 0 (by decide)]; exact hd.1, by rw [g30 2 (by decide)]; exact hd.2.1, by rw [g30 3 (by decide)]; exact hd.2.2.1, by rw [g30 4 (by decide)]; exact hd.2.2.2⟩ q, g⟩
/-! marks -/
theorem mkA_o {A : aS} {e : Bool} {i : Nat} {on : Bool} {c k : Nat} (h1 : c ≠ 33) (h2 : c ≠ 34) : mkA A e i on c k = A c k := by
  cases e with
  | true => exact uA_ne h2
  | false => exact uA_ne h1
theorem mkA_k {A : aS} {e : Bool} {i : Nat} {on : Bool} {c k : Nat} (h : k ≠ i) : mkA A e i on c k = A c k := uA_nk h
theorem mark_core {A : aS} {C M M1 : hyM} (hW : WFA A) (hC : CA A C) (hR : LR A M) {i : Nat} (hi : i < A 30 2) (e on : Bool) (h1 : M1 = wI M 31 (5 * i) (n3 (nw (A 31 i) (mkA A e i on 34 i) (mkA A e i on 33 i)))) :
    ∃ C' M', ((La_settle M1).bind fun M199 => ((Hp_mark (n3 i) e on C).bind rtM).bind fun (v200, C201) => (La_phrases M199).bind fun v202 => some ((decide (v200 = v202)), C201, M199)) = some (true, C', M') ∧ AO C' M' := by
  obtain ⟨C', e1, w1, q1⟩ := p_mark hW hC hi e on
  have hN := hR.1.1
  obtain ⟨hl, hd, hq⟩ := LRx (B := mkA A e i on) (N := M1) hR (fun c k h2 h3 => mkA_o (by omega) (by omega)) (fun k _ => mkA_o (by decide) (by decide)) (fun k _ => by rw [h1, rd_ne (by decide)]) (fun c k h2 h3 => by rw [h1, rd_ne (by omega)])
  have n2 : mkA A e i on 30 2 = A 30 2 := mkA_o (by decide) (by decide)
  have hT : LT (mkA A e i on) M1 := by
    refine ⟨by rw [n2]; exact hN, by rw [n2, h1, rd_ne (by decide)]; exact hR.1.2.1, fun j hj => ?_⟩
    rw [n2] at hj
    rw [mkA_o (c := 31) (by decide) (by decide)]
    by_cases c : j = i
    · rw [c, h1, rd_eq]
    · rw [h1, rd_nk (by omega), mkA_k c, mkA_k c]
      exact hR.1.2.2 j hj
  have hP : LPi (mkA A e i on) M1 := fun j p hj hp => by
    rw [n2] at hj
    rw [mkA_o (c := 32) (by decide) (by decide), h1, rd_nk (by omega)]
    exact hR.2.1 j p hj hp
  have hb : ∀ j, mkA A e i on 35 j < 1000 ∧ mkA A e i on 36 j < 1000 ∧ mkA A e i on 37 j < 1000 := fun j => by
    rw [mkA_o (c := 35) (by decide) (by decide), mkA_o (c := 36) (by decide) (by decide), mkA_o (c := 37) (by decide) (by decide)]
    exact hW.2.1.2 j
  obtain ⟨M', e2, r2, -⟩ := settle_LR w1 hT hP hl hd hq hb
  rw [e2, Option.bind_some, e1, Option.bind_some]
  dsimp only
  rw [La_phrases_ok w1 r2.1, Option.bind_some, kpA_m, decide_eq_true rfl]
  exact ⟨_, _, rfl, _, w1, q1, r2⟩
theorem act_mark {A : aS} {C M : hyM} (hW : WFA A) (hC : CA A C) (hR : LR A M) (a3 : Int32) {i : Nat} (hi : i < A 30 2) :
    ∃ C' M', ((La_at a3 2 M).bind fun v183 =>
  (La_at (a3 >>> (1 &&& 31)) 4 M).bind fun v185 =>
  (if (!decide (v185 ≤ 0)) then (ldE 60 (M.1 31) (5 * n3 i)).bind fun v197 =>
  (stE M 31 60 (5 * n3 i) (v197 ||| ((if (decide (v183 = 0)) then 2 else 1) : Int32))).bind fun M198 =>
  (La_settle M198).bind fun M199 =>
  ((Hp_mark (n3 i) (decide (v183 = 0)) (!decide (v185 ≤ 0)) C).bind rtM).bind fun (v200, C201) =>
  (La_phrases M199).bind fun v202 =>
  some ((decide (v200 = v202)), C201, M199) else (ldE 60 (M.1 31) (5 * n3 i)).bind fun v189 =>
  (stE M 31 60 (5 * n3 i) (v189 &&& (((if (decide (v183 = 0)) then 2 else 1) : Int32) ^^^ (-1)))).bind fun M190 =>
  (La_settle M190).bind fun M191 =>
  ((Hp_mark (n3 i) (decide (v183 = 0)) (!decide (v185 ≤ 0)) C).bind rtM).bind fun (v192, C193) =>
  (La_phrases M191).bind fun v194 =>
  some ((decide (v192 = v194)), C193, M191))) = some (true, C', M') ∧ AO C' M' := by
  have hN := hR.1.1
  obtain ⟨ra, hra, era⟩ := at_ok a3 (m := 2) (by decide) (by decide) M
  have era : La_at a3 2 M = some (n3 ra) := era
  obtain ⟨rb, hrb, erb⟩ := at_ok (a3 >>> (1 &&& 31)) (m := 4) (by decide) (by decide) M
  have erb : La_at (a3 >>> (1 &&& 31)) 4 M = some (n3 rb) := erb
  obtain ⟨b1, b2, b3⟩ := LT_nw hW hR.1 hi
  obtain ⟨-, -, -, o2, o1, a2, a1⟩ := nw_ok b1 b2 b3
  rw [era, Option.bind_some, erb, Option.bind_some, l_5, n3_mul, ldE_in _ (by omega) (by decide), hR.1.2.2 i hi]
  simp only [Option.bind_some]
  by_cases c : (!decide (n3 rb ≤ 0)) = true
  · rw [if_pos c, c]
    by_cases d : n3 ra = 0
    · rw [decide_eq_true d, if_pos rfl, o2, stE_in _ _ _ (by omega) (by decide), Option.bind_some]
      refine mark_core hW hC hR hi true true ?_
      show _ = wI M 31 (5 * i) (n3 (nw (A 31 i) (uA A 34 i 1 34 i) (A 33 i)))
      rw [uA_eq]
    · rw [decide_eq_false d, if_neg (by decide), o1, stE_in _ _ _ (by omega) (by decide), Option.bind_some]
      refine mark_core hW hC hR hi false true ?_
      show _ = wI M 31 (5 * i) (n3 (nw (A 31 i) (A 34 i) (uA A 33 i 1 33 i)))
      rw [uA_eq]
  · rw [if_neg c, Bool.eq_false_iff.mpr c]
    by_cases d : n3 ra = 0
    · rw [decide_eq_true d, if_pos rfl, a2, stE_in _ _ _ (by omega) (by decide), Option.bind_some]
      refine mark_core hW hC hR hi true false ?_
      show _ = wI M 31 (5 * i) (n3 (nw (A 31 i) (uA A 34 i 0 34 i) (A 33 i)))
      rw [uA_eq]
    · rw [decide_eq_false d, if_neg (by decide), a1, stE_in _ _ _ (by omega) (by decide), Option.bind_some]
      refine mark_core hW hC hR hi false false ?_
      show _ = wI M 31 (5 * i) (n3 (nw (A 31 i) (A 34 i) (uA A 33 i 0 33 i)))
      rw [uA_eq]
/-! the last note dropped -/
theorem act_drop {A : aS} {C M : hyM} (hW : WFA A) (hC : CA A C) (hR : LR A M) (hn : 0 < A 30 2) :
    ∃ C' M', ((ldE 6 (M.1 30) 1).bind fun v175 =>
  (stE M 30 6 1 (v175 - 1)).bind fun M176 =>
  (La_settle M176).bind fun M177 =>
  ((Hp_dropNote C).bind rtM).bind fun (v178, C179) =>
  (ldE 6 (M177.1 30) 1).bind fun v180 =>
  some ((decide (v178 = v180)), C179, M177)) = some (true, C', M') ∧ AO C' M' := by
  have hN := hR.1.1
  obtain ⟨C', e1, w1, q1⟩ := p_dropNote hW hC hn
  rw [ld_1, Option.bind_some, hR.1.2.1, show n3 (A 30 2) - 1 = n3 (A 30 2 - 1) by rw [l_1, n3_sub hn], st_1, Option.bind_some]
  obtain ⟨hl, hd, hq⟩ := LRx (B := uA A 30 2 (A 30 2 - 1)) (N := wI M 30 1 (n3 (A 30 2 - 1))) hR (fun c k h2 h3 => uA_ne (by omega)) (fun k h => uA_nk h) (fun k h => rd_nk h) (fun c k h2 h3 => rd_ne (by omega))
  have hT : LT (uA A 30 2 (A 30 2 - 1)) (wI M 30 1 (n3 (A 30 2 - 1))) := by
    refine ⟨by rw [uA_eq]; omega, by rw [uA_eq, rd_eq], fun j hj => ?_⟩
    rw [uA_eq] at hj
    rw [rd_ne (by decide), uA_ne (by decide), uA_ne (by decide), uA_ne (by decide)]
    exact hR.1.2.2 j (by omega)
  have hP : LPi (uA A 30 2 (A 30 2 - 1)) (wI M 30 1 (n3 (A 30 2 - 1))) := fun j p hj hp => by
    rw [uA_eq] at hj
    rw [rd_ne (by decide), uA_ne (by decide)]
    exact hR.2.1 j p (by omega) hp
  obtain ⟨M', e2, r2, g2⟩ := settle_LR w1 hT hP hl hd hq (fun j => hW.2.1.2 j)
  have e3 : M'.1 30 1 = n3 (A 30 2 - 1) := by rw [g2 _ _ (by decide) (by decide), rd_eq]
  rw [e2, Option.bind_some, e1, Option.bind_some]
  dsimp only
  rw [ld_1, e3, Option.bind_some, decide_eq_true rfl]
  exact ⟨_, _, rfl, _, w1, q1, r2⟩
