/-! The input and the book: states that differ in them alone; a character more. -/
def sB (A B : aS) : Prop := ∀ c k, c ≠ 40 → c ≠ 41 → c ≠ 42 → ¬ (c = 30 ∧ (k = 16 ∨ k = 19)) → B c k = A c k
theorem sB.rf (A : aS) : sB A A := fun _ _ _ _ _ _ => rfl
theorem sB.trans {A B D : aS} (h : sB A B) (g : sB B D) : sB A D := fun c k h0 h1 h2 h3 => (g c k h0 h1 h2 h3).trans (h c k h0 h1 h2 h3)
theorem sB.e {A B : aS} (h : sB A B) : eA B = eA A := by
  funext i
  unfold eA
  rw [h 34 i (by decide) (by decide) (by decide) (fun z => absurd z.1 (by decide))]
theorem sB.s {A B : aS} (h : sB A B) : sA B = sA A := by
  funext i
  unfold sA
  rw [h 33 i (by decide) (by decide) (by decide) (fun z => absurd z.1 (by decide))]
theorem sB.n {A B : aS} (h : sB A B) : B 30 2 = A 30 2 := h 30 2 (by decide) (by decide) (by decide) (by decide)
theorem sB.x {A B : aS} (h : sB A B) : XA B = XA A := by
  unfold XA
  refine Prod.ext ?_ ?_
  · funext r i
    exact h 39 _ (by decide) (by decide) (by decide) (fun z => absurd z.1 (by decide))
  · funext r
    exact h 38 _ (by decide) (by decide) (by decide) (fun z => absurd z.1 (by decide))
theorem sB.rp {A B : aS} (h : sB A B) : rpA B = rpA A := by
  unfold rpA
  refine Prod.ext (h 30 7 (by decide) (by decide) (by decide) (by decide)) (Prod.ext ?_ (Prod.ext ?_ ?_))
  · funext i; exact h 35 i (by decide) (by decide) (by decide) (fun z => absurd z.1 (by decide))
  · funext i; exact h 36 i (by decide) (by decide) (by decide) (fun z => absurd z.1 (by decide))
  · funext i; exact h 37 i (by decide) (by decide) (by decide) (fun z => absurd z.1 (by decide))
theorem sB.m {A B : aS} (h : sB A B) : mA B = mA A := by
  unfold mA
  rw [h.e, h.n]
theorem sB.l {A B : aS} (h : sB A B) : LA B = LA A := by
  unfold LA
  rw [h.rp, h.m]
theorem sB.du {A B : aS} (h : sB A B) : due B = due A := by
  funext k
  unfold due
  rw [h.l, h.e, h.s, h.n]
theorem sB.lr {A B : aS} {M : hyM} (h : sB A B) (hR : LR A M) : LR B M := by
  obtain ⟨hT, hP, hl, ⟨d0, d2, d3, d4, d5⟩, h2, hq⟩ := hR
  have g : ∀ c k, c ≠ 40 → c ≠ 41 → c ≠ 42 → c ≠ 30 → B c k = A c k := fun c k h0 h1 h2 h3 => h c k h0 h1 h2 (fun z => h3 z.1)
  have g30 : ∀ k, k ≠ 16 → k ≠ 19 → B 30 k = A 30 k := fun k h0 h1 => h 30 k (by decide) (by decide) (by decide) (fun z => z.2.elim h0 h1)
  have n2 := h.n
  refine ⟨⟨by rw [n2]; exact hT.1, by rw [n2]; exact hT.2.1, fun i hi => ?_⟩, fun i p hi hp => ?_, ⟨fun v k hv hk => ?_, fun v k hv hk hc => ?_⟩, ⟨by rw [g30 1 (by decide) (by decide)]; exact d0, by rw [g30 11 (by decide) (by decide)]; exact d2, by rw [g30 12 (by decide) (by decide)]; exact d3, by rw [g30 13 (by decide) (by decide)]; exact d4, by rw [g30 7 (by decide) (by decide)]; exact d5⟩, by rw [g30 7 (by decide) (by decide)]; exact h2, fun k hk => ?_⟩
  · rw [n2] at hi
    rw [g 31 i (by decide) (by decide) (by decide) (by decide), g 34 i (by decide) (by decide) (by decide) (by decide), g 33 i (by decide) (by decide) (by decide) (by decide)]
    exact hT.2.2 i hi
  · rw [n2] at hi
    rw [g 32 _ (by decide) (by decide) (by decide) (by decide)]
    exact hP i p hi hp
  · show LIw _ ((XA B).1 _) ((XA B).2 _)
    rw [h.x]
    exact hl.1 v k hv hk
  · show (XA B).2 _ = 0
    rw [h.x]
    exact hl.2 v k hv hk hc
  · rw [g30 7 (by decide) (by decide)] at hk
    rw [g 35 _ (by decide) (by decide) (by decide) (by decide), g 36 _ (by decide) (by decide) (by decide) (by decide), g 37 _ (by decide) (by decide) (by decide) (by decide)]
    exact hq k hk
theorem sB.su {A B : aS} {M : hyM} (h : sB A B) (hs : LSu A M) : LSu B M := by
  unfold LSu
  rw [h.l]
  exact hs
/-- the input alone differs -/
def sI (A B : aS) : Prop := ∀ c k, c ≠ 42 → ¬ (c = 30 ∧ k = 19) → B c k = A c k
theorem sI.rf (A : aS) : sI A A := fun _ _ _ _ => rfl
theorem sI.trans {A B D : aS} (h : sI A B) (g : sI B D) : sI A D := fun c k h0 h1 => (g c k h0 h1).trans (h c k h0 h1)
theorem sI.b {A B : aS} (h : sI A B) : sB A B := fun c k _ _ h2 h3 => h c k h2 (fun z => h3 ⟨z.1, Or.inr z.2⟩)
theorem sI_u (A : aS) (c L v : Nat) : sI A (uA (uA A 42 L c) 30 19 v) := by
  intro c' k h0 h1
  unfold uA
  rw [if_neg h1, if_neg (fun z => h0 z.1)]
theorem sI_0 (A : aS) (v : Nat) : sI A (uA A 30 19 v) := by
  intro c' k h0 h1
  unfold uA
  rw [if_neg h1]
theorem ap_ok {A : aS} {C : hyM} (hW : WFA A) (hC : CA A C) {c L : Nat} (hc : 32 ≤ c ∧ c ≤ 126) (hL : A 30 19 = L) (hd : L < 60) :
    ∃ B C', rtM (Hp_append (n3 c) C) = some (n3 (L + 1), C') ∧ WFA B ∧ CA B C' ∧ sI A B ∧ B 30 19 = L + 1 ∧ B 42 L = c ∧ ∀ i, i < L → B 42 i = A 42 i := by
  subst hL
  obtain ⟨C', e, w, q⟩ := p_append hW hC hc hd
  refine ⟨_, C', e, w, q, sI_u A c (A 30 19) (A 30 19 + 1), uA_eq _ _ _ _, ?_, fun i hi => ?_⟩
  · show uA A 42 (A 30 19) c 42 (A 30 19) = c
    exact uA_eq _ _ _ _
  · show uA A 42 (A 30 19) c 42 i = A 42 i
    exact uA_nk (by omega)
theorem mrn_cg {t t' : Nat → Nat} : ∀ k, (∀ i, i < k → t i = t' i) → mrn t k = mrn t' k := by
  intro k
  induction k with
  | zero => intro _; rfl
  | succ k ih =>
    intro h
    rw [mrn, mrn, ih (fun i hi => h i (by omega)), h k (by omega)]
theorem Fin_end {t : Nat → Nat} {L : Nat} {s : mS} (h : mrn t L = some s) : Fin_ t L L s := ⟨h, Nat.le_refl _, Or.inl rfl⟩
/-- a character of a metre more -/
theorem apm_ok {A : aS} {C : hyM} (hW : WFA A) (hC : CA A C) {c L : Nat} {s s' : mS} (hc : 32 ≤ c ∧ c ≤ 126) (hL : A 30 19 = L) (hd : L < 60) (hs : mrn (A 42) L = some s) (he : mst c s = some s') :
    ∃ B C', rtM (Hp_append (n3 c) C) = some (n3 (L + 1), C') ∧ WFA B ∧ CA B C' ∧ sI A B ∧ B 30 19 = L + 1 ∧ mrn (B 42) (L + 1) = some s' := by
  obtain ⟨B, C', e, w, q, g, g1, g2, g3⟩ := ap_ok hW hC hc hL hd
  refine ⟨B, C', e, w, q, g, g1, ?_⟩
  rw [mrn, mrn_cg L g3, hs, Option.bind_some, g2, he]
theorem mst_dot {k v : Nat} {f : Nat → Nat} (hv : 0 < v) (hk : k < 24) : mst 46 (k, v, false, f) = some (k, 0, false, f) := by
  have e1 : q1 46 (k, v, false, f) = false := rfl
  have e2 : q2 46 (k, v, false, f) = true := q2_iff.mpr ⟨rfl, hv, hk⟩
  rw [mst, e1, if_neg (by decide), e2, if_pos rfl]
theorem mst_dig {k d : Nat} {f : Nat → Nat} (hd : 1 ≤ d ∧ d ≤ 9) : mst (48 + d) (k, 0, false, f) = some (k + 1, d, false, updN f k d) := by
  have e1 : q1 (48 + d) (k, 0, false, f) = true := q1_iff.mpr ⟨⟨by omega, by omega⟩, by dsimp only; omega, by dsimp only; omega, rfl⟩
  rw [mst, e1, if_pos rfl]
  dsimp only
  rw [if_pos rfl, if_pos rfl, show 10 * 0 + (48 + d - 48) = d by omega]
theorem mst_dig2 {k d : Nat} {f : Nat → Nat} (hd : d ≤ 9) : mst (48 + d) (k + 1, 1, false, f) = some (k + 1, 10 + d, false, updN f k (10 + d)) := by
  have e1 : q1 (48 + d) (k + 1, 1, false, f) = true := q1_iff.mpr ⟨⟨by omega, by omega⟩, by dsimp only; omega, by dsimp only; omega, rfl⟩
  rw [mst, e1, if_pos rfl]
  dsimp only
  rw [if_neg (by decide), if_neg (by decide), show 10 * 1 + (48 + d - 48) = 10 + d by omega, Nat.add_sub_cancel]
theorem updN_twice (f : Nat → Nat) (k a b : Nat) : updN (updN f k a) k b = updN f k b := by
  funext j
  unfold updN
  by_cases c : j = k
  · rw [if_pos c, if_pos c]
  · rw [if_neg c, if_neg c, if_neg c]
theorem k_dgt : ∀ w : Fin 20, 48 + (n3 w.val - n3 w.val / 10 * 10) = n3 (48 + w.val % 10) ∧ 48 + n3 w.val / 10 = n3 (48 + w.val / 10) := by decide +kernel
/-- one number of the law's metre as a text; g goes on -/
def mtl (g : Int32 → hyM → Option ((Bool × hyM × hyM) ⊕ (Int32 × Int32 × Int32 × hyM × hyM))) (x9 x10 : Int32) (C11 M16 : hyM) : Option ((Bool × hyM × hyM) ⊕ (Int32 × Int32 × Int32 × hyM × hyM)) :=
  (if x10 ≤ 0 then (ldE 9 (M16.1 35) x10).bind fun v19 =>
  (if v19 ≤ 9 then (ldE 9 (M16.1 35) x10).bind fun v21 =>
  (rtM (Hp_append (48 + (v21 - v21 / 10 * 10)) C11)).bind fun (v22, C23) =>
  (if v22 = (x9 + 1) then (Hp_firstError true C23).bind fun v25 =>
  (if v25 = (x9 + 1) then g (x9 + 1) C23 else some (.inl (false, C23, M16))) else some (.inl (false, C23, M16))) else (ldE 9 (M16.1 35) x10).bind fun v27 =>
  (rtM (Hp_append (48 + (v27 / 10)) C11)).bind fun (v28, C29) =>
  (if v28 = (x9 + 1) then (ldE 9 (M16.1 35) x10).bind fun v31 =>
  (rtM (Hp_append (48 + (v31 - v31 / 10 * 10)) C29)).bind fun (v32, C33) =>
  (if v32 = ((x9 + 1) + 1) then (Hp_firstError true C33).bind fun v35 =>
  (if v35 = ((x9 + 1) + 1) then g ((x9 + 1) + 1) C33 else some (.inl (false, C33, M16))) else some (.inl (false, C33, M16))) else some (.inl (false, C29, M16)))) else (rtM (Hp_append 46 C11)).bind fun (v37, C38) =>
  (if v37 = (x9 + 1) then (ldE 9 (M16.1 35) x10).bind fun v40 =>
  (if v40 ≤ 9 then (ldE 9 (M16.1 35) x10).bind fun v42 =>
  (rtM (Hp_append (48 + (v42 - v42 / 10 * 10)) C38)).bind fun (v43, C44) =>
  (if v43 = ((x9 + 1) + 1) then (Hp_firstError true C44).bind fun v46 =>
  (if v46 = ((x9 + 1) + 1) then g ((x9 + 1) + 1) C44 else some (.inl (false, C44, M16))) else some (.inl (false, C44, M16))) else (ldE 9 (M16.1 35) x10).bind fun v48 =>
  (rtM (Hp_append (48 + (v48 / 10)) C38)).bind fun (v49, C50) =>
  (if v49 = ((x9 + 1) + 1) then (ldE 9 (M16.1 35) x10).bind fun v52 =>
  (rtM (Hp_append (48 + (v52 - v52 / 10 * 10)) C50)).bind fun (v53, C54) =>
  (if v53 = (((x9 + 1) + 1) + 1) then (Hp_firstError true C54).bind fun v56 =>
  (if v56 = (((x9 + 1) + 1) + 1) then g (((x9 + 1) + 1) + 1) C54 else some (.inl (false, C54, M16))) else some (.inl (false, C54, M16))) else some (.inl (false, C50, M16)))) else some (.inl (false, C38, M16))))
/-- the digits of a number, behind a text that a number may begin at -/
theorem mdg_ok {A : aS} {C : hyM} (hW : WFA A) (hC : CA A C) {k L w : Nat} {f : Nat → Nat} (hL : A 30 19 = L) (hd : L + 1 < 60) (hs : mrn (A 42) L = some (k, 0, false, f)) (hw : 1 ≤ w ∧ w ≤ 19) :
    if w ≤ 9 then ∃ (B : aS) (C' : hyM), rtM (Hp_append (n3 (48 + w % 10)) C) = some (n3 (L + 1), C') ∧ WFA B ∧ CA B C' ∧ sI A B ∧ B 30 19 = L + 1 ∧ mrn (B 42) (L + 1) = some (k + 1, w, false, updN f k w)
    else ∃ (B0 : aS) (C0 : hyM), rtM (Hp_append (n3 (48 + w / 10)) C) = some (n3 (L + 1), C0) ∧ ∃ (B : aS) (C' : hyM), rtM (Hp_append (n3 (48 + w % 10)) C0) = some (n3 (L + 1 + 1), C') ∧ WFA B ∧ CA B C' ∧ sI A B ∧ B 30 19 = L + 1 + 1 ∧ mrn (B 42) (L + 1 + 1) = some (k + 1, w, false, updN f k w) ∧ B0 30 19 = L + 1 := by
  by_cases c : w ≤ 9
  · rw [if_pos c, show w % 10 = w by omega]
    exact apm_ok hW hC (c := 48 + w) ⟨by omega, by omega⟩ hL (by omega) hs (mst_dig ⟨hw.1, c⟩)
  · rw [if_neg c]
    have h1 : w / 10 = 1 := by omega
    rw [h1]
    obtain ⟨B0, C0, e0, w0, q0, g0, l0, m0⟩ := apm_ok hW hC (c := 48 + 1) ⟨by omega, by omega⟩ hL (by omega) hs (mst_dig (d := 1) (by decide))
    refine ⟨B0, C0, e0, ?_⟩
    obtain ⟨B, C', e1, w1, q1, g1, l1, m1⟩ := apm_ok w0 q0 (c := 48 + w % 10) ⟨by omega, by omega⟩ l0 (by omega) m0 (mst_dig2 (by omega))
    refine ⟨B, C', e1, w1, q1, g0.trans g1, l1, ?_, l0⟩
    rw [m1, updN_twice, show 10 + w % 10 = w by omega]
theorem mtl_ok {A : aS} {C M : hyM} (hW : WFA A) (hC : CA A C) {k L w : Nat} {s : mS} (g : Int32 → hyM → Option ((Bool × hyM × hyM) ⊕ (Int32 × Int32 × Int32 × hyM × hyM))) (hL : A 30 19 = L) (hL2 : L ≤ 3 * k) (hk : k < 9) (hs : mrn (A 42) L = some s) (s1 : s.1 = k) (s2 : s.2.1 = 0 ↔ k = 0) (s3 : s.2.2.1 = false) (hw : 1 ≤ w ∧ w ≤ 19) (h35 : M.1 35 k = n3 w) :
    ∃ B C' L', mtl g (n3 L) (n3 k) C M = g (n3 L') C' ∧ WFA B ∧ CA B C' ∧ sI A B ∧ B 30 19 = L' ∧ L' ≤ 3 * (k + 1) ∧ mrn (B 42) L' = some (k + 1, w, false, updN s.2.2.2 k w) := by
  obtain ⟨n, v, d, f⟩ := s
  dsimp only at s1 s2 s3
  subst s1 s3
  have hld : ldE 9 (M.1 35) (n3 n) = some (n3 w) := by rw [ldE_in _ (by omega) (by decide), h35]
  obtain ⟨kd1, kd2⟩ := k_dgt ⟨w, by omega⟩
  dsimp only at kd1 kd2
  unfold mtl
  rw [hld, Option.bind_some, show (9 : Int32) = n3 9 from rfl, l_0, ite_le (by omega) (by omega)]
  by_cases c0 : n ≤ 0
  · have hn : n = 0 := by omega
    have hv : v = 0 := s2.mpr hn
    subst hv
    rw [if_pos c0, ite_le (by omega) (by omega)]
    have hm := mdg_ok hW hC hL (by omega) hs hw
    by_cases c : w ≤ 9
    · rw [if_pos c] at hm
      obtain ⟨B, C', e1, w1, q1, g1, l1, m1⟩ := hm
      rw [if_pos c, Option.bind_some, kd1, e1, Option.bind_some]
      dsimp only
      rw [n3_s, if_pos rfl, p_errMetre w1 q1 (by rw [l1]; exact Fin_end m1), Option.bind_some, if_pos rfl]
      exact ⟨B, C', L + 1, rfl, w1, q1, g1, l1, by omega, m1⟩
    · rw [if_neg c] at hm
      obtain ⟨B0, C0, e0, B, C', e1, w1, q1, g1, l1, m1, -⟩ := hm
      rw [if_neg c, Option.bind_some, kd2, e0, Option.bind_some]
      dsimp only
      rw [n3_s, if_pos rfl, Option.bind_some, kd1, e1, Option.bind_some]
      dsimp only
      rw [n3_s, if_pos rfl, p_errMetre w1 q1 (by rw [l1]; exact Fin_end m1), Option.bind_some, if_pos rfl]
      exact ⟨B, C', L + 1 + 1, rfl, w1, q1, g1, l1, by omega, m1⟩
  · have hv : 0 < v := by
      rcases Nat.eq_zero_or_pos v with z | z
      · have := s2.mp z; omega
      · exact z
    obtain ⟨A1, C1, e9, w9, q9, g9, l9, m9⟩ := apm_ok hW hC (c := 46) (by decide) hL (by omega) hs (mst_dot hv (by omega))
    rw [if_neg c0, show (46 : Int32) = n3 46 from rfl, e9, Option.bind_some]
    dsimp only
    rw [n3_s, if_pos rfl, Option.bind_some, ite_le (by omega) (by omega)]
    have hm := mdg_ok w9 q9 l9 (by omega) m9 hw
    by_cases c : w ≤ 9
    · rw [if_pos c] at hm
      obtain ⟨B, C', e1, w1, q1, g1, l1, m1⟩ := hm
      rw [if_pos c, Option.bind_some, kd1, e1, Option.bind_some]
      dsimp only
      rw [n3_s, if_pos rfl, p_errMetre w1 q1 (by rw [l1]; exact Fin_end m1), Option.bind_some, if_pos rfl]
      exact ⟨B, C', L + 1 + 1, rfl, w1, q1, g9.trans g1, l1, by omega, m1⟩
    · rw [if_neg c] at hm
      obtain ⟨B0, C0, e0, B, C', e1, w1, q1, g1, l1, m1, -⟩ := hm
      rw [if_neg c, Option.bind_some, kd2, e0, Option.bind_some]
      dsimp only
      rw [n3_s, if_pos rfl, Option.bind_some, kd1, e1, Option.bind_some]
      dsimp only
      rw [n3_s, if_pos rfl, p_errMetre w1 q1 (by rw [l1]; exact Fin_end m1), Option.bind_some, if_pos rfl]
      exact ⟨B, C', L + 1 + 1 + 1, rfl, w1, q1, g9.trans g1, l1, by omega, m1⟩
