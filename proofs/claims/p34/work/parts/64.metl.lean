/-! The law's look at the metres is always true. -/
theorem mst_D {k : Nat} {f : Nat → Nat} (h : 1 ≤ k ∧ 2 * k ≤ 24) : mst 68 (k, 0, false, f) = some (k, 0, true, f) := by
  have e1 : q1 68 (k, 0, false, f) = false := rfl
  have e2 : q2 68 (k, 0, false, f) = false := rfl
  have e3 : q3 68 (k, 0, false, f) = true := q3_iff.mpr ⟨rfl, rfl, rfl, by dsimp only; omega, h.2⟩
  rw [mst, e1, if_neg (by decide), e2, if_neg (by decide), e3, if_pos rfl]
theorem mst_D1 {k : Nat} {f : Nat → Nat} : mst 49 (k, 0, true, f) = none := rfl
theorem moA_sB (A : aS) (sz : Nat) (g : Nat → Nat) : sB A (moA A sz g) := fun _ _ h0 h1 _ h3 => moA_o A sz g h1 h0 (fun z => h3 ⟨z.1, Or.inl z.2⟩) (fun z => h3 ⟨z.1, Or.inr z.2⟩)
theorem drA_sB (A : aS) (x : Nat) : sB A (drA A x) := fun _ _ h0 h1 _ h3 => drA_o A x h0 h1 (fun z => h3 ⟨z.1, Or.inl z.2⟩)
/-- the law reads a metre of the book back -/
theorem La_L399_ok {A B : aS} {C M : hyM} (hW : WFA B) (hC : CA B C) (h24 : (LA A).length ≤ 24) {m : Nat} (hm : m < B 30 16) (hz : B 40 m = nnM A) (hg : ∀ i, i < nnM A → M.1 35 i = n3 (B 41 (24 * m + i))) :
    ∃ y, La_metres_L399 (n3 (LA A).length) (n3 m) M C hyFu 0 = some (.inr y) := by
  obtain ⟨hn1, hn8⟩ := nnM_le A
  have hnn := nnM_eq h24
  refine ⟨n3 (nnM A + 1), ?_⟩
  refine lpE (fun f (s : Int32) => La_metres_L399 (n3 (LA A).length) (n3 m) M C f s) n3 (nnM A + 1) _ ?_ ?_ hyFu 0 (Nat.zero_le _) (hyFu_big (by omega))
  · intro f k hk
    rw [La_metres_L399, hnn, if_neg (by rw [n3_lt (by omega) (by omega)]; omega), g_metre hW hC hm (by omega), hz, Option.bind_some, ite_le (by omega) (by omega), n3_s]
    by_cases c : nnM A ≤ k
    · rw [if_pos c, if_neg (show ¬ k < nnM A by omega), if_pos rfl]
    · rw [if_neg c, if_pos (show k < nnM A by omega), ldE_in _ (by omega) (by decide), hg k (by omega), Option.bind_some, if_pos rfl]
  · intro f
    rw [La_metres_L399, hnn, if_pos (by rw [n3_lt (by omega) (by omega)]; omega)]
theorem La_metres_ok {A : aS} {C M : hyM} (hW : WFA A) (hC : CA A C) (hR : LR A M) (hs : LSu A M) (x : Int32) :
    ∃ C' M', La_metres x (n3 (LA A).length) C M = some (true, C', M') ∧ ∃ B, WFA B ∧ CA B C' ∧ LR B M' := by
  have h24 := hs.1
  have hz : ∀ c k, c ≠ 35 → (zM M 35).1 c k = M.1 c k := fun c k hc => by
    show (if c = 35 then (fun _ => 0) else M.1 c) k = M.1 c k
    rw [if_neg hc]
  have hR0 : LR A (zM M 35) := hR.fr (fun c k hc => hz c k (by omega))
  have hs0 : LSu A (zM M 35) := ⟨hs.1, fun k p h => by rw [hz _ _ (by decide)]; exact hs.2 k p h⟩
  have hp8 := hW.2.2.2.2.1.1
  have hnn := nnM_eq h24
  rw [l_0] at hnn
  have h11 : (Hp_count 11 C).bind rt = some (n3 (A 30 16)) := g_count hW hC (w := 11) (by decide)
  obtain ⟨r4, hr4, er4⟩ := at_ok x (m := 3) (by decide) (by decide) (zM M 35)
  have er4 : La_at x 3 (zM M 35) = some (n3 r4) := er4
  rw [La_metres, h11, Option.bind_some, er4, Option.bind_some, l_0, ite_le (by omega) (by omega)]
  by_cases c4 : r4 ≤ 0
  · obtain ⟨ci, w0, q0⟩ := p_clearInput hW hC
    have hI0 : sI A (uA A 30 19 0) := sI_0 A 0
    have hR1 : LR (uA A 30 19 0) (zM M 35) := hI0.b.lr hR0
    have hs1 : LSu (uA A 30 19 0) (zM M 35) := hI0.b.su hs0
    have hl1 : LA (uA A 30 19 0) = LA A := hI0.b.l
    have hd1 : due (uA A 30 19 0) = due A := hI0.b.du
    obtain ⟨B, C1, M1, far, L, sm, e1, wB, qB, gB, hL, hL2, hm, m1, m2, m3, m4, m5, m6⟩ := M_text w0 q0 hR1 hs1 (uA_eq _ _ _ _) x
    have hn1 : nnM (uA A 30 19 0) = nnM A := by unfold nnM; rw [hl1]
    have ho1 : ownM (uA A 30 19 0) = ownM A := by funext k; unfold ownM; rw [hl1, hd1]
    rw [hn1, hl1] at e1
    rw [hn1] at m1 m4 m5
    rw [ho1] at m4 m5
    obtain ⟨nn1, nn8⟩ := nnM_le A
    have hIB : sI A B := hI0.trans gB
    have hRB : LR B M1 := (hIB.b.lr hR0).fr (fun c k hc => m6 c k (by omega))
    have hpB : B 30 16 = A 30 16 := hIB 30 16 (by decide) (by decide)
    obtain ⟨n, v, d, f⟩ := sm
    dsimp only at m1 m2 m3 m4 m5
    subst m1 m3
    obtain ⟨rt0, hr0, er0⟩ := at_ok (x >>> (9 &&& 31)) (m := 3) (by decide) (by decide) M1
    have er0 : La_at (x >>> (9 &&& 31)) 3 M1 = some (n3 rt0) := er0
    rw [if_pos c4, ci, Option.bind_some]
    dsimp only
    rw [show La_metres_L55 x (n3 (LA A).length) hyFu (n3 0) (n3 0) (n3 0) (wI C 28 1 0) (zM M 35) = _ from e1, Option.bind_some]
    dsimp only
    rw [er0, Option.bind_some, dec_eq (by omega) (by decide)]
    by_cases c0 : rt0 = 0
    · rw [decide_eq_true c0, if_pos rfl]
      obtain ⟨B2, C2, e2, w2, q2, g2, l2, t2⟩ := apm_ok wB qB (c := 46) (by decide) hL (by omega) hm (mst_dot m2 (by omega))
      obtain ⟨B3, C3, e3, w3, q3, g3, l3, t3⟩ := apm_ok w2 q2 (c := 68) (by decide) l2 (by omega) t2 (mst_D (by omega))
      obtain ⟨B4, C4, e4, w4, q4, g4, l4, x4, y4⟩ := ap_ok w3 q3 (c := 49) (by decide) l3 (by omega)
      have F4 : Fin_ (B4 42) (B4 30 19) (L + 1 + 1) (nnM A, 0, true, f) := by
        refine ⟨?_, by omega, Or.inr ?_⟩
        · rw [mrn_cg (L + 1 + 1) y4]; exact t3
        · rw [x4]; exact mst_D1
      obtain ⟨ci4, w5, q5⟩ := p_clearInput w4 q4
      rw [show (46 : Int32) = n3 46 from rfl, e2, Option.bind_some]
      dsimp only
      rw [n3_s, if_pos rfl, show (68 : Int32) = n3 68 from rfl, e3, Option.bind_some]
      dsimp only
      rw [n3_s, if_pos rfl, p_errMetre w3 q3 (by rw [l3]; exact Fin_end t3), Option.bind_some, if_pos rfl, show (49 : Int32) = n3 49 from rfl, e4, Option.bind_some]
      dsimp only
      rw [n3_s, if_pos rfl, p_errMetre w4 q4 F4, Option.bind_some, if_pos rfl, if_pos rfl, ci4, Option.bind_some]
      dsimp only
      rw [l4, decide_eq_true rfl]
      exact ⟨_, _, rfl, _, w5, q5, (g2.trans (g3.trans (g4.trans (sI_0 B4 0)))).b.lr hRB⟩
    · rw [decide_eq_false c0, if_neg (by decide), if_neg (by decide), show (8 : Int32) = n3 8 from rfl, ite_eq (by omega) (by omega)]
      by_cases c8 : A 30 16 = 8
      · obtain ⟨ciB, w5, q5⟩ := p_clearInput wB qB
        rw [if_pos c8, ciB, Option.bind_some]
        dsimp only
        rw [hL, decide_eq_true rfl]
        exact ⟨_, _, rfl, _, w5, q5, (sI_0 B 0).b.lr hRB⟩
      · rw [if_neg c8]
        have F1 : Fin_ (B 42) (B 30 19) L (nnM A, v, false, f) := by rw [hL]; exact Fin_end hm
        have hok : okm (B 30 19) L (nnM A, v, false, f) = true := by
          unfold okm
          rw [hL, decide_eq_true rfl, decide_eq_true m2]
          rfl
        obtain ⟨C2, e2, w2, q2⟩ := p_addMetre wB qB F1 hok (by omega)
        have hsz : szM (nnM A, v, false, f) = nnM A := if_neg (show ¬ v = 0 by omega)
        rw [hsz] at w2 q2
        generalize hD0 : moA B (nnM A) (fun j => (nnM A, v, false, f).2.2.2 (j % (nnM A, v, false, f).1)) = D0 at w2 q2
        have hsD0 : sB B D0 := by rw [← hD0]; exact moA_sB _ _ _
        obtain ⟨ci3, w3, q3⟩ := p_clearInput w2 q2
        have hsD : sB B (uA D0 30 19 0) := hsD0.trans (sI_0 D0 0).b
        have h19 : D0 30 19 = 0 := by
          rw [← hD0]
          unfold moA
          rw [if_neg (fun z => absurd z.1 (by decide)), if_neg (fun z => absurd z.1 (by decide)), if_neg (by decide), if_pos (by decide)]
        have h16 : uA D0 30 19 0 30 16 = A 30 16 + 1 := by
          rw [uA_nk (by decide), ← hD0]
          unfold moA
          rw [if_neg (fun z => absurd z.1 (by decide)), if_neg (fun z => absurd z.1 (by decide)), if_pos ⟨rfl, rfl⟩, hpB]
        have h40 : uA D0 30 19 0 40 (A 30 16) = nnM A := by
          rw [uA_ne (by decide), ← hD0, moA_40, if_pos hpB.symm]
        have h41 : ∀ i, i < nnM A → uA D0 30 19 0 41 (24 * A 30 16 + i) = f i := fun i hi => by
          rw [uA_ne (by decide), ← hD0, moA_41, hpB, if_pos (by omega), Nat.add_sub_cancel_left]
          dsimp only
          rw [Nat.mod_eq_of_lt hi]
        generalize uA D0 30 19 0 = D at w3 q3 hsD h16 h40 h41
        have hRD : LR D M1 := hsD.lr hRB
        have hlD : LA D = LA A := by rw [hsD.l, hIB.b.l]
        have hdD : due D = due A := by rw [hsD.du, hIB.b.du]
        have hmD : A 30 16 < D 30 16 := by omega
        have hds : dsV D (A 30 16) = (if n3 (nnM A) = n3 (LA A).length then n3 far else (-1 : Int32)) := by
          unfold dsV
          rw [h40, hlD, ite_eq (by omega) (by omega)]
          by_cases c : nnM A = (LA A).length
          · rw [if_pos c, if_pos c, m5]
            congr 1
            unfold dsN
            rw [hlD, hdD, ← c]
            refine smN_congr (fun i hi => ?_)
            rw [h41 i hi]
            have ho := (m4 i hi).2.1
            have hoi : ownM A i = due A i := if_pos (by omega)
            rw [hoi] at ho ⊢
            unfold adf
            omega
          · rw [if_neg c, if_neg c]
        obtain ⟨y, ey⟩ := La_L399_ok w3 q3 h24 hmD h40 (fun i hi => by rw [h41 i hi]; exact (m4 i hi).1)
        obtain ⟨z, ez⟩ := near_loop w3 q3 (st := A 30 16) h16.symm (La_metres_L448 (wI C2 28 1 0)) (fun _ _ _ => rfl)
        obtain ⟨r5, hr5, er5⟩ := at_ok (x >>> (4 &&& 31)) (m := 3) (by decide) (by decide) M1
        have er5 : La_at (x >>> (4 &&& 31)) 3 M1 = some (n3 r5) := er5
        rw [e2, Option.bind_some]
        dsimp only
        rw [hpB, if_pos rfl, ci3, Option.bind_some]
        dsimp only
        rw [h19, if_pos rfl, g_distance w3 q3 hmD, hds, Option.bind_some, hnn, if_pos rfl, show La_metres_L399 (n3 (LA A).length) (n3 (A 30 16)) M1 (wI C2 28 1 0) hyFu (n3 0) = _ from ey, Option.bind_some]
        dsimp only
        rw [show La_metres_L448 (wI C2 28 1 0) hyFu (-1) (n3 (A 30 16)) = _ from ez, Option.bind_some]
        dsimp only
        rw [near_class w3 q3, Option.bind_some, if_pos rfl, er5, Option.bind_some]
        by_cases c5 : n3 0 < n3 r5
        · rw [if_pos c5]
          exact ⟨_, _, rfl, D, w3, q3, hRD⟩
        · rw [if_neg c5]
          obtain ⟨C6, e6, w6, q6⟩ := p_dropMetre w3 q3 hmD
          rw [e6, Option.bind_some]
          dsimp only
          rw [h16, Nat.add_sub_cancel, decide_eq_true rfl]
          exact ⟨_, _, rfl, _, w6, q6, (drA_sB D _).lr hRD⟩
  · rw [if_neg c4]
    exact ⟨_, _, rfl, A, hW, hC, hR0⟩
