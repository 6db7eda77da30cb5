/-! What the law's own methods need: unsigned shifts, answers that throw nothing, a new array of the law, the script. -/
def jiushr (x y : Int32) : Int32 := (x.toUInt32 >>> (y.toUInt32 &&& Int32.toUInt32 31)).toInt32
def rt {α : Type} (x : Nat ⊕ α) : Option α := match x with | .inl _ => none | .inr v => some v
def rtM {α : Type} (x : (Nat ⊕ α) × hyM) : Option (α × hyM) := match x with | (.inl _, _) => none | (.inr v, M) => some (v, M)
theorem rt_some {α : Type} {x : Nat ⊕ α} {v : α} (h : rt x = some v) : x = .inr v := by
  cases x with
  | inl k => cases h
  | inr w => cases h; rfl
theorem rtM_some {α : Type} {x : (Nat ⊕ α) × hyM} {v : α} {M : hyM} (h : rtM x = some (v, M)) : x = (.inr v, M) := by
  obtain ⟨y, N⟩ := x
  cases y with
  | inl k => cases h
  | inr w => cases h; rfl
theorem rtb_some {α : Type} {x : Option (Nat ⊕ α)} {v : α} (h : x.bind rt = some v) : x = some (.inr v) := by
  cases x with
  | none => cases h
  | some y => exact congrArg some (rt_some h)
theorem rtMb_some {α : Type} {x : Option ((Nat ⊕ α) × hyM)} {v : α} {M : hyM} (h : x.bind rtM = some (v, M)) : x = some (.inr v, M) := by
  cases x with
  | none => cases h
  | some y => exact congrArg some (rtM_some h)
/-- a cell of ints that is new -/
def zM (M : hyM) (c : Nat) : hyM := (fun c' => if c' = c then (fun _ => 0) else M.1 c', M.2)
theorem hy_mono {p : Program} {l : Launch} {e : Env} {R : Room} {s : State} {m : MethodId} {args : Array Value} {below : List Frame} {meth : Method} {c : Code} {H : Heap} {locs : List Loc} {cells slots : Nat} {Q Q2 : State → Prop} {g : JFrame} (hQ : ∀ t, Q t → Q2 t) (k : W p l e R s m args below meth c H locs cells slots Q g) : W p l e R s m args below meth c H locs cells slots Q2 g := by
  intro T hT X
  obtain ⟨t, a1, b1⟩ := k T hT X
  exact ⟨t, a1, hQ t b1⟩
theorem hy_newa {p : Program} {l : Launch} {e : Env} {R : Room} {s : State} {m : MethodId} {args : Array Value} {below : List Frame} {meth : Method} {c : Code} {H : Heap} {locs : List Loc} {cells slots : Nat} {Q : State → Prop} {cc : ByteArray} {pc : Nat} {ls : Array Slot} {rest : List Value} {D : va_G} {cl : List vw_C} {tys : List (ClassId × FieldType)} {ws : va_W} {A : Nat → Prop} {H0 : Heap}
    (hexec : p.tables.exec = Jvm.exec) (hb : c.code = cc) {atype : ArrayType} (harr : (Cond.arrayClass (newarray.typeOf atype)).before args s = true) {ty : FieldType} (hty : newarray.typeOf atype = ty) (hK : va_K D cl tys s) (t0 : Nat) {cA0 : ClassId} (ht : tys[t0]? = some (cA0, ty)) (hno : ∀ cA : ClassId, va_RA s cA ty → s.vm.findClass ("[" ++ ty.toString) = some cA) (hP : va_P D cl ws H) (hD : va_D A ws) (hS : va_S A H0 H locs) (hA : ∀ q, H0.size ≤ q → A q)
    {n : Int32} {N' : Nat} {a0 : vp_A} (ha : ∀ cA : ClassId, vp_cell cA a0 = arrV cA N' (fun _ => defaultValue ty)) (hn : ¬ n < 0) (hN : n.toNatClampNeg = N') (hbytes : N' * componentBytes ty ≤ 536870912) (hcells : cells + 1 ≤ R.cells) (hslots : slots + N' ≤ R.slots) (hdg : decode cc pc = .ok (.newarray atype, 2))
    (kk : ∀ (q : Nat) (H1 : Heap), va_P D cl (ws ++ [(q, .inl (cA0, a0))]) H1 → va_D A (ws ++ [(q, .inl (cA0, a0))]) → va_S A H0 H1 locs → W p l e R s m args below meth c H1 locs (cells + 1) (slots + N') Q (F0 m (pc + 2) ls (.ref q :: rest))) : W p l e R s m args below meth c H locs cells slots Q (F0 m pc ls (.int n :: rest)) := by
  refine va_newa (a0 := a0) hexec hb harr hty hK hP hD hS hA ha hn hN hbytes hcells hslots hdg (fun q cA H1 hK1 hP1 hD1 hS1 => ?_)
  have e1 := hno _ (hK1.2 tys.length (cA, ty) (by simp)).2
  have e2 := hno _ (hK.2 t0 _ ht).2
  have e3 : cA = cA0 := Option.some.inj (e1.symm.trans e2)
  subst e3
  exact kk q H1 hP1 hD1 hS1
theorem ent_cg {G G1 : hyG} (h1 : ∀ j, j < 30 → adr G1 j = adr G j) (h2 : G1.2.1 = G.2.1) (c : Nat) (f : Nat → Int32) (g : Nat → Int64) : ent G1 c f g = ent G c f g := by
  unfold ent arI
  split <;> first | rfl | simp only [h2] | simp only [h1 1 (by decide), h1 2 (by decide), h1 3 (by decide), h1 4 (by decide), h1 5 (by decide), h1 6 (by decide), h1 7 (by decide), h1 8 (by decide), h1 9 (by decide), h1 10 (by decide), h1 11 (by decide), h1 12 (by decide), h1 13 (by decide), h1 14 (by decide), h1 15 (by decide), h1 16 (by decide), h1 17 (by decide), h1 18 (by decide), h1 19 (by decide), h1 20 (by decide), h1 21 (by decide), h1 22 (by decide), h1 23 (by decide), h1 24 (by decide), h1 25 (by decide), h1 26 (by decide), h1 27 (by decide), h1 28 (by decide), h1 29 (by decide)]
/-- G with one array of the law more, at q -/
def gnx (G : hyG) (k q : Nat) : hyG := (G.1, G.2.1, (fun c => if c = 34 + k then q else adr G c), G.2.2.2.1, G.2.2.2.2.1, hyA G, (k + 1, scb G, scn G, scf G))
theorem gnx_adr (G : hyG) (k q : Nat) {c : Nat} (h : c < 34 + k) : adr (gnx G k q) c = adr G c := by
  show (if c = 34 + k then q else adr G c) = adr G c
  rw [if_neg (by omega)]
theorem gnx_ent (G : hyG) (k q c : Nat) (f : Nat → Int32) (g : Nat → Int64) : ent (gnx G k q) c f g = ent G c f g := ent_cg (fun j hj => gnx_adr G k q (by omega)) rfl c f g
theorem pk_zM (T : hyT) (c c' : Nat) (h : 30 ≤ c) (h2 : c < 51) (hc : c' ≠ c) : (pkM (T.1, zM T.2.1 c, T.2.2) c').1 c' = (pkM T c').1 c' ∧ (pkM (T.1, zM T.2.1 c, T.2.2) c').2 c' = (pkM T c').2 c' := by
  unfold pkM zM
  by_cases h3 : c' < 30
  · simp [h3]
  · by_cases h4 : c' < 51
    · simp [h3, h4, hc]
    · simp [h3, h4]
theorem gnx_wld {G : hyG} {T : hyT} {k q N : Nat} (hk : k < 2) (hex : exn G = k) (he : ∀ (G2 : hyG) f g, ent G2 (34 + k) f g = arI G2 N f) :
    wld (gnx G k q) (T.1, zM T.2.1 (34 + k), T.2.2) = wld G T ++ [(q, .inl (G.2.1, N, .inl (fun _ => 0)))] := by
  apply List.ext_getElem?
  intro i
  have ex1 : exn (gnx G k q) = k + 1 := rfl
  rcases Nat.lt_trichotomy i (34 + k) with h | h | h
  · rw [wld_get _ _ _ (by rw [ex1]; omega), List.getElem?_append_left (by rw [wld_len, hex]; exact h), wld_get _ _ _ (by rw [hex]; exact h), gnx_adr G k q h, gnx_ent]
    obtain ⟨e1, e2⟩ := pk_zM T (34 + k) i (by omega) (by omega) (by omega)
    rw [e1, e2]
  · subst h
    rw [wld_get _ _ _ (by rw [ex1]; omega), List.getElem?_append_right (by rw [wld_len, hex]; omega), wld_len, hex, Nat.sub_self, he]
    have e1 : adr (gnx G k q) (34 + k) = q := if_pos rfl
    have e2 : (pkM (T.1, zM T.2.1 (34 + k), T.2.2) (34 + k)).1 (34 + k) = fun _ => 0 := by
      unfold pkM zM
      rw [if_neg (by omega), if_pos (by omega)]
      exact if_pos rfl
    rw [e1, e2]
    rfl
  · rw [List.getElem?_eq_none (by rw [wld_len, ex1]; omega), List.getElem?_eq_none (by rw [List.length_append, wld_len, hex]; simp; omega)]
theorem gnx_back {G : hyG} {T : hyT} {k q : Nat} {H : Heap} (hex : exn G = k) (h : va_P (gnx G k q).1 vwCl (wld (gnx G k q) T) H) : va_P G.1 vwCl (wld G T) H := by
  intro i z hi
  have hl := (List.getElem?_eq_some_iff.mp hi).1
  rw [wld_len, hex] at hl
  refine h i z ?_
  rw [wld_get _ _ _ (by show i < 34 + (k + 1); omega), gnx_adr G k q hl, gnx_ent]
  rw [wld_get _ _ _ (by rw [hex]; exact hl)] at hi
  exact hi
theorem hy_newG {p : Program} {l : Launch} {e : Env} {R : Room} {s : State} {m : MethodId} {args : Array Value} {below : List Frame} {meth : Method} {c : Code} {H : Heap} {locs : List Loc} {cells slots n9 m9 : Nat} {cc : ByteArray} {pc : Nat} {ls : Array Slot} {rest : List Value} {G : hyG} {T T2 : hyT} {o : hyO} {N : Nat} {n : Int32}
    (hx : p.tables.exec = Jvm.exec) (hb : c.code = cc) (hX : hyS G s) (hP : va_P G.1 vwCl (wld G T) H) (hS : va_S (hyA G) s.heap H locs) (harr : (Cond.arrayClass .int).before args s = true) (k : Nat) (hex : exn G = k) (he : ∀ (G2 : hyG) f g, ent G2 (34 + k) f g = arI G2 N f) (hT2 : (T.1, zM T.2.1 (34 + k), T.2.2) = T2) (hk : k < 2)
    (hn : ¬ n < 0) (hN : n.toNatClampNeg = N) (hbytes : N * componentBytes .int ≤ 536870912) (hcells : cells + 1 ≤ R.cells) (hslots : slots + N ≤ R.slots) (hdg : decode cc pc = .ok (.newarray .int, 2))
    (kk : ∀ (G1 : hyG) (H1 : Heap), (∀ j, j < 34 + k → adr G1 j = adr G j) → exn G1 = k + 1 → hyS G1 s → va_P G1.1 vwCl (wld G1 T2) H1 → va_S (hyA G1) s.heap H1 locs → W p l e R s m args below meth c H1 locs (cells + 1) (slots + N) (vx_MQ below (hyQ G1 o) (hyXQ G1 o) args s n9 m9 (hyA G1)) (F0 m (pc + 2) ls (.ref (adr G1 (34 + k)) :: rest))) :
    W p l e R s m args below meth c H locs cells slots (vx_MQ below (hyQ G o) (hyXQ G o) args s n9 m9 (hyA G)) (F0 m pc ls (.int n :: rest)) := by
  subst hT2
  refine hy_newa (atype := .int) (ty := .int) (N' := N) (a0 := (N, .inl (fun _ => 0))) hx hb harr rfl hX.1 0 rfl (fun _ h => h) hP (hX.2.1.D T) hS hX.2.2.1 (fun _ => rfl) hn hN hbytes hcells hslots hdg (fun q H1 hP1 hD1 hS1 => ?_)
  rw [← gnx_wld hk hex he] at hP1 hD1
  have hX1 : hyS (gnx G k q) s := ⟨hX.1, ⟨fun i j hi hj hij => hD1.1 i j _ _ (wld_get _ _ i hi) (wld_get _ _ j hj) hij, fun i hi => hD1.2 i _ (wld_get _ _ i hi)⟩, hX.2.2.1, hX.2.2.2⟩
  have ea : adr (gnx G k q) (34 + k) = q := if_pos rfl
  have K := kk (gnx G k q) H1 (fun j hj => gnx_adr G k q hj) rfl hX1 hP1 hS1
  rw [ea] at K
  refine hy_mono (fun t ht => ?_) K
  obtain ⟨o9, h1, h2, h3⟩ := ht
  refine ⟨o9, h1, h2, ?_⟩
  rcases h3 with ⟨⟨v, b1, b2, b3, b4⟩, L, b5, b6⟩ | ⟨q9, b0, E, ce, L, ⟨k9, c1, c2, c3, c4⟩, b5⟩
  · exact Or.inl ⟨⟨v, b1, b2, gnx_back hex b3, b4⟩, L, b5, b6⟩
  · exact Or.inr ⟨q9, b0, E, ce, L, ⟨k9, c1, c2, gnx_back hex c3, c4⟩, b5⟩
/-- the script's ints, and what stands for those behind its end -/
def scv (G : hyG) (k : Int32) : Option Int32 := if k < Int32.ofNat (scn G) then (ldE (scn G) (scf G) k) else some (2146121005 * (k + 1))
