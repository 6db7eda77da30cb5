/-! What a method's start says beside its world: the tables' words, the static arrays, the throwing machinery, the texts. -/
def hyNk (w : Cond) : Bool := match w with | .methodLinkNest .. => true | .fieldLinkNest .. => true | .declares .. => true | .castable .. => true | _ => false
def hyGood : List Cond := lw_tbl.filter goodWord
def hyNest : List Cond := lw_tbl.filter hyNk
theorem hy_gin {w : Cond} (i : Nat) (h : lw_tbl[i]? = some w) (g : goodWord w = true) : w ∈ hyGood := List.mem_filter.mpr ⟨List.mem_of_getElem? h, g⟩
theorem hy_nin {w : Cond} (i : Nat) (h : lw_tbl[i]? = some w) (g : hyNk w = true) : w ∈ hyNest := List.mem_filter.mpr ⟨List.mem_of_getElem? h, g⟩
def hyNw (U : State) : Prop := ∀ w ∈ hyNest, va_Nw w U
theorem hyNk_tab {w : Cond} (h : hyNk w = true) : w.onTables = true := by
  cases w <;> first | rfl | (simp [hyNk] at h)
theorem hyNk_warm {w : Cond} (h : hyNk w = true) {s U : State} (hW : s.WarmedH U.vm) (hZ : va_Nw w s) : va_Nw w U := by
  cases w <;> first | exact va_Nw.warmF hW hZ | exact va_Nw.warmM hW hZ | exact va_Nw.warmD hW hZ | exact va_Nw.warmC hW hZ | (simp [hyNk] at h)
theorem hyNw.warm {s U : State} (hW : s.WarmedH U.vm) (h : hyNw s) : hyNw U := fun w hw => hyNk_warm (List.mem_filter.mp hw).2 hW (h w hw)
theorem hyNw.same {u U : State} (hv : u.vm = U.vm) (h : hyNw u) : hyNw U := fun w hw => (h w hw).same (hyNk_tab (List.mem_filter.mp hw).2) hv
theorem hyNw.of {s : State} {args : Array Value} (h : ∀ w ∈ lw_tbl, w.before args s = true) : hyNw s := fun w hw => va_Nw.of (hyNk_tab (List.mem_filter.mp hw).2) (h w (List.mem_filter.mp hw).1)
theorem hyNw.use {s : State} (h : hyNw s) {w : Cond} (hw : w ∈ hyNest) (args : Array Value) : w.before args s = true := (h w hw).use (hyNk_tab (List.mem_filter.mp hw).2)
/-- the static arrays of Key: names, lengths, what they hold -/
def hyKn (i : Nat) : String := match i with | 0 => "MAJOR" | 1 => "TONIC_LETTERS" | 2 => "SHAPES" | _ => "BOTTOM_LINES"
def hyKl (i : Nat) : Nat := match i with | 0 => 7 | 1 => 12 | 2 => 7 | _ => 2
def hyKf (i : Nat) : Nat → Int32 := match i with
  | 0 => fun j => ([0, 2, 4, 5, 7, 9, 11] : List Int32).getD j 0
  | 1 => fun j => ([0, 1, 1, 2, 2, 3, 4, 4, 5, 5, 6, 6] : List Int32).getD j 0
  | 2 => fun j => ([0, 1, 2, 0, 1, 2, 3] : List Int32).getD j 0
  | _ => fun j => ([37, 25] : List Int32).getD j 0
def hyStr : List (Nat × String) := [(300, "an argument is out of range"), (104, "the tune has all its notes"), (113, "there are no notes"), (297, "there is no such number"), (143, "there are all the repeats"), (149, "a repeat has one of these phrases"), (158, "a pitch would be out of range"), (170, "the buffer is full"), (187, "the buffer is not a complete line"), (200, "the buffer is not a complete metre"), (203, "the book is full")]
theorem va_X_lt {b L : Nat} {xs : Nat → Int32} {U : State} {H : Heap} (h : va_X b L xs U H) : b < H.size := (Array.getElem?_eq_some_iff.mp h.choose_spec.1).1
def hyE (G : hyG) (U : State) (H : Heap) : Prop :=
  hyNw U ∧ (∀ i, i < 4 → va_Z "HymnPage$Key" (hyKn i) "[I" (.ref (exa G i)) (hyA G) U H ∧ va_T .int (exa G i) (hyKl i) (fun j => .int (hyKf i j)) (hyA G) U H) ∧
  vx_Zq Bundle.tN "UNASSIGNED_STACK" Bundle.steD (hyA G) U H ∧ vx_Zq Bundle.tN "SUPPRESSED_SENTINEL" Bundle.listD (hyA G) U H ∧ (∀ q ∈ hyStr, vk_R RX10 q.1 q.2 (sta G q.1) U) ∧ va_X (scb G) (scn G) (scf G) U H ∧ ¬ hyA G (scb G)
theorem hyE.kept {G : hyG} {U : State} {H H1 : Heap} (h : hyE G U H) (hq : ∀ a : Nat, a < H.size → ¬ hyA G a → H1[a]? = H[a]?) : hyE G U H1 :=
  ⟨h.1, fun i hi => ⟨(h.2.1 i hi).1.kept hq, (h.2.1 i hi).2.kept hq⟩, h.2.2.1.kept hq, h.2.2.2.1.kept hq, h.2.2.2.2.1, h.2.2.2.2.2.1.kept (hq _ (va_X_lt h.2.2.2.2.2.1) h.2.2.2.2.2.2), h.2.2.2.2.2.2⟩
theorem hyE.warm {G : hyG} {s U : State} {H : Heap} (hW : s.WarmedH U.vm) (h : hyE G s H) : hyE G U H :=
  ⟨h.1.warm hW, fun i hi => ⟨va_Z.moved hW.alike (h.2.1 i hi).1, va_T.moved hW.alike (h.2.1 i hi).2⟩, vx_Zq.moved hW.alike h.2.2.1, vx_Zq.moved hW.alike h.2.2.2.1, fun q hq => (h.2.2.2.2.1 q hq).warm hW, va_X.moved hW.alike h.2.2.2.2.2.1, h.2.2.2.2.2.2⟩
theorem hy_alike {u U : State} (hv : u.vm = U.vm) : u.vm.Alike U.vm := by rw [hv]; exact Vm.Alike.refl _
theorem hyE.same {G : hyG} {u U : State} {H : Heap} (hv : u.vm = U.vm) (h : hyE G u H) : hyE G U H :=
  ⟨h.1.same hv, fun i hi => ⟨va_Z.moved (hy_alike hv) (h.2.1 i hi).1, va_T.moved (hy_alike hv) (h.2.1 i hi).2⟩, vx_Zq.moved (hy_alike hv) h.2.2.1, vx_Zq.moved (hy_alike hv) h.2.2.2.1, fun q hq => vk_R.same hv.symm (h.2.2.2.2.1 q hq), va_X.moved (hy_alike hv) h.2.2.2.2.2.1, h.2.2.2.2.2.2⟩
/-- the static context of a method that starts at s -/
def hyS (G : hyG) (s : State) : Prop := va_K G.1 vwCl (hyTy G) s ∧ hyAD G ∧ (∀ q : Nat, s.heap.size ≤ q → hyA G q) ∧ hyE G s s.heap
def hyP (G : hyG) (T : hyT) (U : State) : Prop := va_P G.1 vwCl (wld G T) U.heap ∧ hyS G U
theorem hyP.blind {G : hyG} {T : hyT} {av : List Value} : FrameBlind (va_Pc av (hyP G T)) := by
  intro a U g mk h
  obtain ⟨h1, h2, h3, h4, h5, h6⟩ := h
  exact ⟨h1, h2, va_K.moved (u := U) (U := U.calling g mk a) (Vm.Alike.refl U.vm) h3, h4, h5, (hyE.same (u := U) (U := U.calling g mk a) (H := U.heap) rfl h6 : hyE G (U.calling g mk a) U.heap)⟩
theorem hyP.at {G : hyG} {T : hyT} {s : State} {H : Heap} {locs : List Loc} (hX : hyS G s) (hP : va_P G.1 vwCl (wld G T) H) (hS : va_S (hyA G) s.heap H locs) {U : State} (hU : U.heap = H) (hW : s.WarmedH U.vm) : hyP G T U := by
  refine ⟨by rw [hU]; exact hP, va_K.moved hW.alike hX.1, hX.2.1, fun q hq => hX.2.2.1 q (Nat.le_trans hS.1 (by rw [← hU]; exact hq)), ?_⟩
  rw [hU]
  exact (hX.2.2.2.kept hS.2.1).warm hW
/-- an outcome: an exception by its number, or what is returned; with the ints and longs behind it -/
abbrev hyO : Type := (Nat ⊕ Option Value) × hyT
def hyEn (k : Nat) : String := match k with | 1 => "java/lang/IllegalArgumentException" | 2 => "java/lang/IllegalStateException" | _ => "java/lang/IndexOutOfBoundsException"
def hyQ (G : hyG) (o : hyO) : Array Value → State → Outcome → State → Prop := fun _ st oc t => ∃ v, o.1 = .inr v ∧ oc = .returned v ∧ va_P G.1 vwCl (wld G o.2) t.heap ∧ va_F (hyA G) st t
def hyXQ (G : hyG) (o : hyO) : String → State → State → Prop := fun E st t => ∃ k, o.1 = .inl k ∧ E = hyEn k ∧ va_P G.1 vwCl (wld G o.2) t.heap ∧ va_F (hyA G) st t
/-- a method's contract: from the world T, with these arguments, it ends with the outcome o; n new exceptions at most -/
def hyC (l : Launch) (y : MethodName) (w0 : Cond) (fr lo n : Nat) (G : hyG) (av : List Value) (T : hyT) (o : hyO) : Prop :=
  vx_Met l y (w0 :: hyGood) ({ frames := fr, cells := n, slots := 6 * n, locals := lo }) (va_Pc av (hyP G T)) (hyQ G o) (hyXQ G o) n (6 * n) (hyA G)
def hyN (o : hyO) : Nat := match o.1 with | .inl _ => 1 | .inr _ => 0
theorem hyGood_in : GoodIn hyGood hyGood := fun w hw => ⟨hw, good_of_word (List.mem_filter.mp hw).2⟩
theorem hyGood_ca {c : Cond} (hc : c ∈ hyGood) : GoodIn hyGood (c :: hyGood) := fun w hw => (List.mem_cons.mp hw).elim (fun e => by subst e; exact hyGood_in _ hc) (fun h => hyGood_in w h)
