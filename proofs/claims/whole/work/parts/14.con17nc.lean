/-! The law's own methods tell the exceptions apart: contracts whose start says that none of the three is another. -/
def hyNC (U : State) : Prop := ∀ k k2 : Nat, k ≠ k2 → (k = 1 ∨ k = 2 ∨ k = 3) → (k2 = 1 ∨ k2 = 2 ∨ k2 = 3) → va_Nc (hyEn k) (hyEn k2) U
theorem hyNC.moved {u U : State} (hv : u.vm.Alike U.vm) (h : hyNC u) : hyNC U := fun k k2 a b c => va_Nc.moved hv (h k k2 a b c)
def hyP2 (G : hyG) (T : hyT) (U : State) : Prop := hyP G T U ∧ hyNC U
theorem hyP2.blind {G : hyG} {T : hyT} {av : List Value} : FrameBlind (va_Pc av (hyP2 G T)) := by
  intro a U g mk h
  obtain ⟨h1, h2, h3⟩ := h
  have h4 := hyP.blind (G := G) (T := T) (av := av) a U g mk ⟨h1, h2⟩
  exact ⟨h4.1, h4.2, hyNC.moved (u := U) (U := U.calling g mk a) (Vm.Alike.refl U.vm) h3⟩
def hyC2 (l : Launch) (y : MethodName) (w0 : Cond) (fr lo n : Nat) (G : hyG) (av : List Value) (T : hyT) (o : hyO) : Prop :=
  vx_Met l y (w0 :: hyGood) ({ frames := fr, cells := n, slots := 6 * n, locals := lo }) (va_Pc av (hyP2 G T)) (hyQ G o) (hyXQ G o) n (6 * n) (hyA G)
theorem hyC2.met {l : Launch} {y : MethodName} {w0 : Cond} {fr lo n : Nat} {G : hyG} {av : List Value} {T T2 : hyT} {v : Option Value} (h : hyC2 l y w0 fr lo n G av T (.inr v, T2)) :
    Met l y (w0 :: hyGood) ({ frames := fr, cells := n, slots := 6 * n, locals := lo }) (va_Pc av (hyP2 G T)) (hyQ G (.inr v, T2)) n (6 * n) (hyA G) := by
  intro p e ha hc hk s m args below hf hs hP hK
  obtain ⟨t, o, h1, h2, h3, h4⟩ := h p e ha hc hk s m args below hf hs hP hK
  refine ⟨t, o, h1, h2, h3, ?_⟩
  rcases h4 with h4 | ⟨q, -, E, ce, L, ⟨k, h5, -⟩, -⟩
  · exact h4
  · cases h5
theorem hy_ofH2 {l : Launch} {y : MethodName} {cc : ByteArray} {mL fr lo n : Nat} {ret : Option FieldType} {hh : List (Nat × Nat × Nat × Nat)} {G : hyG} {av : List Value} {T : hyT} {o : hyO} (hy : plainName y.cls = true) (hle : (lg_sl av).length ≤ mL)
    (body : ∀ (p : Program) (e : Env) (s : State) (m : MethodId) (below : List Frame) (meth : Method) (c : Code), p.tables.exec = Jvm.exec → c.code = cc → c.maxLocals = mL → s.vm.findClass y.cls = some m.cls → (∀ w ∈ hyGood, w.before av.toArray s = true) → meth.sig.returnType = ret → meth.locks = false → c.exceptionTable.toList = tableOf hh → hyS G s → va_P G.1 vwCl (wld G T) s.heap → va_S (hyA G) s.heap s.heap [] → hyNC s →
      ∀ ls : Array Slot, lv_has ls mL (lv_args 0 av) → W p l e { frames := fr, cells := n, slots := 6 * n, locals := lo } s m av.toArray below meth c s.heap [] 0 0 (vx_MQ below (hyQ G o) (hyXQ G o) av.toArray s n (6 * n) (hyA G)) (F0 m 0 ls [])) : hyC2 l y (.codeWith y cc mL ret hh) fr lo n G av T o := by
  refine vx_ofWH hy rfl ?_
  intro p e s m args below meth c s₁ B hml hv
  obtain ⟨rfl, ⟨hP, hX⟩, hN⟩ := hv
  have hts := atoms_spec (ws := Cond.codeWith y cc mL ret hh :: hyGood) B.pre
  have hl := lv_entry av (n := mL) hle
  rw [lg_entry_eq]
  exact body p e s m below meth c B.exec B.bytes hml (findClass_of_methodNamed B.named) (fun w hw => hts w (List.mem_cons_of_mem _ hw)) B.returns B.notSynchronized (vx_table (x := y) B (hts _ List.mem_cons_self)) hX hP va_S.rf hN _ hl
section HYR2
variable {p : Program} {l : Launch} {e : Env} {R : Room} {s : State} {m : MethodId} {args : Array Value} {below : List Frame} {meth : Method} {c : Code} {H : Heap} {locs : List Loc} {cells slots : Nat} {Q : State → Prop}
variable {cc : ByteArray} {pc nL : Nat} {ls : Array Slot} {rest st0 As : List Value} {G : hyG} {T T2 : hyT} {own : String} {lv : List (Nat × Value)} {y : MethodName} {b : ByteArray} {mL fr lo n n0 index : Nat} {ret : Option FieldType} {v : Option Value}
theorem hy_rSW2 {hh : List (Nat × Nat × Nat × Nat)} (hx : p.tables.exec = Jvm.exec) (hb : c.code = cc) (hml : c.maxLocals = nL) (hown : s.vm.findClass own = some m.cls) (hts : ∀ w ∈ hyGood, w.before args s = true) (hX : hyS G s) (hN : hyNC s) (hP : va_P G.1 vwCl (wld G T) H) (hS : va_S (hyA G) s.heap H locs) (hl : lv_has ls nL lv)
    (hM : hyC2 l y (.codeWith y b mL ret hh) fr lo n G As T (.inr v, T2)) (hm : hyMW y b mL ret hh n0) (hk : Cond.methodLink own index y ∈ hyGood)
    (hn : As.length = n0) (hst : st0 = As.reverse ++ rest) (hcat : (rest.map fun v => v.category).sum ≤ 8) (hdg : decode cc pc = .ok (.invokestatic index, 3)) (hR : fr + 1 ≤ R.frames ∧ 8 + (mL + 11) + lo ≤ R.locals) (hf : cells + n ≤ R.cells ∧ slots + 6 * n ≤ R.slots) :
    va_Run p l e R s m args below meth c H locs cells slots n (6 * n) (F0 m pc ls st0) rest (hyQ G (.inr v, T2) As.toArray) (hyA G) := by
  obtain ⟨m1, m3, m4, m5⟩ := hm
  have hG : GoodIn hyGood (va_wsS own index y (Cond.codeWith y b mL ret hh :: hyGood)) := fun w hw => by
    rcases List.mem_append.mp hw with h | h
    · have h9 : w = Cond.methodLink own index y ∨ w = Cond.static y ∨ w = Cond.initialized y.cls := by simpa using h
      rcases h9 with rfl | rfl | rfl
      · exact hyGood_in _ hk
      · exact hyGood_in _ m3
      · exact hyGood_in _ m4
    · exact hyGood_ca m1 w h
  refine vx_runSW ⟨hx, hb, hml, hown, hts⟩ hM.met (vx_cwSW n0 hts hG rfl rfl rfl m5 hR) ⟨hyP2.blind, fun U hU hW => ⟨rfl, hyP.at hX hP hS hU hW, hN.moved hW.alike⟩⟩ rfl hn hl.1 hst (lv_room hcat) hdg hf
end HYR2
