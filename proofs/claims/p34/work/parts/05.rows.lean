/-! Rows over the one world: calls, ends, fields, arrays. -/
theorem hyC.met {l : Launch} {y : MethodName} {w0 : Cond} {fr lo n : Nat} {G : hyG} {av : List Value} {T T2 : hyT} {v : Option Value} (h : hyC l y w0 fr lo n G av T (.inr v, T2)) :
    Met l y (w0 :: hyGood) ({ frames := fr, cells := n, slots := 6 * n, locals := lo }) (va_Pc av (hyP G T)) (hyQ G (.inr v, T2)) n (6 * n) (hyA G) := by
  intro p e ha hc hk s m args below hf hs hP hK
  obtain ⟨t, o, h1, h2, h3, h4⟩ := h p e ha hc hk s m args below hf hs hP hK
  refine ⟨t, o, h1, h2, h3, ?_⟩
  rcases h4 with h4 | ⟨q, -, E, ce, L, ⟨k, h5, -⟩, -⟩
  · exact h4
  · cases h5
def hyMd (y : MethodName) (n : Nat) : Prop := y.cls ≠ "java/lang/invoke/MethodHandle" ∧ y.cls ≠ "java/lang/invoke/VarHandle" ∧ (parseMethodDescriptor y.desc).map (fun d => d.parameters.length) = some n
/-- what the tables say of an instance method, of a static one, of one with handlers -/
def hyMV (y : MethodName) (b : ByteArray) (mL : Nat) (ret : Option FieldType) (n : Nat) : Prop := Cond.code y b mL ret ∈ hyGood ∧ Cond.instanceMethod y ∈ hyGood ∧ Cond.selects y.cls y y ∈ hyGood ∧ Cond.initialized y.cls ∈ hyGood ∧ hyMd y n
def hyMS (y : MethodName) (b : ByteArray) (mL : Nat) (ret : Option FieldType) (n : Nat) : Prop := Cond.code y b mL ret ∈ hyGood ∧ Cond.static y ∈ hyGood ∧ Cond.initialized y.cls ∈ hyGood ∧ hyMd y n
def hyMW (y : MethodName) (b : ByteArray) (mL : Nat) (ret : Option FieldType) (hh : List (Nat × Nat × Nat × Nat)) (n : Nat) : Prop := Cond.codeWith y b mL ret hh ∈ hyGood ∧ Cond.static y ∈ hyGood ∧ Cond.initialized y.cls ∈ hyGood ∧ hyMd y n
section HYR
variable {p : Program} {l : Launch} {e : Env} {R : Room} {s : State} {m : MethodId} {args : Array Value} {below : List Frame} {meth : Method} {c : Code} {H : Heap} {locs : List Loc} {cells slots : Nat} {Q : State → Prop}
variable {cc : ByteArray} {pc nL : Nat} {ls : Array Slot} {rest st0 As : List Value} {G : hyG} {T T2 : hyT} {own : String} {lv : List (Nat × Value)} {y : MethodName} {b : ByteArray} {mL fr lo n n0 index : Nat} {ret : Option FieldType} {v : Option Value} {o : Nat} {ou : hyO} {a : Array Value}
theorem hy_ret (hr : va_Run p l e R s m args below meth c H locs cells slots n (6 * n) (F0 m pc ls st0) rest (hyQ G (.inr v, T2) a) (hyA G)) (hS : va_S (hyA G) s.heap H locs)
    (kk : ∀ (H1 : Heap) (locs1 : List Loc), va_P G.1 vwCl (wld G T2) H1 → va_S (hyA G) s.heap H1 locs1 → W p l e R s m args below meth c H1 locs1 (cells + n) (slots + 6 * n) Q (F0 m (pc + 3) ls (v.toList ++ rest))) : W p l e R s m args below meth c H locs cells slots Q (F0 m pc ls st0) := by
  intro T hT X
  obtain ⟨w, st₀, t, T', L, h0, X', hL, e1, e2, ⟨w', h5, h6, h7, h8⟩, st⟩ := hr T hT X
  cases h5
  cases h6
  obtain ⟨-, -, k3⟩ := vx_keep h0 e1 hS (fun _ _ h => h) (fun _ h => h) hL h8
  obtain ⟨t2, a1, b1⟩ := kk T'.heap (locs ++ L) (by rw [e1]; exact h7) k3 T' rfl X'
  exact ⟨t2, st t2 a1, b1⟩
theorem hy_retX {k : Nat} (hr : vx_Run p l e R s m args below meth c H locs cells slots n (6 * n) (F0 m pc ls st0) rest (hyQ G ou a) (hyXQ G ou) (hyA G)) (hS : va_S (hyA G) s.heap H locs)
    (kx : ∀ k, ou.1 = .inl k → ∀ (q : Addr) (ce : Cell) (H1 : Heap) (locs1 : List Loc), va_P G.1 vwCl (wld G ou.2) H1 → va_S (hyA G) s.heap H1 locs1 → H1[q]? = some ce → ce.vm = .none → s.vm.findClass (hyEn k) = some ce.cls → vx_W p l e R s m args below meth c H1 locs1 (cells + n) (slots + 6 * n) Q (F0 m pc ls rest) q)
    (kk : ∀ v, ou.1 = .inr v → ∀ (H1 : Heap) (locs1 : List Loc), va_P G.1 vwCl (wld G ou.2) H1 → va_S (hyA G) s.heap H1 locs1 → W p l e R s m args below meth c H1 locs1 (cells + n) (slots + 6 * n) Q (F0 m (pc + 3) ls (v.toList ++ rest))) : W p l e R s m args below meth c H locs cells slots Q (F0 m pc ls st0) := by
  intro T hT X
  rcases hr T hT X with ⟨w, st₀, t, T', L, h0, X', hL, e1, e2, ⟨w', h5, h6, h7, h8⟩, st⟩ | ⟨q, st₀, t, T', L, E, ce, h0, X', hL, e1, e2, ⟨k, h5, h6, h7, h8⟩, hce, hcv, hcl, st⟩
  · cases h6
    obtain ⟨-, -, k3⟩ := vx_keep h0 e1 hS (fun _ _ h => h) (fun _ h => h) hL h8
    obtain ⟨t2, a1, b1⟩ := kk w h5 T'.heap (locs ++ L) (by rw [e1]; exact h7) k3 T' rfl X'
    exact ⟨t2, st t2 a1, b1⟩
  · subst h6
    obtain ⟨-, -, k3⟩ := vx_keep h0 e1 hS (fun _ _ h => h) (fun _ h => h) hL h8
    obtain ⟨t2, a1, b1⟩ := kx k h5 q ce T'.heap (locs ++ L) (by rw [e1]; exact h7) k3 (by rw [e1]; exact hce) hcv hcl T' rfl X'
    exact ⟨t2, st.trans a1, b1⟩
theorem hy_recv (hX : hyS G s) (hP : va_P G.1 vwCl (wld G T) H) (o ci : Nat) (ho : o < 34) {fs : List Value} {q : vw_C} (he : ent G o ((pkM T o).1 o) ((pkM T o).2 o) = .inr (ci, fs)) (hc : vwCl[ci]? = some q) : ∃ cell : Cell, H[adr G o]? = some cell ∧ cell.vm.isStatics = false ∧ s.vm.findClass q.1 = some cell.cls :=
  va_recv hX.1 hP hc (by rw [wld_get _ _ _ (hy34 G ho), he])
/-- calls: own class's method on an object; static; a nest mate's; a static one with handlers -/
theorem hy_rV (hx : p.tables.exec = Jvm.exec) (hb : c.code = cc) (hml : c.maxLocals = nL) (hown : s.vm.findClass own = some m.cls) (hts : ∀ w ∈ hyGood, w.before args s = true) (hX : hyS G s) (hP : va_P G.1 vwCl (wld G T) H) (hS : va_S (hyA G) s.heap H locs) (hl : lv_has ls nL lv)
    (hM : hyC l y (.code y b mL ret) fr lo n G (.ref (adr G o) :: As) T ou) (hm : hyMV y b mL ret n0) (hk : Cond.methodLink own index y ∈ hyGood)
    (hcl : ∃ cell : Cell, H[adr G o]? = some cell ∧ cell.vm.isStatics = false ∧ s.vm.findClass y.cls = some cell.cls) (hn : As.length = n0) (hst : st0 = As.reverse ++ .ref (adr G o) :: rest) (hcat : (rest.map fun v => v.category).sum ≤ 8) (hdg : decode cc pc = .ok (.invokevirtual index, 3)) (hR : fr + 1 ≤ R.frames ∧ 8 + (mL + 11) + lo ≤ R.locals) (hf : cells + n ≤ R.cells ∧ slots + 6 * n ≤ R.slots) :
    vx_Run p l e R s m args below meth c H locs cells slots n (6 * n) (F0 m pc ls st0) rest (hyQ G ou (Value.ref (adr G o) :: As).toArray) (hyXQ G ou) (hyA G) := by
  obtain ⟨m1, m2, m3, m4, m5⟩ := hm
  refine vx_runV ⟨hx, hb, hml, hown, hts⟩ hM ⟨callB_of n0 hts (hyGood_ca m1) rfl rfl rfl (hts _ m4) (hts _ hk) m5 hR, hts _ m2, hts _ m3⟩ ⟨hyP.blind, hcl, fun U hU hW => ⟨rfl, hyP.at hX hP hS hU hW⟩⟩ rfl hn hl.1 hst (lv_room hcat) hdg hf
theorem hy_rS (hx : p.tables.exec = Jvm.exec) (hb : c.code = cc) (hml : c.maxLocals = nL) (hown : s.vm.findClass own = some m.cls) (hts : ∀ w ∈ hyGood, w.before args s = true) (hX : hyS G s) (hP : va_P G.1 vwCl (wld G T) H) (hS : va_S (hyA G) s.heap H locs) (hl : lv_has ls nL lv)
    (hM : hyC l y (.code y b mL ret) fr lo n G As T ou) (hm : hyMS y b mL ret n0) (hk : Cond.methodLink own index y ∈ hyGood)
    (hn : As.length = n0) (hst : st0 = As.reverse ++ rest) (hcat : (rest.map fun v => v.category).sum ≤ 8) (hdg : decode cc pc = .ok (.invokestatic index, 3)) (hR : fr + 1 ≤ R.frames ∧ 8 + (mL + 11) + lo ≤ R.locals) (hf : cells + n ≤ R.cells ∧ slots + 6 * n ≤ R.slots) :
    vx_Run p l e R s m args below meth c H locs cells slots n (6 * n) (F0 m pc ls st0) rest (hyQ G ou As.toArray) (hyXQ G ou) (hyA G) := by
  obtain ⟨m1, m3, m4, m5⟩ := hm
  refine vx_runS ⟨hx, hb, hml, hown, hts⟩ hM ⟨callB_of n0 hts (hyGood_ca m1) rfl rfl rfl (hts _ m4) (hts _ hk) m5 hR, hts _ m3⟩ ⟨hyP.blind, fun U hU hW => ⟨rfl, hyP.at hX hP hS hU hW⟩⟩ rfl hn hl.1 hst (lv_room hcat) hdg hf
theorem hy_rV0 (hx : p.tables.exec = Jvm.exec) (hb : c.code = cc) (hml : c.maxLocals = nL) (hown : s.vm.findClass own = some m.cls) (hts : ∀ w ∈ hyGood, w.before args s = true) (hX : hyS G s) (hP : va_P G.1 vwCl (wld G T) H) (hS : va_S (hyA G) s.heap H locs) (hl : lv_has ls nL lv)
    (hM : hyC l y (.code y b mL ret) fr lo n G (.ref (adr G o) :: As) T (.inr v, T2)) (hm : hyMV y b mL ret n0) (hk : Cond.methodLink own index y ∈ hyGood)
    (hcl : ∃ cell : Cell, H[adr G o]? = some cell ∧ cell.vm.isStatics = false ∧ s.vm.findClass y.cls = some cell.cls) (hn : As.length = n0) (hst : st0 = As.reverse ++ .ref (adr G o) :: rest) (hcat : (rest.map fun v => v.category).sum ≤ 8) (hdg : decode cc pc = .ok (.invokevirtual index, 3)) (hR : fr + 1 ≤ R.frames ∧ 8 + (mL + 11) + lo ≤ R.locals) (hf : cells + n ≤ R.cells ∧ slots + 6 * n ≤ R.slots) :
    va_Run p l e R s m args below meth c H locs cells slots n (6 * n) (F0 m pc ls st0) rest (hyQ G (.inr v, T2) (Value.ref (adr G o) :: As).toArray) (hyA G) := by
  obtain ⟨m1, m2, m3, m4, m5⟩ := hm
  refine va_runV ⟨hx, hb, hml, hown, hts⟩ hM.met ⟨callB_of n0 hts (hyGood_ca m1) rfl rfl rfl (hts _ m4) (hts _ hk) m5 hR, hts _ m2, hts _ m3⟩ ⟨hyP.blind, hcl, fun U hU hW => ⟨rfl, hyP.at hX hP hS hU hW⟩⟩ rfl hn hl.1 hst (lv_room hcat) hdg hf
theorem hy_rS0 (hx : p.tables.exec = Jvm.exec) (hb : c.code = cc) (hml : c.maxLocals = nL) (hown : s.vm.findClass own = some m.cls) (hts : ∀ w ∈ hyGood, w.before args s = true) (hX : hyS G s) (hP : va_P G.1 vwCl (wld G T) H) (hS : va_S (hyA G) s.heap H locs) (hl : lv_has ls nL lv)
    (hM : hyC l y (.code y b mL ret) fr lo n G As T (.inr v, T2)) (hm : hyMS y b mL ret n0) (hk : Cond.methodLink own index y ∈ hyGood)
    (hn : As.length = n0) (hst : st0 = As.reverse ++ rest) (hcat : (rest.map fun v => v.category).sum ≤ 8) (hdg : decode cc pc = .ok (.invokestatic index, 3)) (hR : fr + 1 ≤ R.frames ∧ 8 + (mL + 11) + lo ≤ R.locals) (hf : cells + n ≤ R.cells ∧ slots + 6 * n ≤ R.slots) :
    va_Run p l e R s m args below meth c H locs cells slots n (6 * n) (F0 m pc ls st0) rest (hyQ G (.inr v, T2) As.toArray) (hyA G) := by
  obtain ⟨m1, m3, m4, m5⟩ := hm
  refine va_runS ⟨hx, hb, hml, hown, hts⟩ hM.met ⟨callB_of n0 hts (hyGood_ca m1) rfl rfl rfl (hts _ m4) (hts _ hk) m5 hR, hts _ m3⟩ ⟨hyP.blind, fun U hU hW => ⟨rfl, hyP.at hX hP hS hU hW⟩⟩ rfl hn hl.1 hst (lv_room hcat) hdg hf
theorem hy_rVN {host : String} (hx : p.tables.exec = Jvm.exec) (hb : c.code = cc) (hml : c.maxLocals = nL) (hown : s.vm.findClass own = some m.cls) (hts : ∀ w ∈ hyGood, w.before args s = true) (hX : hyS G s) (hP : va_P G.1 vwCl (wld G T) H) (hS : va_S (hyA G) s.heap H locs) (hl : lv_has ls nL lv)
    (hM : hyC l y (.code y b mL ret) fr lo n G (.ref (adr G o) :: As) T (.inr v, T2)) (hm : hyMV y b mL ret n0) (hk : Cond.methodLinkNest own index y host ∈ hyNest)
    (hcl : ∃ cell : Cell, H[adr G o]? = some cell ∧ cell.vm.isStatics = false ∧ s.vm.findClass y.cls = some cell.cls) (hn : As.length = n0) (hst : st0 = As.reverse ++ .ref (adr G o) :: rest) (hcat : (rest.map fun v => v.category).sum ≤ 8) (hdg : decode cc pc = .ok (.invokevirtual index, 3)) (hR : fr + 1 ≤ R.frames ∧ 8 + (mL + 11) + lo ≤ R.locals) (hf : cells + n ≤ R.cells ∧ slots + 6 * n ≤ R.slots) :
    va_Run p l e R s m args below meth c H locs cells slots n (6 * n) (F0 m pc ls st0) rest (hyQ G (.inr v, T2) (Value.ref (adr G o) :: As).toArray) (hyA G) := by
  obtain ⟨m1, m2, m3, m4, m5⟩ := hm
  refine va_runVN ⟨hx, hb, hml, hown, hts⟩ hM.met ⟨va_cnB n0 hts (hyGood_ca m1) rfl rfl rfl (hX.2.2.2.1 _ hk) (hts _ m4) m5 hR, hts _ m2, hts _ m3⟩ ⟨hyP.blind, hcl, fun U hU hW => ⟨rfl, hyP.at hX hP hS hU hW⟩⟩ rfl hn hl.1 hst (lv_room hcat) hdg hf
theorem hy_rSN {host : String} (hx : p.tables.exec = Jvm.exec) (hb : c.code = cc) (hml : c.maxLocals = nL) (hown : s.vm.findClass own = some m.cls) (hts : ∀ w ∈ hyGood, w.before args s = true) (hX : hyS G s) (hP : va_P G.1 vwCl (wld G T) H) (hS : va_S (hyA G) s.heap H locs) (hl : lv_has ls nL lv)
    (hM : hyC l y (.code y b mL ret) fr lo n G As T (.inr v, T2)) (hm : hyMS y b mL ret n0) (hk : Cond.methodLinkNest own index y host ∈ hyNest)
    (hn : As.length = n0) (hst : st0 = As.reverse ++ rest) (hcat : (rest.map fun v => v.category).sum ≤ 8) (hdg : decode cc pc = .ok (.invokestatic index, 3)) (hR : fr + 1 ≤ R.frames ∧ 8 + (mL + 11) + lo ≤ R.locals) (hf : cells + n ≤ R.cells ∧ slots + 6 * n ≤ R.slots) :
    va_Run p l e R s m args below meth c H locs cells slots n (6 * n) (F0 m pc ls st0) rest (hyQ G (.inr v, T2) As.toArray) (hyA G) := by
  obtain ⟨m1, m3, m4, m5⟩ := hm
  refine va_runSN ⟨hx, hb, hml, hown, hts⟩ hM.met ⟨va_cnB n0 hts (hyGood_ca m1) rfl rfl rfl (hX.2.2.2.1 _ hk) (hts _ m4) m5 hR, hts _ m3, trivial⟩ ⟨hyP.blind, fun U hU hW => ⟨rfl, hyP.at hX hP hS hU hW⟩⟩ rfl hn hl.1 hst (lv_room hcat) hdg hf
theorem hy_rSW {hh : List (Nat × Nat × Nat × Nat)} (hx : p.tables.exec = Jvm.exec) (hb : c.code = cc) (hml : c.maxLocals = nL) (hown : s.vm.findClass own = some m.cls) (hts : ∀ w ∈ hyGood, w.before args s = true) (hX : hyS G s) (hP : va_P G.1 vwCl (wld G T) H) (hS : va_S (hyA G) s.heap H locs) (hl : lv_has ls nL lv)
    (hM : hyC l y (.codeWith y b mL ret hh) fr lo n G As T (.inr v, T2)) (hm : hyMW y b mL ret hh n0) (hk : Cond.methodLink own index y ∈ hyGood)
    (hn : As.length = n0) (hst : st0 = As.reverse ++ rest) (hcat : (rest.map fun v => v.category).sum ≤ 8) (hdg : decode cc pc = .ok (.invokestatic index, 3)) (hR : fr + 1 ≤ R.frames ∧ 8 + (mL + 11) + lo ≤ R.locals) (hf : cells + n ≤ R.cells ∧ slots + 6 * n ≤ R.slots) :
    va_Run p l e R s m args below meth c H locs cells slots n (6 * n) (F0 m pc ls st0) rest (hyQ G (.inr v, T2) As.toArray) (hyA G) := by
  obtain ⟨m1, m3, m4, m5⟩ := hm
  have hG : GoodIn hyGood (va_wsS own index y (Cond.codeWith y b mL ret hh :: hyGood)) := fun w hw => by
    rcases List.mem_append.mp hw with h | h
    · have h9 : w = Cond.methodLink own index y ∨ w = Cond.static y ∨ w = Cond.initialized y.cls := by simpa using h
      rcases h9 with rfl | rfl | rfl
      · exact hyGood_in _ hk
      · exact hyGood_in _ m3
      · exact hyGood_in _ m4
    · exact hyGood_ca m1 w h
  refine vx_runSW ⟨hx, hb, hml, hown, hts⟩ hM.met (vx_cwSW n0 hts hG rfl rfl rfl m5 hR) ⟨hyP.blind, fun U hU hW => ⟨rfl, hyP.at hX hP hS hU hW⟩⟩ rfl hn hl.1 hst (lv_room hcat) hdg hf
end HYR
