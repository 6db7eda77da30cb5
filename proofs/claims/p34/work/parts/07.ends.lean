section HYN
variable {p : Program} {l : Launch} {e : Env} {R : Room} {s : State} {m : MethodId} {args : Array Value} {below : List Frame} {meth : Method} {c : Code} {H : Heap} {locs : List Loc} {cells slots : Nat} {Q : State → Prop}
variable {cc : ByteArray} {pc nL n : Nat} {ls : Array Slot} {rest st0 As : List Value} {G : hyG} {T T2 : hyT} {own : String} {lv : List (Nat × Value)}
theorem hy_iret {v : Int32} (hx : p.tables.exec = Jvm.exec) (hb : c.code = cc) (hr : meth.sig.returnType = some .int) (hlocks : meth.locks = false) (hP : va_P G.1 vwCl (wld G T) H) (hS : va_S (hyA G) s.heap H locs) (hc : cells ≤ n) (hs : slots ≤ 6 * n) {o : hyO} (ho : (.inr (some (.int v)), T) = o) (hdg : decode cc pc = .ok (.ireturn, 1)) :
    W p l e R s m args below meth c H locs cells slots (vx_MQ below (hyQ G o) (hyXQ G o) args s n (6 * n) (hyA G)) (F0 m pc ls [.int v]) := by
  subst ho
  refine W.widen hc hs (vx_ret (W.iret hx hb hr (fun t ht hW => ⟨_, rfl, rfl, by rw [ht]; exact hP, hS.F ht⟩) hS.2.2 hdg hlocks))
theorem hy_zret {v : Int32} (hx : p.tables.exec = Jvm.exec) (hb : c.code = cc) (hr : meth.sig.returnType = some .boolean) (hlocks : meth.locks = false) (hP : va_P G.1 vwCl (wld G T) H) (hS : va_S (hyA G) s.heap H locs) (hc : cells ≤ n) (hs : slots ≤ 6 * n) (hn : narrow .boolean (.int v) = .int v) {o : hyO} (ho : (.inr (some (.int v)), T) = o) (hdg : decode cc pc = .ok (.ireturn, 1)) :
    W p l e R s m args below meth c H locs cells slots (vx_MQ below (hyQ G o) (hyXQ G o) args s n (6 * n) (hyA G)) (F0 m pc ls [.int v]) := by
  subst ho
  refine W.widen hc hs (vx_ret (W.zret hx hb hr hn (fun t ht hW => ⟨_, rfl, rfl, by rw [ht]; exact hP, hS.F ht⟩) hS.2.2 hdg hlocks))
theorem hy_lret {v : Int64} (hx : p.tables.exec = Jvm.exec) (hb : c.code = cc) (hr : meth.sig.returnType = some .long) (hlocks : meth.locks = false) (hP : va_P G.1 vwCl (wld G T) H) (hS : va_S (hyA G) s.heap H locs) (hc : cells ≤ n) (hs : slots ≤ 6 * n) {o : hyO} (ho : (.inr (some (.long v)), T) = o) (hdg : decode cc pc = .ok (.lreturn, 1)) :
    W p l e R s m args below meth c H locs cells slots (vx_MQ below (hyQ G o) (hyXQ G o) args s n (6 * n) (hyA G)) (F0 m pc ls [.long v]) := by
  subst ho
  refine W.widen hc hs (vx_ret (W.lret hx hb hr (fun t ht hW => ⟨_, rfl, rfl, by rw [ht]; exact hP, hS.F ht⟩) hS.2.2 hdg hlocks))
theorem hy_dret {v : UInt64} (hx : p.tables.exec = Jvm.exec) (hb : c.code = cc) (hr : meth.sig.returnType = some .double) (hlocks : meth.locks = false) (hP : va_P G.1 vwCl (wld G T) H) (hS : va_S (hyA G) s.heap H locs) (hc : cells ≤ n) (hs : slots ≤ 6 * n) {o : hyO} (ho : (.inr (some (.double v)), T) = o) (hdg : decode cc pc = .ok (.dreturn, 1)) :
    W p l e R s m args below meth c H locs cells slots (vx_MQ below (hyQ G o) (hyXQ G o) args s n (6 * n) (hyA G)) (F0 m pc ls [.double v]) := by
  subst ho
  refine W.widen hc hs (vx_ret (W.dret hx hb hr (fun t ht hW => ⟨_, rfl, rfl, by rw [ht]; exact hP, hS.F ht⟩) hS.2.2 hdg hlocks))
theorem hy_vret (hx : p.tables.exec = Jvm.exec) (hb : c.code = cc) (hr : meth.sig.returnType = none) (hlocks : meth.locks = false) (hP : va_P G.1 vwCl (wld G T) H) (hS : va_S (hyA G) s.heap H locs) (hc : cells ≤ n) (hs : slots ≤ 6 * n) {o : hyO} (ho : (.inr none, T) = o) (hdg : decode cc pc = .ok (.return_, 1)) :
    W p l e R s m args below meth c H locs cells slots (vx_MQ below (hyQ G o) (hyXQ G o) args s n (6 * n) (hyA G)) (F0 m pc ls []) := by
  subst ho
  refine W.widen hc hs (vx_ret (W.vret hx hb hr (fun t ht hW => ⟨_, rfl, rfl, by rw [ht]; exact hP, hS.F ht⟩) hS.2.2 hdg hlocks))
theorem hy_out {q : Addr} {ce : Cell} {k : Nat} (hout : ∀ x ∈ c.exceptionTable.toList, False) (hlocks : meth.locks = false) (hP : va_P G.1 vwCl (wld G T) H) (hS : va_S (hyA G) s.heap H locs) (hc : cells ≤ n) (hs : slots ≤ 6 * n) {o : hyO} (ho : (.inl k, T) = o) (hcell : H[q]? = some ce) (hv : ce.vm = .none) (hcl : s.vm.findClass (hyEn k) = some ce.cls) :
    vx_W p l e R s m args below meth c H locs cells slots (vx_MQ below (hyQ G o) (hyXQ G o) args s n (6 * n) (hyA G)) (F0 m pc ls rest) q := by
  subst ho
  exact vx_out (fun x hx => (hout x hx).elim) hlocks hcell hv hcl (fun t ht hW => ⟨k, rfl, rfl, by rw [ht]; exact hP, hS.F ht⟩) hS.2.2 hc hs
theorem hy_ofWF {l : Launch} {y : MethodName} {ws ws' : List Cond} {rm : Room} {Pc : Array Value → State → Prop} {Qc : Array Value → State → Outcome → State → Prop} {XC : String → State → State → Prop} {mc ms : Nat} {free : Addr → Prop} {cc : ByteArray} {maxL : Nat} {ret : Option FieldType}
    (hy : plainFor y = true) (hw : ws = Cond.code y cc maxL ret :: ws')
    (body : ∀ p e s m args below meth c s₁, BodyLoose p l y (headSpec ws rm) cc maxL ret e s m args below meth c s₁ → c.maxLocals = maxL → (∀ x ∈ c.exceptionTable.toList, False) → Pc args s →
      W p l e (headSpec ws rm).room s m args below meth c s.heap [] 0 0 (vx_MQ below Qc XC args s mc ms free) (entryFrame m args maxL)) : vx_Met l y ws rm Pc Qc XC mc ms free := by
  refine MetFree.of_bodySF (code := cc) (maxLocals := maxL) (ret := ret) hy ?_ ?_
  · intro args s m h hn
    obtain ⟨meth, c, h1, h2, h3, h4, h5, h6, -, -⟩ := Cond.code_spec hn (atoms_spec (ws := ws) h _ (by rw [hw]; exact List.mem_cons_self))
    exact ⟨meth, c, h1, h2, h3, h4, h5, h6⟩
  · intro p e s m args below meth c s₁ B hml hP _
    have hh0 : s₁.heap = s.heap := by rw [B.state]; rfl
    have ht : ∀ x ∈ c.exceptionTable.toList, False := by
      obtain ⟨meth9, c9, h1, h2, -, -, -, -, h7, -⟩ := Cond.code_spec B.named (atoms_spec (ws := ws) B.pre _ (by rw [hw]; exact List.mem_cons_self))
      cases Option.some.inj (h1.symm.trans B.method)
      cases Option.some.inj (h2.symm.trans (Stand.of_body B).code)
      intro x hx
      rw [Array.isEmpty_iff.mp h7] at hx
      cases hx
    obtain ⟨t, a1, o, b1, b2, b3⟩ := body p e s m args below meth c s₁ B hml ht hP s₁ hh0 (Stand.of_body B)
    exact ⟨t, o, a1, b1, b2, b3⟩
theorem hy_of {l : Launch} {y : MethodName} {cc : ByteArray} {mL fr lo n : Nat} {ret : Option FieldType} {G : hyG} {av : List Value} {T : hyT} {o : hyO} (hy : plainFor y = true) (hle : (lg_sl av).length ≤ mL)
    (body : ∀ (p : Program) (e : Env) (s : State) (m : MethodId) (below : List Frame) (meth : Method) (c : Code), p.tables.exec = Jvm.exec → c.code = cc → c.maxLocals = mL → s.vm.findClass y.cls = some m.cls → (∀ w ∈ hyGood, w.before av.toArray s = true) → meth.sig.returnType = ret → meth.locks = false → (∀ x ∈ c.exceptionTable.toList, False) → hyS G s → va_P G.1 vwCl (wld G T) s.heap → va_S (hyA G) s.heap s.heap [] →
      ∀ ls : Array Slot, lv_has ls mL (lv_args 0 av) → W p l e { frames := fr, cells := n, slots := 6 * n, locals := lo } s m av.toArray below meth c s.heap [] 0 0 (vx_MQ below (hyQ G o) (hyXQ G o) av.toArray s n (6 * n) (hyA G)) (F0 m 0 ls [])) : hyC l y (.code y cc mL ret) fr lo n G av T o := by
  refine hy_ofWF hy rfl ?_
  intro p e s m args below meth c s₁ B hml ht hv
  obtain ⟨rfl, hP, hX⟩ := hv
  have hts := atoms_spec (ws := Cond.code y cc mL ret :: hyGood) B.pre
  have hl := lv_entry av (n := mL) hle
  rw [lg_entry_eq]
  exact body p e s m below meth c B.exec B.bytes hml (findClass_of_methodNamed B.named) (fun w hw => hts w (List.mem_cons_of_mem _ hw)) B.returns B.notSynchronized ht hX hP va_S.rf _ hl
theorem hy_ofH {l : Launch} {y : MethodName} {cc : ByteArray} {mL fr lo n : Nat} {ret : Option FieldType} {hh : List (Nat × Nat × Nat × Nat)} {G : hyG} {av : List Value} {T : hyT} {o : hyO} (hy : plainName y.cls = true) (hle : (lg_sl av).length ≤ mL)
    (body : ∀ (p : Program) (e : Env) (s : State) (m : MethodId) (below : List Frame) (meth : Method) (c : Code), p.tables.exec = Jvm.exec → c.code = cc → c.maxLocals = mL → s.vm.findClass y.cls = some m.cls → (∀ w ∈ hyGood, w.before av.toArray s = true) → meth.sig.returnType = ret → meth.locks = false → c.exceptionTable.toList = tableOf hh → hyS G s → va_P G.1 vwCl (wld G T) s.heap → va_S (hyA G) s.heap s.heap [] →
      ∀ ls : Array Slot, lv_has ls mL (lv_args 0 av) → W p l e { frames := fr, cells := n, slots := 6 * n, locals := lo } s m av.toArray below meth c s.heap [] 0 0 (vx_MQ below (hyQ G o) (hyXQ G o) av.toArray s n (6 * n) (hyA G)) (F0 m 0 ls [])) : hyC l y (.codeWith y cc mL ret hh) fr lo n G av T o := by
  refine vx_ofWH hy rfl ?_
  intro p e s m args below meth c s₁ B hml hv
  obtain ⟨rfl, hP, hX⟩ := hv
  have hts := atoms_spec (ws := Cond.codeWith y cc mL ret hh :: hyGood) B.pre
  have hl := lv_entry av (n := mL) hle
  rw [lg_entry_eq]
  exact body p e s m below meth c B.exec B.bytes hml (findClass_of_methodNamed B.named) (fun w hw => hts w (List.mem_cons_of_mem _ hw)) B.returns B.notSynchronized (vx_table (x := y) B (hts _ List.mem_cons_self)) hX hP va_S.rf _ hl
end HYN
def hyXn : List String := ["java/lang/RuntimeException", "java/lang/Exception"]
def hyAt (ic k : Nat) : Prop := (∀ w ∈ (vx_atS RX10 ic (hyEn k) hyXn).filter goodWord, w ∈ lw_tbl) ∧ (∀ w ∈ (vx_atS RX10 ic (hyEn k) hyXn).filter (fun w => !goodWord w), w ∈ lw_tbl ∧ hyNk w = true) ∧ (∀ w ∈ vx_atS RX10 ic (hyEn k) hyXn, vx_ot w = true) ∧ Bundle.fit (hyEn k) = true ∧ ∀ n ∈ hyXn, Bundle.fit n = true
set_option maxRecDepth 20000 in
theorem hyAt_1 : hyAt 189 1 := ⟨by decide +kernel, by decide +kernel, by decide +kernel, by decide +kernel, by decide +kernel⟩
set_option maxRecDepth 20000 in
theorem hyAt_2 : hyAt 106 2 := ⟨by decide +kernel, by decide +kernel, by decide +kernel, by decide +kernel, by decide +kernel⟩
set_option maxRecDepth 20000 in
theorem hyAt_3 : hyAt 299 3 := ⟨by decide +kernel, by decide +kernel, by decide +kernel, by decide +kernel, by decide +kernel⟩
section HYT
variable {p : Program} {l : Launch} {e : Env} {R : Room} {s : State} {m : MethodId} {args : Array Value} {below : List Frame} {meth : Method} {c : Code} {H : Heap} {locs : List Loc} {cells slots : Nat} {Q : State → Prop}
variable {cc : ByteArray} {pc nL n : Nat} {ls : Array Slot} {rest st0 As : List Value} {G : hyG} {T T2 : hyT} {lv : List (Nat × Value)}
theorem hy_throw {k ik is ic : Nat} {text : String} (hlt : l.stackTraces = false) (hx : p.tables.exec = Jvm.exec) (hb : c.code = cc) (hml : c.maxLocals = nL) (hown : s.vm.findClass RX10 = some m.cls) (hts : ∀ w ∈ hyGood, w.before args s = true) (hout : ∀ x ∈ c.exceptionTable.toList, False) (hlocks : meth.locks = false) (hX : hyS G s) (hP : va_P G.1 vwCl (wld G T) H) (hS : va_S (hyA G) s.heap H locs) (hl : lv_has ls nL lv)
    (hAt : hyAt ic k) (hk : Cond.classLink RX10 ik (hyEn k) ∈ hyGood) (hini : Cond.initialized (hyEn k) ∈ hyGood) (hstr : (is, text) ∈ hyStr)
    (d0 : decode cc pc = .ok (.new ik, 3)) (d3 : decode cc (pc + 3) = .ok (.dup, 1)) (d4 : decode cc (pc + 4) = .ok (.ldc is, 2)) (d6 : decode cc (pc + 6) = .ok (.invokespecial ic, 3)) (d9 : decode cc (pc + 9) = .ok (.athrow, 1))
    (hR : 5 < R.frames ∧ (rest.map fun v => v.category).sum + 82 ≤ R.locals) (hf : cells + 1 ≤ R.cells ∧ slots + 6 ≤ R.slots) (hn : cells + 1 ≤ n ∧ slots + 6 ≤ 6 * n) {o : hyO} (ho : (.inl k, T) = o) :
    W p l e R s m args below meth c H locs cells slots (vx_MQ below (hyQ G o) (hyXQ G o) args s n (6 * n) (hyA G)) (F0 m pc ls rest) := by
  subst ho
  obtain ⟨a1, a2, a3, a4, a5⟩ := hAt
  have hg1 : ∀ w ∈ hyGood, vx_ot w = true := fun w hw => by
    have h := (List.mem_filter.mp hw).2
    simp [vx_ot, h]
  refine vx_throwS hx hb hlt (own := RX10) (cls := hyEn k) (text := text) (names := hyXn) (sa := sta G is) hown a4 a5 (hts _ hk) (hts _ hini) (hX.2.2.2.2.2.2.2.1 (is, text) hstr)
    (vx_hat (B := hyNest) (fun w hw => hts _ (List.mem_filter.mpr ⟨a1 w hw, (List.mem_filter.mp hw).2⟩)) (fun w hw => List.mem_filter.mpr (a2 w hw)) (fun w hw => hX.2.2.2.1.use hw _))
    (fun w hw => ?_) hX.2.2.2.2.2.1 hX.2.2.2.2.2.2.1 hS (hl.1.trans hml.symm) d0 d3 d4 d6 d9 (fun x hx => (hout x hx).elim) hR.1 hR.2 hf.1 hf.2 hlocks (fun t hA hz hq => ⟨k, rfl, rfl, ?_, ?_, ?_⟩) hS.2.2 hn.1 hn.2
  · rcases List.mem_cons.mp hw with rfl | hw
    · exact hg1 _ hk
    · rcases List.mem_cons.mp hw with rfl | hw
      · exact hg1 _ hini
      · exact a3 w hw
  · exact hP.kept (fun k q hk => hq q.1 (vx_lt hP hk))
  · exact Nat.le_trans hS.1 hz
  · intro q h1 h2
    rw [hq q (Nat.lt_of_lt_of_le h1 hS.1)]
    exact hS.2.1 q h1 h2
theorem hy_throwW {k ik is ic : Nat} {text : String} (hlt : l.stackTraces = false) (hx : p.tables.exec = Jvm.exec) (hb : c.code = cc) (hml : c.maxLocals = nL) (hown : s.vm.findClass RX10 = some m.cls) (hts : ∀ w ∈ hyGood, w.before args s = true) (hout : ∀ x ∈ c.exceptionTable.toList, False) (hlocks : meth.locks = false) (hX : hyS G s) (hP : va_P G.1 vwCl (wld G T) H) (hS : va_S (hyA G) s.heap H locs) (hl : lv_has ls nL lv)
    (hAt : hyAt ic k) (hk : Cond.classLink RX10 ik (hyEn k) ∈ hyGood) (hini : Cond.initialized (hyEn k) ∈ hyGood) (hstr : (is, text) ∈ hyStr)
    (d0 : decode cc pc = .ok (.new ik, 3)) (d3 : decode cc (pc + 3) = .ok (.dup, 1)) (d4 : decode cc (pc + 4) = .ok (.ldc_w is, 3)) (d6 : decode cc (pc + 7) = .ok (.invokespecial ic, 3)) (d9 : decode cc (pc + 10) = .ok (.athrow, 1))
    (hR : 5 < R.frames ∧ (rest.map fun v => v.category).sum + 82 ≤ R.locals) (hf : cells + 1 ≤ R.cells ∧ slots + 6 ≤ R.slots) (hn : cells + 1 ≤ n ∧ slots + 6 ≤ 6 * n) {o : hyO} (ho : (.inl k, T) = o) :
    W p l e R s m args below meth c H locs cells slots (vx_MQ below (hyQ G o) (hyXQ G o) args s n (6 * n) (hyA G)) (F0 m pc ls rest) := by
  subst ho
  obtain ⟨a1, a2, a3, a4, a5⟩ := hAt
  have hg1 : ∀ w ∈ hyGood, vx_ot w = true := fun w hw => by
    have h := (List.mem_filter.mp hw).2
    simp [vx_ot, h]
  refine vx_throwSW hx hb hlt (own := RX10) (cls := hyEn k) (text := text) (names := hyXn) (sa := sta G is) hown a4 a5 (hts _ hk) (hts _ hini) (hX.2.2.2.2.2.2.2.1 (is, text) hstr)
    (vx_hat (B := hyNest) (fun w hw => hts _ (List.mem_filter.mpr ⟨a1 w hw, (List.mem_filter.mp hw).2⟩)) (fun w hw => List.mem_filter.mpr (a2 w hw)) (fun w hw => hX.2.2.2.1.use hw _))
    (fun w hw => ?_) hX.2.2.2.2.2.1 hX.2.2.2.2.2.2.1 hS (hl.1.trans hml.symm) d0 d3 d4 d6 d9 (fun x hx => (hout x hx).elim) hR.1 hR.2 hf.1 hf.2 hlocks (fun t hA hz hq => ⟨k, rfl, rfl, ?_, ?_, ?_⟩) hS.2.2 hn.1 hn.2
  · rcases List.mem_cons.mp hw with rfl | hw
    · exact hg1 _ hk
    · rcases List.mem_cons.mp hw with rfl | hw
      · exact hg1 _ hini
      · exact a3 w hw
  · exact hP.kept (fun k q hk => hq q.1 (vx_lt hP hk))
  · exact Nat.le_trans hS.1 hz
  · intro q h1 h2
    rw [hq q (Nat.lt_of_lt_of_le h1 hS.1)]
    exact hS.2.1 q h1 h2
end HYT
