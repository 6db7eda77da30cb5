section HYF
variable {p : Program} {l : Launch} {e : Env} {R : Room} {s : State} {m : MethodId} {args : Array Value} {below : List Frame} {meth : Method} {c : Code} {H : Heap} {locs : List Loc} {cells slots : Nat} {Q : State → Prop}
variable {cc : ByteArray} {pc nL : Nat} {ls : Array Slot} {rest st0 As : List Value} {G : hyG} {T T2 : hyT} {own : String} {lv : List (Nat × Value)} {o k ci N index : Nat} {C : String} {Tb : u_T} {fs : List Value} {v : Value}
theorem hy_get (hx : p.tables.exec = Jvm.exec) (hb : c.code = cc) (hown : s.vm.findClass own = some m.cls) (hts : ∀ w ∈ hyGood, w.before args s = true) (hX : hyS G s) (hP : va_P G.1 vwCl (wld G T) H)
    (ho : o < 34) (he : ent G o ((pkM T o).1 o) ((pkM T o).2 o) = .inr (ci, fs)) (hc : vwCl[ci]? = some (C, Tb, N)) (hin : ∀ w ∈ u_ws C Tb N, w ∈ hyGood) (hk : k < N) (hlink : Cond.fieldLink own index (Tb k).1 (Tb k).2.1 (Tb k).2.2.1 ∈ hyGood) (hv : fs[k]? = some v) (hdg : decode cc pc = .ok (.getfield index, 3))
    (kk : W p l e R s m args below meth c H locs cells slots Q (F0 m (pc + 3) ls (v :: rest))) : W p l e R s m args below meth c H locs cells slots Q (F0 m pc ls (.ref (adr G o) :: rest)) :=
  va_get (D := G.1) hx hb hts hin hown hX.1 hP o (by rw [wld_get _ _ _ (hy34 G ho), he]) hc k hk (hts _ hlink) (fun _ h9 => h9) hv hdg kk
theorem hy_getN {host : String} (hx : p.tables.exec = Jvm.exec) (hb : c.code = cc) (hown : s.vm.findClass own = some m.cls) (hts : ∀ w ∈ hyGood, w.before args s = true) (hX : hyS G s) (hP : va_P G.1 vwCl (wld G T) H)
    (ho : o < 34) (he : ent G o ((pkM T o).1 o) ((pkM T o).2 o) = .inr (ci, fs)) (hc : vwCl[ci]? = some (C, Tb, N)) (hin : ∀ w ∈ u_ws C Tb N, w ∈ hyGood) (hk : k < N) (hlink : Cond.fieldLinkNest own index (Tb k).1 (Tb k).2.1 (Tb k).2.2.1 host ∈ hyNest) (hv : fs[k]? = some v) (hdg : decode cc pc = .ok (.getfield index, 3))
    (kk : W p l e R s m args below meth c H locs cells slots Q (F0 m (pc + 3) ls (v :: rest))) : W p l e R s m args below meth c H locs cells slots Q (F0 m pc ls (.ref (adr G o) :: rest)) :=
  va_getN (D := G.1) hx hb hts hin hown hX.1 hP o (by rw [wld_get _ _ _ (hy34 G ho), he]) hc k hk (hX.2.2.2.1.use hlink _) (fun _ h9 => h9) hv hdg kk
theorem hy_putI {x : Int32} {ty : FieldType} {ty0 : Nat → FieldType} (hx : p.tables.exec = Jvm.exec) (hb : c.code = cc) (hown : s.vm.findClass own = some m.cls) (hts : ∀ w ∈ hyGood, w.before args s = true) (hX : hyS G s) (hP : va_P G.1 vwCl (wld G T) H) (hS : va_S (hyA G) s.heap H locs)
    (ho : o < 34) (he : ent G o ((pkM T o).1 o) ((pkM T o).2 o) = .inr (ci, fs)) (he2 : ent G o (upd ((pkM T o).1 o) k x) ((pkM T o).2 o) = .inr (ci, fs.set k (.int x))) (hT : wTI T o k x = T2) (hc : vwCl[ci]? = some (C, Tb, N)) (hin : ∀ w ∈ u_ws C Tb N, w ∈ hyGood) (hty : ∀ k, k < N → parseFieldDescriptor (Tb k).2.2.1 = some (ty0 k)) (hnm : ∀ a, a < N → ∀ b, b < N → a ≠ b → (Tb a).2.1 ≠ (Tb b).2.1)
    (hk : k < N) (hlink : Cond.fieldLink own index (Tb k).1 (Tb k).2.1 (Tb k).2.2.1 ∈ hyGood) (hfin : (Tb k).2.2.2 = false) (hd : ty0 k = ty) (hn : narrow ty (.int x) = .int x) (hfit : fits ty (.int x) = true) (hl : k < fs.length) (hdg : decode cc pc = .ok (.putfield index, 3))
    (kk : ∀ (H1 : Heap) (locs1 : List Loc), va_P G.1 vwCl (wld G T2) H1 → va_S (hyA G) s.heap H1 locs1 → W p l e R s m args below meth c H1 locs1 cells slots Q (F0 m (pc + 3) ls rest)) : W p l e R s m args below meth c H locs cells slots Q (F0 m pc ls (.int x :: .ref (adr G o) :: rest)) := by
  subst hT
  refine va_put (D := G.1) (A := hyA G) (ty := ty) hx hb hts hin ty0 hty hnm hown hX.1 hP (hX.2.1.D T) hS o (by rw [wld_get _ _ _ (hy34 G ho), he]) hc k hk (hts _ hlink) (fun _ h9 => h9) hfin (by rw [hty k hk, hd]) hn hfit hl hdg (fun H1 locs1 h1 _ h3 => ?_)
  rw [← he2, wld_setI _ _ _ _ _ (hy34 G ho)] at h1
  exact kk H1 locs1 h1 h3
theorem hy_putIN {host : String} {x : Int32} {ty : FieldType} {ty0 : Nat → FieldType} (hx : p.tables.exec = Jvm.exec) (hb : c.code = cc) (hown : s.vm.findClass own = some m.cls) (hts : ∀ w ∈ hyGood, w.before args s = true) (hX : hyS G s) (hP : va_P G.1 vwCl (wld G T) H) (hS : va_S (hyA G) s.heap H locs)
    (ho : o < 34) (he : ent G o ((pkM T o).1 o) ((pkM T o).2 o) = .inr (ci, fs)) (he2 : ent G o (upd ((pkM T o).1 o) k x) ((pkM T o).2 o) = .inr (ci, fs.set k (.int x))) (hT : wTI T o k x = T2) (hc : vwCl[ci]? = some (C, Tb, N)) (hin : ∀ w ∈ u_ws C Tb N, w ∈ hyGood) (hty : ∀ k, k < N → parseFieldDescriptor (Tb k).2.2.1 = some (ty0 k)) (hnm : ∀ a, a < N → ∀ b, b < N → a ≠ b → (Tb a).2.1 ≠ (Tb b).2.1)
    (hk : k < N) (hlink : Cond.fieldLinkNest own index (Tb k).1 (Tb k).2.1 (Tb k).2.2.1 host ∈ hyNest) (hfin : (Tb k).2.2.2 = false) (hd : ty0 k = ty) (hn : narrow ty (.int x) = .int x) (hfit : fits ty (.int x) = true) (hl : k < fs.length) (hdg : decode cc pc = .ok (.putfield index, 3))
    (kk : ∀ (H1 : Heap) (locs1 : List Loc), va_P G.1 vwCl (wld G T2) H1 → va_S (hyA G) s.heap H1 locs1 → W p l e R s m args below meth c H1 locs1 cells slots Q (F0 m (pc + 3) ls rest)) : W p l e R s m args below meth c H locs cells slots Q (F0 m pc ls (.int x :: .ref (adr G o) :: rest)) := by
  subst hT
  refine va_putN (D := G.1) (A := hyA G) (ty := ty) hx hb hts hin ty0 hty hnm hown hX.1 hP (hX.2.1.D T) hS o (by rw [wld_get _ _ _ (hy34 G ho), he]) hc k hk (hX.2.2.2.1.use hlink _) (fun _ h9 => h9) hfin (by rw [hty k hk, hd]) hn hfit hl hdg (fun H1 locs1 h1 _ h3 => ?_)
  rw [← he2, wld_setI _ _ _ _ _ (hy34 G ho)] at h1
  exact kk H1 locs1 h1 h3
theorem hy_putL {x : Int64} {ty0 : Nat → FieldType} (hx : p.tables.exec = Jvm.exec) (hb : c.code = cc) (hown : s.vm.findClass own = some m.cls) (hts : ∀ w ∈ hyGood, w.before args s = true) (hX : hyS G s) (hP : va_P G.1 vwCl (wld G T) H) (hS : va_S (hyA G) s.heap H locs)
    (ho : o < 34) (he : ent G o ((pkM T o).1 o) ((pkM T o).2 o) = .inr (ci, fs)) (he2 : ent G o ((pkM T o).1 o) (vp_updL ((pkM T o).2 o) k x) = .inr (ci, fs.set k (.long x))) (hT : wTL T o k x = T2) (hc : vwCl[ci]? = some (C, Tb, N)) (hin : ∀ w ∈ u_ws C Tb N, w ∈ hyGood) (hty : ∀ k, k < N → parseFieldDescriptor (Tb k).2.2.1 = some (ty0 k)) (hnm : ∀ a, a < N → ∀ b, b < N → a ≠ b → (Tb a).2.1 ≠ (Tb b).2.1)
    (hk : k < N) (hlink : Cond.fieldLink own index (Tb k).1 (Tb k).2.1 (Tb k).2.2.1 ∈ hyGood) (hfin : (Tb k).2.2.2 = false) (hd : ty0 k = .long) (hl : k < fs.length) (hdg : decode cc pc = .ok (.putfield index, 3))
    (kk : ∀ (H1 : Heap) (locs1 : List Loc), va_P G.1 vwCl (wld G T2) H1 → va_S (hyA G) s.heap H1 locs1 → W p l e R s m args below meth c H1 locs1 cells slots Q (F0 m (pc + 3) ls rest)) : W p l e R s m args below meth c H locs cells slots Q (F0 m pc ls (.long x :: .ref (adr G o) :: rest)) := by
  subst hT
  refine va_put (D := G.1) (A := hyA G) (ty := .long) hx hb hts hin ty0 hty hnm hown hX.1 hP (hX.2.1.D T) hS o (by rw [wld_get _ _ _ (hy34 G ho), he]) hc k hk (hts _ hlink) (fun _ h9 => h9) hfin (by rw [hty k hk, hd]) rfl rfl hl hdg (fun H1 locs1 h1 _ h3 => ?_)
  rw [← he2, wld_setL _ _ _ _ _ (hy34 G ho)] at h1
  exact kk H1 locs1 h1 h3
theorem hy_putLN {host : String} {x : Int64} {ty0 : Nat → FieldType} (hx : p.tables.exec = Jvm.exec) (hb : c.code = cc) (hown : s.vm.findClass own = some m.cls) (hts : ∀ w ∈ hyGood, w.before args s = true) (hX : hyS G s) (hP : va_P G.1 vwCl (wld G T) H) (hS : va_S (hyA G) s.heap H locs)
    (ho : o < 34) (he : ent G o ((pkM T o).1 o) ((pkM T o).2 o) = .inr (ci, fs)) (he2 : ent G o ((pkM T o).1 o) (vp_updL ((pkM T o).2 o) k x) = .inr (ci, fs.set k (.long x))) (hT : wTL T o k x = T2) (hc : vwCl[ci]? = some (C, Tb, N)) (hin : ∀ w ∈ u_ws C Tb N, w ∈ hyGood) (hty : ∀ k, k < N → parseFieldDescriptor (Tb k).2.2.1 = some (ty0 k)) (hnm : ∀ a, a < N → ∀ b, b < N → a ≠ b → (Tb a).2.1 ≠ (Tb b).2.1)
    (hk : k < N) (hlink : Cond.fieldLinkNest own index (Tb k).1 (Tb k).2.1 (Tb k).2.2.1 host ∈ hyNest) (hfin : (Tb k).2.2.2 = false) (hd : ty0 k = .long) (hl : k < fs.length) (hdg : decode cc pc = .ok (.putfield index, 3))
    (kk : ∀ (H1 : Heap) (locs1 : List Loc), va_P G.1 vwCl (wld G T2) H1 → va_S (hyA G) s.heap H1 locs1 → W p l e R s m args below meth c H1 locs1 cells slots Q (F0 m (pc + 3) ls rest)) : W p l e R s m args below meth c H locs cells slots Q (F0 m pc ls (.long x :: .ref (adr G o) :: rest)) := by
  subst hT
  refine va_putN (D := G.1) (A := hyA G) (ty := .long) hx hb hts hin ty0 hty hnm hown hX.1 hP (hX.2.1.D T) hS o (by rw [wld_get _ _ _ (hy34 G ho), he]) hc k hk (hX.2.2.2.1.use hlink _) (fun _ h9 => h9) hfin (by rw [hty k hk, hd]) rfl rfl hl hdg (fun H1 locs1 h1 _ h3 => ?_)
  rw [← he2, wld_setL _ _ _ _ _ (hy34 G ho)] at h1
  exact kk H1 locs1 h1 h3
variable {f : Nat → Int32} {g : Nat → Int64} {n : Nat} {i x : Int32} {y : Int64}
def inb (i : Int32) (n : Nat) : Bool := !(decide (i < 0) || decide (n ≤ i.toNatClampNeg))
theorem inb_vp {i : Int32} {n : Nat} (h : inb i n = true) : vp_in i n := by
  simp only [inb, Bool.not_eq_true', Bool.or_eq_false_iff, decide_eq_false_iff_not] at h
  exact fun q => q.elim h.1 h.2
theorem hy_iald (hx : p.tables.exec = Jvm.exec) (hb : c.code = cc) (hX : hyS G s) (hP : va_P G.1 vwCl (wld G T) H) (o n : Nat) (f : Nat → Int32) (ho : o < 34 + exn G) (he : ent G o ((pkM T o).1 o) ((pkM T o).2 o) = arI G n f) (hi : inb i n = true) (hdg : decode cc pc = .ok (.iaload, 1))
    (kk : W p l e R s m args below meth c H locs cells slots Q (F0 m (pc + 1) ls (.int (f i.toNatClampNeg) :: rest))) : W p l e R s m args below meth c H locs cells slots Q (F0 m pc ls (.int i :: .ref (adr G o) :: rest)) :=
  va_iald hx hb hX.1 hP o 0 (by rw [wld_get _ _ _ ho, he]; rfl) rfl (inb_vp hi) hdg kk
theorem hy_iast (hx : p.tables.exec = Jvm.exec) (hb : c.code = cc) (hX : hyS G s) (hP : va_P G.1 vwCl (wld G T) H) (hS : va_S (hyA G) s.heap H locs) (o n : Nat) (ho : o < 34 + exn G) (he : ∀ f g, ent G o f g = arI G n f) (hi : inb i n = true) (hT : wTI T o i.toNatClampNeg x = T2) (hdg : decode cc pc = .ok (.iastore, 1))
    (kk : ∀ (H1 : Heap) (locs1 : List Loc), va_P G.1 vwCl (wld G T2) H1 → va_S (hyA G) s.heap H1 locs1 → W p l e R s m args below meth c H1 locs1 cells slots Q (F0 m (pc + 1) ls rest)) : W p l e R s m args below meth c H locs cells slots Q (F0 m pc ls (.int x :: .int i :: .ref (adr G o) :: rest)) := by
  subst hT
  refine va_iast hx hb hX.1 hP (hX.2.1.D T) hS o 0 (by rw [wld_get _ _ _ ho, he]; rfl) rfl (inb_vp hi) hdg (fun H1 locs1 h1 _ h3 => kk H1 locs1 ?_ h3)
  have h4 := wld_setI G T o i.toNatClampNeg x ho
  rw [he] at h4
  rw [← h4]
  exact h1
theorem hy_alen {v : Int32} (hx : p.tables.exec = Jvm.exec) (hb : c.code = cc) (hX : hyS G s) (hP : va_P G.1 vwCl (wld G T) H) (o n : Nat) (ho : o < 34 + exn G) (he : ∀ f g, ent G o f g = arI G n f) (hv : Int32.ofNat n = v) (hdg : decode cc pc = .ok (.arraylength, 1))
    (kk : W p l e R s m args below meth c H locs cells slots Q (F0 m (pc + 1) ls (.int v :: rest))) : W p l e R s m args below meth c H locs cells slots Q (F0 m pc ls (.ref (adr G o) :: rest)) :=
  va_alen hx hb hX.1 hP o 0 (x := (n, .inl ((pkM T o).1 o))) (by rw [wld_get _ _ _ ho, he]; rfl) rfl hv hdg kk
theorem hy_xald (hx : p.tables.exec = Jvm.exec) (hb : c.code = cc) (hX : hyS G s) (hS : va_S (hyA G) s.heap H locs) (o : Nat) (ho : o < 4) (hi : inb i (hyKl o) = true) (hdg : decode cc pc = .ok (.iaload, 1))
    (kk : W p l e R s m args below meth c H locs cells slots Q (F0 m (pc + 1) ls (.int (hyKf o i.toNatClampNeg) :: rest))) : W p l e R s m args below meth c H locs cells slots Q (F0 m pc ls (.int i :: .ref (exa G o) :: rest)) :=
  va_ti hx hb (hX.2.2.2.2.1 o ho).2 hS (inb_vp hi) rfl hdg kk
theorem hy_xlen {v : Int32} (hx : p.tables.exec = Jvm.exec) (hb : c.code = cc) (hX : hyS G s) (hS : va_S (hyA G) s.heap H locs) (o : Nat) (ho : o < 4) (hv : Int32.ofNat (hyKl o) = v) (hdg : decode cc pc = .ok (.arraylength, 1))
    (kk : W p l e R s m args below meth c H locs cells slots Q (F0 m (pc + 1) ls (.int v :: rest))) : W p l e R s m args below meth c H locs cells slots Q (F0 m pc ls (.ref (exa G o) :: rest)) :=
  va_tlen hx hb (hX.2.2.2.2.1 o ho).2 hS hv hdg kk
theorem hy_gets (hx : p.tables.exec = Jvm.exec) (hb : c.code = cc) (hown : s.vm.findClass own = some m.cls) (hts : ∀ w ∈ hyGood, w.before args s = true) (hX : hyS G s) (hS : va_S (hyA G) s.heap H locs) (o : Nat) (ho : o < 4) (hlink : Cond.fieldLink own index "HymnPage$Key" (hyKn o) "[I" ∈ hyGood) (hdg : decode cc pc = .ok (.getstatic index, 3))
    (kk : W p l e R s m args below meth c H locs cells slots Q (F0 m (pc + 3) ls (.ref (exa G o) :: rest))) : W p l e R s m args below meth c H locs cells slots Q (F0 m pc ls rest) :=
  va_gets hx hb (hX.2.2.2.2.1 o ho).1 hS hown (hts _ hlink) (fun _ h => h) hdg kk
end HYF
