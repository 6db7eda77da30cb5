/-! The law's body: each case of its switch, from the case to the loop's end; by program. -/
def lcx (p : Program) (l : Launch) (s : State) (m : MethodId) (c : Code) (G : hyG) (b L : Nat) (xs : Nat → Int32) : Prop :=
  p.tables.exec = Jvm.exec ∧ c.code = cL_law ∧ c.maxLocals = 9 ∧ s.vm.findClass RL = some m.cls ∧ (∀ w ∈ hyGood, w.before #[Value.ref b] s = true) ∧ hyS G s ∧ hyNC s ∧ va_X b L xs s s.heap ∧ b < s.heap.size ∧ ¬ hyA G b ∧ l.stackTraces = false
def liv (i : Int32) (L : Nat) : Prop := vp_in (i + 1) L ∧ vp_in (i + 2) L ∧ vp_in (i + 3) L ∧ vp_in (i + 4) L ∧ vp_in (i + 5) L
abbrev lvb (b : Nat) (G : hyG) (i : Int32) : List (Nat × Value) := [(4, .int i), (3, .ref (adr G 51)), (2, .ref (adr G 30)), (1, .ref (adr G 0)), (0, .ref b)]
def lnx (p : Program) (l : Launch) (e : Env) (s : State) (m : MethodId) (below : List Frame) (meth : Method) (c : Code) (G : hyG) (b : Nat) (i : Int32) (cells slots : Nat) (Q : State → Prop) : Prop :=
  ∀ (T2 : hyT) (H2 : Heap) (locs2 : List Loc) (ls2 : Array Slot), INV T2 → va_P G.1 vwCl (wld G T2) H2 → va_S (hyA G) s.heap H2 locs2 → lv_has ls2 9 (lvb b G i) → W p l e room_1 s m #[Value.ref b] below meth c H2 locs2 (cells + 1) (slots + 6 * 1) Q (F0 m 1999 ls2 [])
theorem lgs0 (x : Int64) : lg_cmp x x = 0 := by
  unfold lg_cmp
  rw [if_neg (show ¬ x > x from fun h => by rw [gt_iff_lt, Int64.lt_iff_toInt_lt] at h; omega), if_pos rfl]
theorem hM_cmp {v : UInt64} (h : Jd_isNaN v hM0 = false) : Op.cmpValue (FP.dcmp v v) CmpOp.l = 0 := by
  unfold Jd_isNaN at h
  simpa using h
theorem lgs {x y : Int64} (h : x = y) : lg_cmp x y = 0 := by subst h; exact lgs0 x
set_option maxHeartbeats 1000000 in
set_option maxRecDepth 100000 in
theorem lc_0 {p : Program} {l : Launch} {e : Env} {s : State} {m : MethodId} {below : List Frame} {meth : Method} {c : Code} {G : hyG} {T : hyT} {H : Heap} {locs : List Loc} {cells slots b L : Nat} {xs : Nat → Int32} {i : Int32} {Q : State → Prop} {ls : Array Slot} (CX : lcx p l s m c G b L xs) (hv : liv i L) (hI : INV T) (hP : va_P G.1 vwCl (wld G T) H) (hS : va_S (hyA G) s.heap H locs) (hl : lv_has ls 9 (lvb b G i)) (hroom : cells + 1 ≤ room_1.cells ∧ slots + 6 * 1 ≤ room_1.slots) (next : lnx p l e s m below meth c G b i cells slots Q) : W p l e room_1 s m #[Value.ref b] below meth c H locs cells slots Q (F0 m 180 ls []) := by
  obtain ⟨hx, hb, hml, hown, hts, hX, hN, hXs, hbl, hbA, hlt⟩ := CX
  obtain ⟨hv1, hv2, hv3, hv4, hv5⟩ := hv
  obtain ⟨T0a, T0b, T0c⟩ := T
  have hl : lv_has ls 9 [(4, .int i), (3, .ref (adr G 51)), (2, .ref (adr G 30)), (1, .ref (adr G 0)), (0, .ref b)] := hl
  refine lv_aload_n hx hb dL_law_180 rfl (lv_at hl 3 rfl) ?_
  refine lv_aload_n hx hb dL_law_181 rfl (lv_at hl 4 rfl) ?_
  refine lv_iload hx hb dL_law_182 (lv_at hl 0 rfl) ?_
  refine lv_iconst (v := 1) hx hb dL_law_184 rfl ?_
  refine lv_iadd hx hb dL_law_185 ?_
  refine va_sld hx hb hXs hbl hbA hS hv1 dL_law_186 ?_
  refine lv_aload_n hx hb dL_law_187 rfl (lv_at hl 1 rfl) ?_
  obtain ⟨k, ⟨Mc1, Mr1, Mo1⟩, r, N, e1, e2, e3, e4, e5⟩ := s_begin hI (xs (i + 1).toNatClampNeg)
  dsimp only at e1 e2 e3 e4 e5
  refine hy_ret (hy_rSW2 (T := (T0a, T0b, T0c)) (v := some (.int k)) (T2 := (Mc1, Mr1, Mo1)) (As := [.ref (adr G 0), .int (xs (i + 1).toNatClampNeg), .ref (adr G 51)]) (rest := []) (n := 1) hx hb hml hown hts hX hN hP hS hl (c_La_begin hlt (xs (i + 1).toNatClampNeg) (T0a, T0b, T0c) e1) m_La_begin q_800 rfl rfl (Nat.le_of_ble_eq_true rfl) dL_law_188 ⟨Nat.le_of_ble_eq_true rfl, Nat.le_of_ble_eq_true rfl⟩ hroom) hS (fun H locs hP hS => ?_)
  refine lv_istore (lv' := [(5, .int k), (4, .int i), (3, .ref (adr G 51)), (2, .ref (adr G 30)), (1, .ref (adr G 0)), (0, .ref b)]) hx hb dL_law_191 hl (by decide) rfl (fun ls hl => ?_)
  refine lv_aload_n hx hb dL_law_193 rfl (lv_at hl 3 rfl) ?_
  refine lv_aload_n hx hb dL_law_194 rfl (lv_at hl 5 rfl) ?_
  refine lv_iload hx hb dL_law_195 (lv_at hl 1 rfl) ?_
  refine lv_iconst (v := 1) hx hb dL_law_197 rfl ?_
  refine lv_iadd hx hb dL_law_198 ?_
  refine va_sld hx hb hXs hbl hbA hS hv1 dL_law_199 ?_
  refine hy_ret (hy_rV0 (T := (Mc1, Mr1, Mo1)) (v := some (.int r)) (T2 := (Mc1, N, Mo1)) (o := 30) (As := [.int (xs (i + 1).toNatClampNeg)]) (rest := []) (n := 0) hx hb hml hown hts hX hP hS hl (c_Rf_begin Mc1 Mo1 (xs (i + 1).toNatClampNeg) Mr1 (res := (r, N)) e2) m_Rf_begin q_1306 (hy_recv hX hP 30 10 (by decide) rfl rfl) rfl rfl (Nat.le_of_ble_eq_true rfl) dL_law_200 ⟨Nat.le_of_ble_eq_true rfl, Nat.le_of_ble_eq_true rfl⟩ hroom) hS (fun H locs hP hS => ?_)
  refine lv_istore (lv' := [(6, .int r), (5, .int k), (4, .int i), (3, .ref (adr G 51)), (2, .ref (adr G 30)), (1, .ref (adr G 0)), (0, .ref b)]) hx hb dL_law_203 hl (by decide) rfl (fun ls hl => ?_)
  refine lv_aload_n hx hb dL_law_205 rfl (lv_at hl 4 rfl) ?_
  refine hy_ret (hy_rV0 (T := (Mc1, N, Mo1)) (v := some (.int k)) (T2 := (Mc1, N, Mo1)) (o := 30) (As := []) (rest := []) (n := 0) hx hb hml hown hts hX hP hS hl (c_Rf_thrown Mc1 Mo1 N (res := k) e3) m_Rf_thrown q_1302 (hy_recv hX hP 30 10 (by decide) rfl rfl) rfl rfl (Nat.le_of_ble_eq_true rfl) dL_law_206 ⟨Nat.le_of_ble_eq_true rfl, Nat.le_of_ble_eq_true rfl⟩ hroom) hS (fun H locs hP hS => ?_)
  refine lv_iload hx hb dL_law_209 (lv_at hl 1 rfl) ?_
  refine lv_icmp_eq (tgt := 216) hx hb dL_law_211 (by decide) (fun _ => ?_) (fun z => absurd rfl z)
  refine lv_iload hx hb dL_law_216 (lv_at hl 1 rfl) ?_
  refine lv_if_ne (tgt := 233) hx hb dL_law_218 (by decide) (fun _ => ?_) (fun ck => ?_)
  · refine lv_goto (tgt := 1999) hx hb dL_law_233 (by decide) ?_
    exact next _ H locs _ e5 hP hS (lv_sub hl [2, 3, 4, 5, 6] rfl)
  · refine lv_aload_n hx hb dL_law_221 rfl (lv_at hl 3 rfl) ?_
    refine lv_iconst (v := 0) hx hb dL_law_222 rfl ?_
    refine hy_lald (T := (Mc1, N, Mo1)) hx hb hX hP rfl dL_law_223 ?_
    refine lv_iload hx hb dL_law_224 (lv_at hl 0 rfl) ?_
    refine lv_i2l hx hb dL_law_226 rfl ?_
    refine W.lcmp hx hb dL_law_227 ?_
    refine lv_if_eq (tgt := 233) hx hb dL_law_228 (by decide) (fun _ => ?_) (fun z => absurd (lgs (e4 ck)) z)
    refine lv_goto (tgt := 1999) hx hb dL_law_233 (by decide) ?_
    exact next _ H locs _ e5 hP hS (lv_sub hl [2, 3, 4, 5, 6] rfl)
set_option maxHeartbeats 1000000 in
set_option maxRecDepth 100000 in
theorem lc_1 {p : Program} {l : Launch} {e : Env} {s : State} {m : MethodId} {below : List Frame} {meth : Method} {c : Code} {G : hyG} {T : hyT} {H : Heap} {locs : List Loc} {cells slots b L : Nat} {xs : Nat → Int32} {i : Int32} {Q : State → Prop} {ls : Array Slot} (CX : lcx p l s m c G b L xs) (hv : liv i L) (hI : INV T) (hP : va_P G.1 vwCl (wld G T) H) (hS : va_S (hyA G) s.heap H locs) (hl : lv_has ls 9 (lvb b G i)) (hroom : cells + 1 ≤ room_1.cells ∧ slots + 6 * 1 ≤ room_1.slots) (next : lnx p l e s m below meth c G b i cells slots Q) : W p l e room_1 s m #[Value.ref b] below meth c H locs cells slots Q (F0 m 236 ls []) := by
  obtain ⟨hx, hb, hml, hown, hts, hX, hN, hXs, hbl, hbA, hlt⟩ := CX
  obtain ⟨hv1, hv2, hv3, hv4, hv5⟩ := hv
  obtain ⟨T0a, T0b, T0c⟩ := T
  have hl : lv_has ls 9 [(4, .int i), (3, .ref (adr G 51)), (2, .ref (adr G 30)), (1, .ref (adr G 0)), (0, .ref b)] := hl
  refine lv_aload_n hx hb dL_law_236 rfl (lv_at hl 3 rfl) ?_
  refine lv_aload_n hx hb dL_law_237 rfl (lv_at hl 4 rfl) ?_
  refine lv_iload hx hb dL_law_238 (lv_at hl 0 rfl) ?_
  refine lv_iconst (v := 1) hx hb dL_law_240 rfl ?_
  refine lv_iadd hx hb dL_law_241 ?_
  refine va_sld hx hb hXs hbl hbA hS hv1 dL_law_242 ?_
  refine lv_aload_n hx hb dL_law_243 rfl (lv_at hl 4 rfl) ?_
  refine lv_iload hx hb dL_law_244 (lv_at hl 0 rfl) ?_
  refine lv_iconst (v := 2) hx hb dL_law_246 rfl ?_
  refine lv_iadd hx hb dL_law_247 ?_
  refine va_sld hx hb hXs hbl hbA hS hv2 dL_law_248 ?_
  refine lv_aload_n hx hb dL_law_249 rfl (lv_at hl 4 rfl) ?_
  refine lv_iload hx hb dL_law_250 (lv_at hl 0 rfl) ?_
  refine lv_iconst (v := 3) hx hb dL_law_252 rfl ?_
  refine lv_iadd hx hb dL_law_253 ?_
  refine va_sld hx hb hXs hbl hbA hS hv3 dL_law_254 ?_
  refine lv_aload_n hx hb dL_law_255 rfl (lv_at hl 4 rfl) ?_
  refine lv_iload hx hb dL_law_256 (lv_at hl 0 rfl) ?_
  refine lv_iconst (v := 4) hx hb dL_law_258 rfl ?_
  refine lv_iadd hx hb dL_law_259 ?_
  refine va_sld hx hb hXs hbl hbA hS hv4 dL_law_260 ?_
  refine lv_aload_n hx hb dL_law_261 rfl (lv_at hl 4 rfl) ?_
  refine lv_iload hx hb dL_law_262 (lv_at hl 0 rfl) ?_
  refine lv_iconst (v := 5) hx hb dL_law_264 rfl ?_
  refine lv_iadd hx hb dL_law_265 ?_
  refine va_sld hx hb hXs hbl hbA hS hv5 dL_law_266 ?_
  refine lv_aload_n hx hb dL_law_267 rfl (lv_at hl 1 rfl) ?_
  obtain ⟨k, ⟨Mc1, Mr1, Mo1⟩, r, N, e1, e2, e3, e4, e5⟩ := s_addNote hI (xs (i + 1).toNatClampNeg) (xs (i + 2).toNatClampNeg) (xs (i + 3).toNatClampNeg) (xs (i + 4).toNatClampNeg) (xs (i + 5).toNatClampNeg)
  dsimp only at e1 e2 e3 e4 e5
  refine hy_ret (hy_rSW2 (T := (T0a, T0b, T0c)) (v := some (.int k)) (T2 := (Mc1, Mr1, Mo1)) (As := [.ref (adr G 0), .int (xs (i + 1).toNatClampNeg), .int (xs (i + 2).toNatClampNeg), .int (xs (i + 3).toNatClampNeg), .int (xs (i + 4).toNatClampNeg), .int (xs (i + 5).toNatClampNeg), .ref (adr G 51)]) (rest := []) (n := 1) hx hb hml hown hts hX hN hP hS hl (c_La_addNote hlt (xs (i + 1).toNatClampNeg) (xs (i + 2).toNatClampNeg) (xs (i + 3).toNatClampNeg) (xs (i + 4).toNatClampNeg) (xs (i + 5).toNatClampNeg) (T0a, T0b, T0c) e1) m_La_addNote q_892 rfl rfl (Nat.le_of_ble_eq_true rfl) dL_law_268 ⟨Nat.le_of_ble_eq_true rfl, Nat.le_of_ble_eq_true rfl⟩ hroom) hS (fun H locs hP hS => ?_)
  refine lv_istore (lv' := [(5, .int k), (4, .int i), (3, .ref (adr G 51)), (2, .ref (adr G 30)), (1, .ref (adr G 0)), (0, .ref b)]) hx hb dL_law_271 hl (by decide) rfl (fun ls hl => ?_)
  refine lv_aload_n hx hb dL_law_273 rfl (lv_at hl 3 rfl) ?_
  refine lv_aload_n hx hb dL_law_274 rfl (lv_at hl 5 rfl) ?_
  refine lv_iload hx hb dL_law_275 (lv_at hl 1 rfl) ?_
  refine lv_iconst (v := 1) hx hb dL_law_277 rfl ?_
  refine lv_iadd hx hb dL_law_278 ?_
  refine va_sld hx hb hXs hbl hbA hS hv1 dL_law_279 ?_
  refine lv_aload_n hx hb dL_law_280 rfl (lv_at hl 5 rfl) ?_
  refine lv_iload hx hb dL_law_281 (lv_at hl 1 rfl) ?_
  refine lv_iconst (v := 2) hx hb dL_law_283 rfl ?_
  refine lv_iadd hx hb dL_law_284 ?_
  refine va_sld hx hb hXs hbl hbA hS hv2 dL_law_285 ?_
  refine lv_aload_n hx hb dL_law_286 rfl (lv_at hl 5 rfl) ?_
  refine lv_iload hx hb dL_law_287 (lv_at hl 1 rfl) ?_
  refine lv_iconst (v := 3) hx hb dL_law_289 rfl ?_
  refine lv_iadd hx hb dL_law_290 ?_
  refine va_sld hx hb hXs hbl hbA hS hv3 dL_law_291 ?_
  refine lv_aload_n hx hb dL_law_292 rfl (lv_at hl 5 rfl) ?_
  refine lv_iload hx hb dL_law_293 (lv_at hl 1 rfl) ?_
  refine lv_iconst (v := 4) hx hb dL_law_295 rfl ?_
  refine lv_iadd hx hb dL_law_296 ?_
  refine va_sld hx hb hXs hbl hbA hS hv4 dL_law_297 ?_
  refine lv_aload_n hx hb dL_law_298 rfl (lv_at hl 5 rfl) ?_
  refine lv_iload hx hb dL_law_299 (lv_at hl 1 rfl) ?_
  refine lv_iconst (v := 5) hx hb dL_law_301 rfl ?_
  refine lv_iadd hx hb dL_law_302 ?_
  refine va_sld hx hb hXs hbl hbA hS hv5 dL_law_303 ?_
  refine hy_ret (hy_rV0 (T := (Mc1, Mr1, Mo1)) (v := some (.int r)) (T2 := (Mc1, N, Mo1)) (o := 30) (As := [.int (xs (i + 1).toNatClampNeg), .int (xs (i + 2).toNatClampNeg), .int (xs (i + 3).toNatClampNeg), .int (xs (i + 4).toNatClampNeg), .int (xs (i + 5).toNatClampNeg)]) (rest := []) (n := 0) hx hb hml hown hts hX hP hS hl (c_Rf_addNote Mc1 Mo1 (xs (i + 1).toNatClampNeg) (xs (i + 2).toNatClampNeg) (xs (i + 3).toNatClampNeg) (xs (i + 4).toNatClampNeg) (xs (i + 5).toNatClampNeg) Mr1 (res := (r, N)) e2) m_Rf_addNote q_1313 (hy_recv hX hP 30 10 (by decide) rfl rfl) rfl rfl (Nat.le_of_ble_eq_true rfl) dL_law_304 ⟨Nat.le_of_ble_eq_true rfl, Nat.le_of_ble_eq_true rfl⟩ hroom) hS (fun H locs hP hS => ?_)
  refine lv_istore (lv' := [(6, .int r), (5, .int k), (4, .int i), (3, .ref (adr G 51)), (2, .ref (adr G 30)), (1, .ref (adr G 0)), (0, .ref b)]) hx hb dL_law_307 hl (by decide) rfl (fun ls hl => ?_)
  refine lv_aload_n hx hb dL_law_309 rfl (lv_at hl 4 rfl) ?_
  refine hy_ret (hy_rV0 (T := (Mc1, N, Mo1)) (v := some (.int k)) (T2 := (Mc1, N, Mo1)) (o := 30) (As := []) (rest := []) (n := 0) hx hb hml hown hts hX hP hS hl (c_Rf_thrown Mc1 Mo1 N (res := k) e3) m_Rf_thrown q_1302 (hy_recv hX hP 30 10 (by decide) rfl rfl) rfl rfl (Nat.le_of_ble_eq_true rfl) dL_law_310 ⟨Nat.le_of_ble_eq_true rfl, Nat.le_of_ble_eq_true rfl⟩ hroom) hS (fun H locs hP hS => ?_)
  refine lv_iload hx hb dL_law_313 (lv_at hl 1 rfl) ?_
  refine lv_icmp_eq (tgt := 320) hx hb dL_law_315 (by decide) (fun _ => ?_) (fun z => absurd rfl z)
  refine lv_iload hx hb dL_law_320 (lv_at hl 1 rfl) ?_
  refine lv_if_ne (tgt := 337) hx hb dL_law_322 (by decide) (fun _ => ?_) (fun ck => ?_)
  · refine lv_goto (tgt := 1999) hx hb dL_law_337 (by decide) ?_
    exact next _ H locs _ e5 hP hS (lv_sub hl [2, 3, 4, 5, 6] rfl)
  · refine lv_aload_n hx hb dL_law_325 rfl (lv_at hl 3 rfl) ?_
    refine lv_iconst (v := 0) hx hb dL_law_326 rfl ?_
    refine hy_lald (T := (Mc1, N, Mo1)) hx hb hX hP rfl dL_law_327 ?_
    refine lv_iload hx hb dL_law_328 (lv_at hl 0 rfl) ?_
    refine lv_i2l hx hb dL_law_330 rfl ?_
    refine W.lcmp hx hb dL_law_331 ?_
    refine lv_if_eq (tgt := 337) hx hb dL_law_332 (by decide) (fun _ => ?_) (fun z => absurd (lgs (e4 ck)) z)
    refine lv_goto (tgt := 1999) hx hb dL_law_337 (by decide) ?_
    exact next _ H locs _ e5 hP hS (lv_sub hl [2, 3, 4, 5, 6] rfl)
set_option maxHeartbeats 1000000 in
set_option maxRecDepth 100000 in
theorem lc_2 {p : Program} {l : Launch} {e : Env} {s : State} {m : MethodId} {below : List Frame} {meth : Method} {c : Code} {G : hyG} {T : hyT} {H : Heap} {locs : List Loc} {cells slots b L : Nat} {xs : Nat → Int32} {i : Int32} {Q : State → Prop} {ls : Array Slot} (CX : lcx p l s m c G b L xs) (hv : liv i L) (hI : INV T) (hP : va_P G.1 vwCl (wld G T) H) (hS : va_S (hyA G) s.heap H locs) (hl : lv_has ls 9 (lvb b G i)) (hroom : cells + 1 ≤ room_1.cells ∧ slots + 6 * 1 ≤ room_1.slots) (next : lnx p l e s m below meth c G b i cells slots Q) : W p l e room_1 s m #[Value.ref b] below meth c H locs cells slots Q (F0 m 340 ls []) := by
  obtain ⟨hx, hb, hml, hown, hts, hX, hN, hXs, hbl, hbA, hlt⟩ := CX
  obtain ⟨hv1, hv2, hv3, hv4, hv5⟩ := hv
  obtain ⟨T0a, T0b, T0c⟩ := T
  have hl : lv_has ls 9 [(4, .int i), (3, .ref (adr G 51)), (2, .ref (adr G 30)), (1, .ref (adr G 0)), (0, .ref b)] := hl
  refine lv_aload_n hx hb dL_law_340 rfl (lv_at hl 3 rfl) ?_
  refine lv_aload_n hx hb dL_law_341 rfl (lv_at hl 1 rfl) ?_
  obtain ⟨k, ⟨Mc1, Mr1, Mo1⟩, r, N, e1, e2, e3, e4, e5⟩ := s_dropNote hI 
  dsimp only at e1 e2 e3 e4 e5
  refine hy_ret (hy_rSW2 (T := (T0a, T0b, T0c)) (v := some (.int k)) (T2 := (Mc1, Mr1, Mo1)) (As := [.ref (adr G 0), .ref (adr G 51)]) (rest := []) (n := 1) hx hb hml hown hts hX hN hP hS hl (c_La_dropNote hlt  (T0a, T0b, T0c) e1) m_La_dropNote q_928 rfl rfl (Nat.le_of_ble_eq_true rfl) dL_law_342 ⟨Nat.le_of_ble_eq_true rfl, Nat.le_of_ble_eq_true rfl⟩ hroom) hS (fun H locs hP hS => ?_)
  refine lv_istore (lv' := [(5, .int k), (4, .int i), (3, .ref (adr G 51)), (2, .ref (adr G 30)), (1, .ref (adr G 0)), (0, .ref b)]) hx hb dL_law_345 hl (by decide) rfl (fun ls hl => ?_)
  refine lv_aload_n hx hb dL_law_347 rfl (lv_at hl 3 rfl) ?_
  refine hy_ret (hy_rV0 (T := (Mc1, Mr1, Mo1)) (v := some (.int r)) (T2 := (Mc1, N, Mo1)) (o := 30) (As := []) (rest := []) (n := 0) hx hb hml hown hts hX hP hS hl (c_Rf_dropNote Mc1 Mo1  Mr1 (res := (r, N)) e2) m_Rf_dropNote q_1320 (hy_recv hX hP 30 10 (by decide) rfl rfl) rfl rfl (Nat.le_of_ble_eq_true rfl) dL_law_348 ⟨Nat.le_of_ble_eq_true rfl, Nat.le_of_ble_eq_true rfl⟩ hroom) hS (fun H locs hP hS => ?_)
  refine lv_istore (lv' := [(6, .int r), (5, .int k), (4, .int i), (3, .ref (adr G 51)), (2, .ref (adr G 30)), (1, .ref (adr G 0)), (0, .ref b)]) hx hb dL_law_351 hl (by decide) rfl (fun ls hl => ?_)
  refine lv_aload_n hx hb dL_law_353 rfl (lv_at hl 4 rfl) ?_
  refine hy_ret (hy_rV0 (T := (Mc1, N, Mo1)) (v := some (.int k)) (T2 := (Mc1, N, Mo1)) (o := 30) (As := []) (rest := []) (n := 0) hx hb hml hown hts hX hP hS hl (c_Rf_thrown Mc1 Mo1 N (res := k) e3) m_Rf_thrown q_1302 (hy_recv hX hP 30 10 (by decide) rfl rfl) rfl rfl (Nat.le_of_ble_eq_true rfl) dL_law_354 ⟨Nat.le_of_ble_eq_true rfl, Nat.le_of_ble_eq_true rfl⟩ hroom) hS (fun H locs hP hS => ?_)
  refine lv_iload hx hb dL_law_357 (lv_at hl 1 rfl) ?_
  refine lv_icmp_eq (tgt := 364) hx hb dL_law_359 (by decide) (fun _ => ?_) (fun z => absurd rfl z)
  refine lv_iload hx hb dL_law_364 (lv_at hl 1 rfl) ?_
  refine lv_if_ne (tgt := 381) hx hb dL_law_366 (by decide) (fun _ => ?_) (fun ck => ?_)
  · refine lv_goto (tgt := 1999) hx hb dL_law_381 (by decide) ?_
    exact next _ H locs _ e5 hP hS (lv_sub hl [2, 3, 4, 5, 6] rfl)
  · refine lv_aload_n hx hb dL_law_369 rfl (lv_at hl 3 rfl) ?_
    refine lv_iconst (v := 0) hx hb dL_law_370 rfl ?_
    refine hy_lald (T := (Mc1, N, Mo1)) hx hb hX hP rfl dL_law_371 ?_
    refine lv_iload hx hb dL_law_372 (lv_at hl 0 rfl) ?_
    refine lv_i2l hx hb dL_law_374 rfl ?_
    refine W.lcmp hx hb dL_law_375 ?_
    refine lv_if_eq (tgt := 381) hx hb dL_law_376 (by decide) (fun _ => ?_) (fun z => absurd (lgs (e4 ck)) z)
    refine lv_goto (tgt := 1999) hx hb dL_law_381 (by decide) ?_
    exact next _ H locs _ e5 hP hS (lv_sub hl [2, 3, 4, 5, 6] rfl)
set_option maxHeartbeats 1000000 in
set_option maxRecDepth 100000 in
theorem lc_3 {p : Program} {l : Launch} {e : Env} {s : State} {m : MethodId} {below : List Frame} {meth : Method} {c : Code} {G : hyG} {T : hyT} {H : Heap} {locs : List Loc} {cells slots b L : Nat} {xs : Nat → Int32} {i : Int32} {Q : State → Prop} {ls : Array Slot} (CX : lcx p l s m c G b L xs) (hv : liv i L) (hI : INV T) (hP : va_P G.1 vwCl (wld G T) H) (hS : va_S (hyA G) s.heap H locs) (hl : lv_has ls 9 (lvb b G i)) (hroom : cells + 1 ≤ room_1.cells ∧ slots + 6 * 1 ≤ room_1.slots) (next : lnx p l e s m below meth c G b i cells slots Q) : W p l e room_1 s m #[Value.ref b] below meth c H locs cells slots Q (F0 m 384 ls []) := by
  obtain ⟨hx, hb, hml, hown, hts, hX, hN, hXs, hbl, hbA, hlt⟩ := CX
  obtain ⟨hv1, hv2, hv3, hv4, hv5⟩ := hv
  obtain ⟨T0a, T0b, T0c⟩ := T
  have hl : lv_has ls 9 [(4, .int i), (3, .ref (adr G 51)), (2, .ref (adr G 30)), (1, .ref (adr G 0)), (0, .ref b)] := hl
  refine lv_aload_n hx hb dL_law_384 rfl (lv_at hl 3 rfl) ?_
  refine lv_aload_n hx hb dL_law_385 rfl (lv_at hl 4 rfl) ?_
  refine lv_iload hx hb dL_law_386 (lv_at hl 0 rfl) ?_
  refine lv_iconst (v := 1) hx hb dL_law_388 rfl ?_
  refine lv_iadd hx hb dL_law_389 ?_
  refine va_sld hx hb hXs hbl hbA hS hv1 dL_law_390 ?_
  refine lv_aload_n hx hb dL_law_391 rfl (lv_at hl 4 rfl) ?_
  refine lv_iload hx hb dL_law_392 (lv_at hl 0 rfl) ?_
  refine lv_iconst (v := 2) hx hb dL_law_394 rfl ?_
  refine lv_iadd hx hb dL_law_395 ?_
  refine va_sld hx hb hXs hbl hbA hS hv2 dL_law_396 ?_
  refine lv_aload_n hx hb dL_law_397 rfl (lv_at hl 4 rfl) ?_
  refine lv_iload hx hb dL_law_398 (lv_at hl 0 rfl) ?_
  refine lv_iconst (v := 3) hx hb dL_law_400 rfl ?_
  refine lv_iadd hx hb dL_law_401 ?_
  refine va_sld hx hb hXs hbl hbA hS hv3 dL_law_402 ?_
  refine lv_aload_n hx hb dL_law_403 rfl (lv_at hl 1 rfl) ?_
  obtain ⟨k, ⟨Mc1, Mr1, Mo1⟩, r, N, e1, e2, e3, e4, e5⟩ := s_setPitch hI (xs (i + 1).toNatClampNeg) (xs (i + 2).toNatClampNeg) (xs (i + 3).toNatClampNeg)
  dsimp only at e1 e2 e3 e4 e5
  refine hy_ret (hy_rSW2 (T := (T0a, T0b, T0c)) (v := some (.int k)) (T2 := (Mc1, Mr1, Mo1)) (As := [.ref (adr G 0), .int (xs (i + 1).toNatClampNeg), .int (xs (i + 2).toNatClampNeg), .int (xs (i + 3).toNatClampNeg), .ref (adr G 51)]) (rest := []) (n := 1) hx hb hml hown hts hX hN hP hS hl (c_La_setPitch hlt (xs (i + 1).toNatClampNeg) (xs (i + 2).toNatClampNeg) (xs (i + 3).toNatClampNeg) (T0a, T0b, T0c) e1) m_La_setPitch q_944 rfl rfl (Nat.le_of_ble_eq_true rfl) dL_law_404 ⟨Nat.le_of_ble_eq_true rfl, Nat.le_of_ble_eq_true rfl⟩ hroom) hS (fun H locs hP hS => ?_)
  refine lv_istore (lv' := [(5, .int k), (4, .int i), (3, .ref (adr G 51)), (2, .ref (adr G 30)), (1, .ref (adr G 0)), (0, .ref b)]) hx hb dL_law_407 hl (by decide) rfl (fun ls hl => ?_)
  refine lv_aload_n hx hb dL_law_409 rfl (lv_at hl 3 rfl) ?_
  refine lv_aload_n hx hb dL_law_410 rfl (lv_at hl 5 rfl) ?_
  refine lv_iload hx hb dL_law_411 (lv_at hl 1 rfl) ?_
  refine lv_iconst (v := 1) hx hb dL_law_413 rfl ?_
  refine lv_iadd hx hb dL_law_414 ?_
  refine va_sld hx hb hXs hbl hbA hS hv1 dL_law_415 ?_
  refine lv_aload_n hx hb dL_law_416 rfl (lv_at hl 5 rfl) ?_
  refine lv_iload hx hb dL_law_417 (lv_at hl 1 rfl) ?_
  refine lv_iconst (v := 2) hx hb dL_law_419 rfl ?_
  refine lv_iadd hx hb dL_law_420 ?_
  refine va_sld hx hb hXs hbl hbA hS hv2 dL_law_421 ?_
  refine lv_aload_n hx hb dL_law_422 rfl (lv_at hl 5 rfl) ?_
  refine lv_iload hx hb dL_law_423 (lv_at hl 1 rfl) ?_
  refine lv_iconst (v := 3) hx hb dL_law_425 rfl ?_
  refine lv_iadd hx hb dL_law_426 ?_
  refine va_sld hx hb hXs hbl hbA hS hv3 dL_law_427 ?_
  refine hy_ret (hy_rV0 (T := (Mc1, Mr1, Mo1)) (v := some (.int r)) (T2 := (Mc1, N, Mo1)) (o := 30) (As := [.int (xs (i + 1).toNatClampNeg), .int (xs (i + 2).toNatClampNeg), .int (xs (i + 3).toNatClampNeg)]) (rest := []) (n := 0) hx hb hml hown hts hX hP hS hl (c_Rf_setPitch Mc1 Mo1 (xs (i + 1).toNatClampNeg) (xs (i + 2).toNatClampNeg) (xs (i + 3).toNatClampNeg) Mr1 (res := (r, N)) e2) m_Rf_setPitch q_1332 (hy_recv hX hP 30 10 (by decide) rfl rfl) rfl rfl (Nat.le_of_ble_eq_true rfl) dL_law_428 ⟨Nat.le_of_ble_eq_true rfl, Nat.le_of_ble_eq_true rfl⟩ hroom) hS (fun H locs hP hS => ?_)
  refine lv_istore (lv' := [(6, .int r), (5, .int k), (4, .int i), (3, .ref (adr G 51)), (2, .ref (adr G 30)), (1, .ref (adr G 0)), (0, .ref b)]) hx hb dL_law_431 hl (by decide) rfl (fun ls hl => ?_)
  refine lv_aload_n hx hb dL_law_433 rfl (lv_at hl 4 rfl) ?_
  refine hy_ret (hy_rV0 (T := (Mc1, N, Mo1)) (v := some (.int k)) (T2 := (Mc1, N, Mo1)) (o := 30) (As := []) (rest := []) (n := 0) hx hb hml hown hts hX hP hS hl (c_Rf_thrown Mc1 Mo1 N (res := k) e3) m_Rf_thrown q_1302 (hy_recv hX hP 30 10 (by decide) rfl rfl) rfl rfl (Nat.le_of_ble_eq_true rfl) dL_law_434 ⟨Nat.le_of_ble_eq_true rfl, Nat.le_of_ble_eq_true rfl⟩ hroom) hS (fun H locs hP hS => ?_)
  refine lv_iload hx hb dL_law_437 (lv_at hl 1 rfl) ?_
  refine lv_icmp_eq (tgt := 444) hx hb dL_law_439 (by decide) (fun _ => ?_) (fun z => absurd rfl z)
  refine lv_iload hx hb dL_law_444 (lv_at hl 1 rfl) ?_
  refine lv_if_ne (tgt := 461) hx hb dL_law_446 (by decide) (fun _ => ?_) (fun ck => ?_)
  · refine lv_goto (tgt := 1999) hx hb dL_law_461 (by decide) ?_
    exact next _ H locs _ e5 hP hS (lv_sub hl [2, 3, 4, 5, 6] rfl)
  · refine lv_aload_n hx hb dL_law_449 rfl (lv_at hl 3 rfl) ?_
    refine lv_iconst (v := 0) hx hb dL_law_450 rfl ?_
    refine hy_lald (T := (Mc1, N, Mo1)) hx hb hX hP rfl dL_law_451 ?_
    refine lv_iload hx hb dL_law_452 (lv_at hl 0 rfl) ?_
    refine lv_i2l hx hb dL_law_454 rfl ?_
    refine W.lcmp hx hb dL_law_455 ?_
    refine lv_if_eq (tgt := 461) hx hb dL_law_456 (by decide) (fun _ => ?_) (fun z => absurd (lgs (e4 ck)) z)
    refine lv_goto (tgt := 1999) hx hb dL_law_461 (by decide) ?_
    exact next _ H locs _ e5 hP hS (lv_sub hl [2, 3, 4, 5, 6] rfl)
set_option maxHeartbeats 1000000 in
set_option maxRecDepth 100000 in
theorem lc_4 {p : Program} {l : Launch} {e : Env} {s : State} {m : MethodId} {below : List Frame} {meth : Method} {c : Code} {G : hyG} {T : hyT} {H : Heap} {locs : List Loc} {cells slots b L : Nat} {xs : Nat → Int32} {i : Int32} {Q : State → Prop} {ls : Array Slot} (CX : lcx p l s m c G b L xs) (hv : liv i L) (hI : INV T) (hP : va_P G.1 vwCl (wld G T) H) (hS : va_S (hyA G) s.heap H locs) (hl : lv_has ls 9 (lvb b G i)) (hroom : cells + 1 ≤ room_1.cells ∧ slots + 6 * 1 ≤ room_1.slots) (next : lnx p l e s m below meth c G b i cells slots Q) : W p l e room_1 s m #[Value.ref b] below meth c H locs cells slots Q (F0 m 464 ls []) := by
  obtain ⟨hx, hb, hml, hown, hts, hX, hN, hXs, hbl, hbA, hlt⟩ := CX
  obtain ⟨hv1, hv2, hv3, hv4, hv5⟩ := hv
  obtain ⟨T0a, T0b, T0c⟩ := T
  have hl : lv_has ls 9 [(4, .int i), (3, .ref (adr G 51)), (2, .ref (adr G 30)), (1, .ref (adr G 0)), (0, .ref b)] := hl
  refine lv_aload_n hx hb dL_law_464 rfl (lv_at hl 3 rfl) ?_
  refine lv_aload_n hx hb dL_law_465 rfl (lv_at hl 4 rfl) ?_
  refine lv_iload hx hb dL_law_466 (lv_at hl 0 rfl) ?_
  refine lv_iconst (v := 1) hx hb dL_law_468 rfl ?_
  refine lv_iadd hx hb dL_law_469 ?_
  refine va_sld hx hb hXs hbl hbA hS hv1 dL_law_470 ?_
  refine lv_aload_n hx hb dL_law_471 rfl (lv_at hl 4 rfl) ?_
  refine lv_iload hx hb dL_law_472 (lv_at hl 0 rfl) ?_
  refine lv_iconst (v := 2) hx hb dL_law_474 rfl ?_
  refine lv_iadd hx hb dL_law_475 ?_
  refine va_sld hx hb hXs hbl hbA hS hv2 dL_law_476 ?_
  refine lv_if_eq (tgt := 484) hx hb dL_law_477 (by decide) (fun f0 => ?_) (fun f0 => ?_)
  · refine lv_iconst (v := 0) hx hb dL_law_484 rfl ?_
    refine lv_aload_n hx hb dL_law_485 rfl (lv_at hl 4 rfl) ?_
    refine lv_iload hx hb dL_law_486 (lv_at hl 0 rfl) ?_
    refine lv_iconst (v := 3) hx hb dL_law_488 rfl ?_
    refine lv_iadd hx hb dL_law_489 ?_
    refine va_sld hx hb hXs hbl hbA hS hv3 dL_law_490 ?_
    refine lv_if_eq (tgt := 498) hx hb dL_law_491 (by decide) (fun f2 => ?_) (fun f2 => ?_)
    · refine lv_iconst (v := 0) hx hb dL_law_498 rfl ?_
      refine lv_aload_n hx hb dL_law_499 rfl (lv_at hl 1 rfl) ?_
      obtain ⟨k, ⟨Mc1, Mr1, Mo1⟩, r, N, e1, e2, e3, e4, e5⟩ := s_mark hI (xs (i + 1).toNatClampNeg) false false
      dsimp only at e1 e2 e3 e4 e5
      refine hy_ret (hy_rSW2 (T := (T0a, T0b, T0c)) (v := some (.int k)) (T2 := (Mc1, Mr1, Mo1)) (As := [.ref (adr G 0), .int (xs (i + 1).toNatClampNeg), .int 0, .int 0, .ref (adr G 51)]) (rest := []) (n := 1) hx hb hml hown hts hX hN hP hS hl (c_La_mark hlt (xs (i + 1).toNatClampNeg) false false (T0a, T0b, T0c) e1) m_La_mark q_972 rfl rfl (Nat.le_of_ble_eq_true rfl) dL_law_500 ⟨Nat.le_of_ble_eq_true rfl, Nat.le_of_ble_eq_true rfl⟩ hroom) hS (fun H locs hP hS => ?_)
      refine lv_istore (lv' := [(5, .int k), (4, .int i), (3, .ref (adr G 51)), (2, .ref (adr G 30)), (1, .ref (adr G 0)), (0, .ref b)]) hx hb dL_law_503 hl (by decide) rfl (fun ls hl => ?_)
      refine lv_aload_n hx hb dL_law_505 rfl (lv_at hl 3 rfl) ?_
      refine lv_aload_n hx hb dL_law_506 rfl (lv_at hl 5 rfl) ?_
      refine lv_iload hx hb dL_law_507 (lv_at hl 1 rfl) ?_
      refine lv_iconst (v := 1) hx hb dL_law_509 rfl ?_
      refine lv_iadd hx hb dL_law_510 ?_
      refine va_sld hx hb hXs hbl hbA hS hv1 dL_law_511 ?_
      refine lv_aload_n hx hb dL_law_512 rfl (lv_at hl 5 rfl) ?_
      refine lv_iload hx hb dL_law_513 (lv_at hl 1 rfl) ?_
      refine lv_iconst (v := 2) hx hb dL_law_515 rfl ?_
      refine lv_iadd hx hb dL_law_516 ?_
      refine va_sld hx hb hXs hbl hbA hS hv2 dL_law_517 ?_
      refine lv_if_eq (tgt := 525) hx hb dL_law_518 (by decide) (fun _ => ?_) (fun z => absurd f0 z)
      refine lv_iconst (v := 0) hx hb dL_law_525 rfl ?_
      refine lv_aload_n hx hb dL_law_526 rfl (lv_at hl 5 rfl) ?_
      refine lv_iload hx hb dL_law_527 (lv_at hl 1 rfl) ?_
      refine lv_iconst (v := 3) hx hb dL_law_529 rfl ?_
      refine lv_iadd hx hb dL_law_530 ?_
      refine va_sld hx hb hXs hbl hbA hS hv3 dL_law_531 ?_
      refine lv_if_eq (tgt := 539) hx hb dL_law_532 (by decide) (fun _ => ?_) (fun z => absurd f2 z)
      refine lv_iconst (v := 0) hx hb dL_law_539 rfl ?_
      refine hy_ret (hy_rV0 (T := (Mc1, Mr1, Mo1)) (v := some (.int r)) (T2 := (Mc1, N, Mo1)) (o := 30) (As := [.int (xs (i + 1).toNatClampNeg), .int 0, .int 0]) (rest := []) (n := 0) hx hb hml hown hts hX hP hS hl (c_Rf_mark Mc1 Mo1 (xs (i + 1).toNatClampNeg) false false Mr1 (res := (r, N)) e2) m_Rf_mark q_1344 (hy_recv hX hP 30 10 (by decide) rfl rfl) rfl rfl (Nat.le_of_ble_eq_true rfl) dL_law_540 ⟨Nat.le_of_ble_eq_true rfl, Nat.le_of_ble_eq_true rfl⟩ hroom) hS (fun H locs hP hS => ?_)
      refine lv_istore (lv' := [(6, .int r), (5, .int k), (4, .int i), (3, .ref (adr G 51)), (2, .ref (adr G 30)), (1, .ref (adr G 0)), (0, .ref b)]) hx hb dL_law_543 hl (by decide) rfl (fun ls hl => ?_)
      refine lv_aload_n hx hb dL_law_545 rfl (lv_at hl 4 rfl) ?_
      refine hy_ret (hy_rV0 (T := (Mc1, N, Mo1)) (v := some (.int k)) (T2 := (Mc1, N, Mo1)) (o := 30) (As := []) (rest := []) (n := 0) hx hb hml hown hts hX hP hS hl (c_Rf_thrown Mc1 Mo1 N (res := k) e3) m_Rf_thrown q_1302 (hy_recv hX hP 30 10 (by decide) rfl rfl) rfl rfl (Nat.le_of_ble_eq_true rfl) dL_law_546 ⟨Nat.le_of_ble_eq_true rfl, Nat.le_of_ble_eq_true rfl⟩ hroom) hS (fun H locs hP hS => ?_)
      refine lv_iload hx hb dL_law_549 (lv_at hl 1 rfl) ?_
      refine lv_icmp_eq (tgt := 556) hx hb dL_law_551 (by decide) (fun _ => ?_) (fun z => absurd rfl z)
      refine lv_iload hx hb dL_law_556 (lv_at hl 1 rfl) ?_
      refine lv_if_ne (tgt := 573) hx hb dL_law_558 (by decide) (fun _ => ?_) (fun ck => ?_)
      · refine lv_goto (tgt := 1999) hx hb dL_law_573 (by decide) ?_
        exact next _ H locs _ e5 hP hS (lv_sub hl [2, 3, 4, 5, 6] rfl)
      · refine lv_aload_n hx hb dL_law_561 rfl (lv_at hl 3 rfl) ?_
        refine lv_iconst (v := 0) hx hb dL_law_562 rfl ?_
        refine hy_lald (T := (Mc1, N, Mo1)) hx hb hX hP rfl dL_law_563 ?_
        refine lv_iload hx hb dL_law_564 (lv_at hl 0 rfl) ?_
        refine lv_i2l hx hb dL_law_566 rfl ?_
        refine W.lcmp hx hb dL_law_567 ?_
        refine lv_if_eq (tgt := 573) hx hb dL_law_568 (by decide) (fun _ => ?_) (fun z => absurd (lgs (e4 ck)) z)
        refine lv_goto (tgt := 1999) hx hb dL_law_573 (by decide) ?_
        exact next _ H locs _ e5 hP hS (lv_sub hl [2, 3, 4, 5, 6] rfl)
    · refine lv_iconst (v := 1) hx hb dL_law_494 rfl ?_
      refine lv_goto (tgt := 499) hx hb dL_law_495 (by decide) ?_
      refine lv_aload_n hx hb dL_law_499 rfl (lv_at hl 1 rfl) ?_
      obtain ⟨k, ⟨Mc1, Mr1, Mo1⟩, r, N, e1, e2, e3, e4, e5⟩ := s_mark hI (xs (i + 1).toNatClampNeg) false true
      dsimp only at e1 e2 e3 e4 e5
      refine hy_ret (hy_rSW2 (T := (T0a, T0b, T0c)) (v := some (.int k)) (T2 := (Mc1, Mr1, Mo1)) (As := [.ref (adr G 0), .int (xs (i + 1).toNatClampNeg), .int 0, .int 1, .ref (adr G 51)]) (rest := []) (n := 1) hx hb hml hown hts hX hN hP hS hl (c_La_mark hlt (xs (i + 1).toNatClampNeg) false true (T0a, T0b, T0c) e1) m_La_mark q_972 rfl rfl (Nat.le_of_ble_eq_true rfl) dL_law_500 ⟨Nat.le_of_ble_eq_true rfl, Nat.le_of_ble_eq_true rfl⟩ hroom) hS (fun H locs hP hS => ?_)
      refine lv_istore (lv' := [(5, .int k), (4, .int i), (3, .ref (adr G 51)), (2, .ref (adr G 30)), (1, .ref (adr G 0)), (0, .ref b)]) hx hb dL_law_503 hl (by decide) rfl (fun ls hl => ?_)
      refine lv_aload_n hx hb dL_law_505 rfl (lv_at hl 3 rfl) ?_
      refine lv_aload_n hx hb dL_law_506 rfl (lv_at hl 5 rfl) ?_
      refine lv_iload hx hb dL_law_507 (lv_at hl 1 rfl) ?_
      refine lv_iconst (v := 1) hx hb dL_law_509 rfl ?_
      refine lv_iadd hx hb dL_law_510 ?_
      refine va_sld hx hb hXs hbl hbA hS hv1 dL_law_511 ?_
      refine lv_aload_n hx hb dL_law_512 rfl (lv_at hl 5 rfl) ?_
      refine lv_iload hx hb dL_law_513 (lv_at hl 1 rfl) ?_
      refine lv_iconst (v := 2) hx hb dL_law_515 rfl ?_
      refine lv_iadd hx hb dL_law_516 ?_
      refine va_sld hx hb hXs hbl hbA hS hv2 dL_law_517 ?_
      refine lv_if_eq (tgt := 525) hx hb dL_law_518 (by decide) (fun _ => ?_) (fun z => absurd f0 z)
      refine lv_iconst (v := 0) hx hb dL_law_525 rfl ?_
      refine lv_aload_n hx hb dL_law_526 rfl (lv_at hl 5 rfl) ?_
      refine lv_iload hx hb dL_law_527 (lv_at hl 1 rfl) ?_
      refine lv_iconst (v := 3) hx hb dL_law_529 rfl ?_
      refine lv_iadd hx hb dL_law_530 ?_
      refine va_sld hx hb hXs hbl hbA hS hv3 dL_law_531 ?_
      refine lv_if_eq (tgt := 539) hx hb dL_law_532 (by decide) (fun z => absurd z f2) (fun _ => ?_)
      refine lv_iconst (v := 1) hx hb dL_law_535 rfl ?_
      refine lv_goto (tgt := 540) hx hb dL_law_536 (by decide) ?_
      refine hy_ret (hy_rV0 (T := (Mc1, Mr1, Mo1)) (v := some (.int r)) (T2 := (Mc1, N, Mo1)) (o := 30) (As := [.int (xs (i + 1).toNatClampNeg), .int 0, .int 1]) (rest := []) (n := 0) hx hb hml hown hts hX hP hS hl (c_Rf_mark Mc1 Mo1 (xs (i + 1).toNatClampNeg) false true Mr1 (res := (r, N)) e2) m_Rf_mark q_1344 (hy_recv hX hP 30 10 (by decide) rfl rfl) rfl rfl (Nat.le_of_ble_eq_true rfl) dL_law_540 ⟨Nat.le_of_ble_eq_true rfl, Nat.le_of_ble_eq_true rfl⟩ hroom) hS (fun H locs hP hS => ?_)
      refine lv_istore (lv' := [(6, .int r), (5, .int k), (4, .int i), (3, .ref (adr G 51)), (2, .ref (adr G 30)), (1, .ref (adr G 0)), (0, .ref b)]) hx hb dL_law_543 hl (by decide) rfl (fun ls hl => ?_)
      refine lv_aload_n hx hb dL_law_545 rfl (lv_at hl 4 rfl) ?_
      refine hy_ret (hy_rV0 (T := (Mc1, N, Mo1)) (v := some (.int k)) (T2 := (Mc1, N, Mo1)) (o := 30) (As := []) (rest := []) (n := 0) hx hb hml hown hts hX hP hS hl (c_Rf_thrown Mc1 Mo1 N (res := k) e3) m_Rf_thrown q_1302 (hy_recv hX hP 30 10 (by decide) rfl rfl) rfl rfl (Nat.le_of_ble_eq_true rfl) dL_law_546 ⟨Nat.le_of_ble_eq_true rfl, Nat.le_of_ble_eq_true rfl⟩ hroom) hS (fun H locs hP hS => ?_)
      refine lv_iload hx hb dL_law_549 (lv_at hl 1 rfl) ?_
      refine lv_icmp_eq (tgt := 556) hx hb dL_law_551 (by decide) (fun _ => ?_) (fun z => absurd rfl z)
      refine lv_iload hx hb dL_law_556 (lv_at hl 1 rfl) ?_
      refine lv_if_ne (tgt := 573) hx hb dL_law_558 (by decide) (fun _ => ?_) (fun ck => ?_)
      · refine lv_goto (tgt := 1999) hx hb dL_law_573 (by decide) ?_
        exact next _ H locs _ e5 hP hS (lv_sub hl [2, 3, 4, 5, 6] rfl)
      · refine lv_aload_n hx hb dL_law_561 rfl (lv_at hl 3 rfl) ?_
        refine lv_iconst (v := 0) hx hb dL_law_562 rfl ?_
        refine hy_lald (T := (Mc1, N, Mo1)) hx hb hX hP rfl dL_law_563 ?_
        refine lv_iload hx hb dL_law_564 (lv_at hl 0 rfl) ?_
        refine lv_i2l hx hb dL_law_566 rfl ?_
        refine W.lcmp hx hb dL_law_567 ?_
        refine lv_if_eq (tgt := 573) hx hb dL_law_568 (by decide) (fun _ => ?_) (fun z => absurd (lgs (e4 ck)) z)
        refine lv_goto (tgt := 1999) hx hb dL_law_573 (by decide) ?_
        exact next _ H locs _ e5 hP hS (lv_sub hl [2, 3, 4, 5, 6] rfl)
  · refine lv_iconst (v := 1) hx hb dL_law_480 rfl ?_
    refine lv_goto (tgt := 485) hx hb dL_law_481 (by decide) ?_
    refine lv_aload_n hx hb dL_law_485 rfl (lv_at hl 4 rfl) ?_
    refine lv_iload hx hb dL_law_486 (lv_at hl 0 rfl) ?_
    refine lv_iconst (v := 3) hx hb dL_law_488 rfl ?_
    refine lv_iadd hx hb dL_law_489 ?_
    refine va_sld hx hb hXs hbl hbA hS hv3 dL_law_490 ?_
    refine lv_if_eq (tgt := 498) hx hb dL_law_491 (by decide) (fun f2 => ?_) (fun f2 => ?_)
    · refine lv_iconst (v := 0) hx hb dL_law_498 rfl ?_
      refine lv_aload_n hx hb dL_law_499 rfl (lv_at hl 1 rfl) ?_
      obtain ⟨k, ⟨Mc1, Mr1, Mo1⟩, r, N, e1, e2, e3, e4, e5⟩ := s_mark hI (xs (i + 1).toNatClampNeg) true false
      dsimp only at e1 e2 e3 e4 e5
      refine hy_ret (hy_rSW2 (T := (T0a, T0b, T0c)) (v := some (.int k)) (T2 := (Mc1, Mr1, Mo1)) (As := [.ref (adr G 0), .int (xs (i + 1).toNatClampNeg), .int 1, .int 0, .ref (adr G 51)]) (rest := []) (n := 1) hx hb hml hown hts hX hN hP hS hl (c_La_mark hlt (xs (i + 1).toNatClampNeg) true false (T0a, T0b, T0c) e1) m_La_mark q_972 rfl rfl (Nat.le_of_ble_eq_true rfl) dL_law_500 ⟨Nat.le_of_ble_eq_true rfl, Nat.le_of_ble_eq_true rfl⟩ hroom) hS (fun H locs hP hS => ?_)
      refine lv_istore (lv' := [(5, .int k), (4, .int i), (3, .ref (adr G 51)), (2, .ref (adr G 30)), (1, .ref (adr G 0)), (0, .ref b)]) hx hb dL_law_503 hl (by decide) rfl (fun ls hl => ?_)
      refine lv_aload_n hx hb dL_law_505 rfl (lv_at hl 3 rfl) ?_
      refine lv_aload_n hx hb dL_law_506 rfl (lv_at hl 5 rfl) ?_
      refine lv_iload hx hb dL_law_507 (lv_at hl 1 rfl) ?_
      refine lv_iconst (v := 1) hx hb dL_law_509 rfl ?_
      refine lv_iadd hx hb dL_law_510 ?_
      refine va_sld hx hb hXs hbl hbA hS hv1 dL_law_511 ?_
      refine lv_aload_n hx hb dL_law_512 rfl (lv_at hl 5 rfl) ?_
      refine lv_iload hx hb dL_law_513 (lv_at hl 1 rfl) ?_
      refine lv_iconst (v := 2) hx hb dL_law_515 rfl ?_
      refine lv_iadd hx hb dL_law_516 ?_
      refine va_sld hx hb hXs hbl hbA hS hv2 dL_law_517 ?_
      refine lv_if_eq (tgt := 525) hx hb dL_law_518 (by decide) (fun z => absurd z f0) (fun _ => ?_)
      refine lv_iconst (v := 1) hx hb dL_law_521 rfl ?_
      refine lv_goto (tgt := 526) hx hb dL_law_522 (by decide) ?_
      refine lv_aload_n hx hb dL_law_526 rfl (lv_at hl 5 rfl) ?_
      refine lv_iload hx hb dL_law_527 (lv_at hl 1 rfl) ?_
      refine lv_iconst (v := 3) hx hb dL_law_529 rfl ?_
      refine lv_iadd hx hb dL_law_530 ?_
      refine va_sld hx hb hXs hbl hbA hS hv3 dL_law_531 ?_
      refine lv_if_eq (tgt := 539) hx hb dL_law_532 (by decide) (fun _ => ?_) (fun z => absurd f2 z)
      refine lv_iconst (v := 0) hx hb dL_law_539 rfl ?_
      refine hy_ret (hy_rV0 (T := (Mc1, Mr1, Mo1)) (v := some (.int r)) (T2 := (Mc1, N, Mo1)) (o := 30) (As := [.int (xs (i + 1).toNatClampNeg), .int 1, .int 0]) (rest := []) (n := 0) hx hb hml hown hts hX hP hS hl (c_Rf_mark Mc1 Mo1 (xs (i + 1).toNatClampNeg) true false Mr1 (res := (r, N)) e2) m_Rf_mark q_1344 (hy_recv hX hP 30 10 (by decide) rfl rfl) rfl rfl (Nat.le_of_ble_eq_true rfl) dL_law_540 ⟨Nat.le_of_ble_eq_true rfl, Nat.le_of_ble_eq_true rfl⟩ hroom) hS (fun H locs hP hS => ?_)
      refine lv_istore (lv' := [(6, .int r), (5, .int k), (4, .int i), (3, .ref (adr G 51)), (2, .ref (adr G 30)), (1, .ref (adr G 0)), (0, .ref b)]) hx hb dL_law_543 hl (by decide) rfl (fun ls hl => ?_)
      refine lv_aload_n hx hb dL_law_545 rfl (lv_at hl 4 rfl) ?_
      refine hy_ret (hy_rV0 (T := (Mc1, N, Mo1)) (v := some (.int k)) (T2 := (Mc1, N, Mo1)) (o := 30) (As := []) (rest := []) (n := 0) hx hb hml hown hts hX hP hS hl (c_Rf_thrown Mc1 Mo1 N (res := k) e3) m_Rf_thrown q_1302 (hy_recv hX hP 30 10 (by decide) rfl rfl) rfl rfl (Nat.le_of_ble_eq_true rfl) dL_law_546 ⟨Nat.le_of_ble_eq_true rfl, Nat.le_of_ble_eq_true rfl⟩ hroom) hS (fun H locs hP hS => ?_)
      refine lv_iload hx hb dL_law_549 (lv_at hl 1 rfl) ?_
      refine lv_icmp_eq (tgt := 556) hx hb dL_law_551 (by decide) (fun _ => ?_) (fun z => absurd rfl z)
      refine lv_iload hx hb dL_law_556 (lv_at hl 1 rfl) ?_
      refine lv_if_ne (tgt := 573) hx hb dL_law_558 (by decide) (fun _ => ?_) (fun ck => ?_)
      · refine lv_goto (tgt := 1999) hx hb dL_law_573 (by decide) ?_
        exact next _ H locs _ e5 hP hS (lv_sub hl [2, 3, 4, 5, 6] rfl)
      · refine lv_aload_n hx hb dL_law_561 rfl (lv_at hl 3 rfl) ?_
        refine lv_iconst (v := 0) hx hb dL_law_562 rfl ?_
        refine hy_lald (T := (Mc1, N, Mo1)) hx hb hX hP rfl dL_law_563 ?_
        refine lv_iload hx hb dL_law_564 (lv_at hl 0 rfl) ?_
        refine lv_i2l hx hb dL_law_566 rfl ?_
        refine W.lcmp hx hb dL_law_567 ?_
        refine lv_if_eq (tgt := 573) hx hb dL_law_568 (by decide) (fun _ => ?_) (fun z => absurd (lgs (e4 ck)) z)
        refine lv_goto (tgt := 1999) hx hb dL_law_573 (by decide) ?_
        exact next _ H locs _ e5 hP hS (lv_sub hl [2, 3, 4, 5, 6] rfl)
    · refine lv_iconst (v := 1) hx hb dL_law_494 rfl ?_
      refine lv_goto (tgt := 499) hx hb dL_law_495 (by decide) ?_
      refine lv_aload_n hx hb dL_law_499 rfl (lv_at hl 1 rfl) ?_
      obtain ⟨k, ⟨Mc1, Mr1, Mo1⟩, r, N, e1, e2, e3, e4, e5⟩ := s_mark hI (xs (i + 1).toNatClampNeg) true true
      dsimp only at e1 e2 e3 e4 e5
      refine hy_ret (hy_rSW2 (T := (T0a, T0b, T0c)) (v := some (.int k)) (T2 := (Mc1, Mr1, Mo1)) (As := [.ref (adr G 0), .int (xs (i + 1).toNatClampNeg), .int 1, .int 1, .ref (adr G 51)]) (rest := []) (n := 1) hx hb hml hown hts hX hN hP hS hl (c_La_mark hlt (xs (i + 1).toNatClampNeg) true true (T0a, T0b, T0c) e1) m_La_mark q_972 rfl rfl (Nat.le_of_ble_eq_true rfl) dL_law_500 ⟨Nat.le_of_ble_eq_true rfl, Nat.le_of_ble_eq_true rfl⟩ hroom) hS (fun H locs hP hS => ?_)
      refine lv_istore (lv' := [(5, .int k), (4, .int i), (3, .ref (adr G 51)), (2, .ref (adr G 30)), (1, .ref (adr G 0)), (0, .ref b)]) hx hb dL_law_503 hl (by decide) rfl (fun ls hl => ?_)
      refine lv_aload_n hx hb dL_law_505 rfl (lv_at hl 3 rfl) ?_
      refine lv_aload_n hx hb dL_law_506 rfl (lv_at hl 5 rfl) ?_
      refine lv_iload hx hb dL_law_507 (lv_at hl 1 rfl) ?_
      refine lv_iconst (v := 1) hx hb dL_law_509 rfl ?_
      refine lv_iadd hx hb dL_law_510 ?_
      refine va_sld hx hb hXs hbl hbA hS hv1 dL_law_511 ?_
      refine lv_aload_n hx hb dL_law_512 rfl (lv_at hl 5 rfl) ?_
      refine lv_iload hx hb dL_law_513 (lv_at hl 1 rfl) ?_
      refine lv_iconst (v := 2) hx hb dL_law_515 rfl ?_
      refine lv_iadd hx hb dL_law_516 ?_
      refine va_sld hx hb hXs hbl hbA hS hv2 dL_law_517 ?_
      refine lv_if_eq (tgt := 525) hx hb dL_law_518 (by decide) (fun z => absurd z f0) (fun _ => ?_)
      refine lv_iconst (v := 1) hx hb dL_law_521 rfl ?_
      refine lv_goto (tgt := 526) hx hb dL_law_522 (by decide) ?_
      refine lv_aload_n hx hb dL_law_526 rfl (lv_at hl 5 rfl) ?_
      refine lv_iload hx hb dL_law_527 (lv_at hl 1 rfl) ?_
      refine lv_iconst (v := 3) hx hb dL_law_529 rfl ?_
      refine lv_iadd hx hb dL_law_530 ?_
      refine va_sld hx hb hXs hbl hbA hS hv3 dL_law_531 ?_
      refine lv_if_eq (tgt := 539) hx hb dL_law_532 (by decide) (fun z => absurd z f2) (fun _ => ?_)
      refine lv_iconst (v := 1) hx hb dL_law_535 rfl ?_
      refine lv_goto (tgt := 540) hx hb dL_law_536 (by decide) ?_
      refine hy_ret (hy_rV0 (T := (Mc1, Mr1, Mo1)) (v := some (.int r)) (T2 := (Mc1, N, Mo1)) (o := 30) (As := [.int (xs (i + 1).toNatClampNeg), .int 1, .int 1]) (rest := []) (n := 0) hx hb hml hown hts hX hP hS hl (c_Rf_mark Mc1 Mo1 (xs (i + 1).toNatClampNeg) true true Mr1 (res := (r, N)) e2) m_Rf_mark q_1344 (hy_recv hX hP 30 10 (by decide) rfl rfl) rfl rfl (Nat.le_of_ble_eq_true rfl) dL_law_540 ⟨Nat.le_of_ble_eq_true rfl, Nat.le_of_ble_eq_true rfl⟩ hroom) hS (fun H locs hP hS => ?_)
      refine lv_istore (lv' := [(6, .int r), (5, .int k), (4, .int i), (3, .ref (adr G 51)), (2, .ref (adr G 30)), (1, .ref (adr G 0)), (0, .ref b)]) hx hb dL_law_543 hl (by decide) rfl (fun ls hl => ?_)
      refine lv_aload_n hx hb dL_law_545 rfl (lv_at hl 4 rfl) ?_
      refine hy_ret (hy_rV0 (T := (Mc1, N, Mo1)) (v := some (.int k)) (T2 := (Mc1, N, Mo1)) (o := 30) (As := []) (rest := []) (n := 0) hx hb hml hown hts hX hP hS hl (c_Rf_thrown Mc1 Mo1 N (res := k) e3) m_Rf_thrown q_1302 (hy_recv hX hP 30 10 (by decide) rfl rfl) rfl rfl (Nat.le_of_ble_eq_true rfl) dL_law_546 ⟨Nat.le_of_ble_eq_true rfl, Nat.le_of_ble_eq_true rfl⟩ hroom) hS (fun H locs hP hS => ?_)
      refine lv_iload hx hb dL_law_549 (lv_at hl 1 rfl) ?_
      refine lv_icmp_eq (tgt := 556) hx hb dL_law_551 (by decide) (fun _ => ?_) (fun z => absurd rfl z)
      refine lv_iload hx hb dL_law_556 (lv_at hl 1 rfl) ?_
      refine lv_if_ne (tgt := 573) hx hb dL_law_558 (by decide) (fun _ => ?_) (fun ck => ?_)
      · refine lv_goto (tgt := 1999) hx hb dL_law_573 (by decide) ?_
        exact next _ H locs _ e5 hP hS (lv_sub hl [2, 3, 4, 5, 6] rfl)
      · refine lv_aload_n hx hb dL_law_561 rfl (lv_at hl 3 rfl) ?_
        refine lv_iconst (v := 0) hx hb dL_law_562 rfl ?_
        refine hy_lald (T := (Mc1, N, Mo1)) hx hb hX hP rfl dL_law_563 ?_
        refine lv_iload hx hb dL_law_564 (lv_at hl 0 rfl) ?_
        refine lv_i2l hx hb dL_law_566 rfl ?_
        refine W.lcmp hx hb dL_law_567 ?_
        refine lv_if_eq (tgt := 573) hx hb dL_law_568 (by decide) (fun _ => ?_) (fun z => absurd (lgs (e4 ck)) z)
        refine lv_goto (tgt := 1999) hx hb dL_law_573 (by decide) ?_
        exact next _ H locs _ e5 hP hS (lv_sub hl [2, 3, 4, 5, 6] rfl)
set_option maxHeartbeats 1000000 in
set_option maxRecDepth 100000 in
theorem lc_5 {p : Program} {l : Launch} {e : Env} {s : State} {m : MethodId} {below : List Frame} {meth : Method} {c : Code} {G : hyG} {T : hyT} {H : Heap} {locs : List Loc} {cells slots b L : Nat} {xs : Nat → Int32} {i : Int32} {Q : State → Prop} {ls : Array Slot} (CX : lcx p l s m c G b L xs) (hv : liv i L) (hI : INV T) (hP : va_P G.1 vwCl (wld G T) H) (hS : va_S (hyA G) s.heap H locs) (hl : lv_has ls 9 (lvb b G i)) (hroom : cells + 1 ≤ room_1.cells ∧ slots + 6 * 1 ≤ room_1.slots) (next : lnx p l e s m below meth c G b i cells slots Q) : W p l e room_1 s m #[Value.ref b] below meth c H locs cells slots Q (F0 m 576 ls []) := by
  obtain ⟨hx, hb, hml, hown, hts, hX, hN, hXs, hbl, hbA, hlt⟩ := CX
  obtain ⟨hv1, hv2, hv3, hv4, hv5⟩ := hv
  obtain ⟨T0a, T0b, T0c⟩ := T
  have hl : lv_has ls 9 [(4, .int i), (3, .ref (adr G 51)), (2, .ref (adr G 30)), (1, .ref (adr G 0)), (0, .ref b)] := hl
  refine lv_aload_n hx hb dL_law_576 rfl (lv_at hl 3 rfl) ?_
  refine lv_aload_n hx hb dL_law_577 rfl (lv_at hl 4 rfl) ?_
  refine lv_iload hx hb dL_law_578 (lv_at hl 0 rfl) ?_
  refine lv_iconst (v := 1) hx hb dL_law_580 rfl ?_
  refine lv_iadd hx hb dL_law_581 ?_
  refine va_sld hx hb hXs hbl hbA hS hv1 dL_law_582 ?_
  refine lv_aload_n hx hb dL_law_583 rfl (lv_at hl 4 rfl) ?_
  refine lv_iload hx hb dL_law_584 (lv_at hl 0 rfl) ?_
  refine lv_iconst (v := 2) hx hb dL_law_586 rfl ?_
  refine lv_iadd hx hb dL_law_587 ?_
  refine va_sld hx hb hXs hbl hbA hS hv2 dL_law_588 ?_
  refine lv_aload_n hx hb dL_law_589 rfl (lv_at hl 1 rfl) ?_
  obtain ⟨k, ⟨Mc1, Mr1, Mo1⟩, r, N, e1, e2, e3, e4, e5⟩ := s_setBars hI (xs (i + 1).toNatClampNeg) (xs (i + 2).toNatClampNeg)
  dsimp only at e1 e2 e3 e4 e5
  refine hy_ret (hy_rSW2 (T := (T0a, T0b, T0c)) (v := some (.int k)) (T2 := (Mc1, Mr1, Mo1)) (As := [.ref (adr G 0), .int (xs (i + 1).toNatClampNeg), .int (xs (i + 2).toNatClampNeg), .ref (adr G 51)]) (rest := []) (n := 1) hx hb hml hown hts hX hN hP hS hl (c_La_setBars hlt (xs (i + 1).toNatClampNeg) (xs (i + 2).toNatClampNeg) (T0a, T0b, T0c) e1) m_La_setBars q_980 rfl rfl (Nat.le_of_ble_eq_true rfl) dL_law_590 ⟨Nat.le_of_ble_eq_true rfl, Nat.le_of_ble_eq_true rfl⟩ hroom) hS (fun H locs hP hS => ?_)
  refine lv_istore (lv' := [(5, .int k), (4, .int i), (3, .ref (adr G 51)), (2, .ref (adr G 30)), (1, .ref (adr G 0)), (0, .ref b)]) hx hb dL_law_593 hl (by decide) rfl (fun ls hl => ?_)
  refine lv_aload_n hx hb dL_law_595 rfl (lv_at hl 3 rfl) ?_
  refine lv_aload_n hx hb dL_law_596 rfl (lv_at hl 5 rfl) ?_
  refine lv_iload hx hb dL_law_597 (lv_at hl 1 rfl) ?_
  refine lv_iconst (v := 1) hx hb dL_law_599 rfl ?_
  refine lv_iadd hx hb dL_law_600 ?_
  refine va_sld hx hb hXs hbl hbA hS hv1 dL_law_601 ?_
  refine lv_aload_n hx hb dL_law_602 rfl (lv_at hl 5 rfl) ?_
  refine lv_iload hx hb dL_law_603 (lv_at hl 1 rfl) ?_
  refine lv_iconst (v := 2) hx hb dL_law_605 rfl ?_
  refine lv_iadd hx hb dL_law_606 ?_
  refine va_sld hx hb hXs hbl hbA hS hv2 dL_law_607 ?_
  refine hy_ret (hy_rV0 (T := (Mc1, Mr1, Mo1)) (v := some (.int r)) (T2 := (Mc1, N, Mo1)) (o := 30) (As := [.int (xs (i + 1).toNatClampNeg), .int (xs (i + 2).toNatClampNeg)]) (rest := []) (n := 0) hx hb hml hown hts hX hP hS hl (c_Rf_setBars Mc1 Mo1 (xs (i + 1).toNatClampNeg) (xs (i + 2).toNatClampNeg) Mr1 (res := (r, N)) (Option.some.inj e2)) m_Rf_setBars q_1348 (hy_recv hX hP 30 10 (by decide) rfl rfl) rfl rfl (Nat.le_of_ble_eq_true rfl) dL_law_608 ⟨Nat.le_of_ble_eq_true rfl, Nat.le_of_ble_eq_true rfl⟩ hroom) hS (fun H locs hP hS => ?_)
  refine lv_istore (lv' := [(6, .int r), (5, .int k), (4, .int i), (3, .ref (adr G 51)), (2, .ref (adr G 30)), (1, .ref (adr G 0)), (0, .ref b)]) hx hb dL_law_611 hl (by decide) rfl (fun ls hl => ?_)
  refine lv_aload_n hx hb dL_law_613 rfl (lv_at hl 4 rfl) ?_
  refine hy_ret (hy_rV0 (T := (Mc1, N, Mo1)) (v := some (.int k)) (T2 := (Mc1, N, Mo1)) (o := 30) (As := []) (rest := []) (n := 0) hx hb hml hown hts hX hP hS hl (c_Rf_thrown Mc1 Mo1 N (res := k) e3) m_Rf_thrown q_1302 (hy_recv hX hP 30 10 (by decide) rfl rfl) rfl rfl (Nat.le_of_ble_eq_true rfl) dL_law_614 ⟨Nat.le_of_ble_eq_true rfl, Nat.le_of_ble_eq_true rfl⟩ hroom) hS (fun H locs hP hS => ?_)
  refine lv_iload hx hb dL_law_617 (lv_at hl 1 rfl) ?_
  refine lv_icmp_eq (tgt := 624) hx hb dL_law_619 (by decide) (fun _ => ?_) (fun z => absurd rfl z)
  refine lv_iload hx hb dL_law_624 (lv_at hl 1 rfl) ?_
  refine lv_if_ne (tgt := 641) hx hb dL_law_626 (by decide) (fun _ => ?_) (fun ck => ?_)
  · refine lv_goto (tgt := 1999) hx hb dL_law_641 (by decide) ?_
    exact next _ H locs _ e5 hP hS (lv_sub hl [2, 3, 4, 5, 6] rfl)
  · refine lv_aload_n hx hb dL_law_629 rfl (lv_at hl 3 rfl) ?_
    refine lv_iconst (v := 0) hx hb dL_law_630 rfl ?_
    refine hy_lald (T := (Mc1, N, Mo1)) hx hb hX hP rfl dL_law_631 ?_
    refine lv_iload hx hb dL_law_632 (lv_at hl 0 rfl) ?_
    refine lv_i2l hx hb dL_law_634 rfl ?_
    refine W.lcmp hx hb dL_law_635 ?_
    refine lv_if_eq (tgt := 641) hx hb dL_law_636 (by decide) (fun _ => ?_) (fun z => absurd (lgs (e4 ck)) z)
    refine lv_goto (tgt := 1999) hx hb dL_law_641 (by decide) ?_
    exact next _ H locs _ e5 hP hS (lv_sub hl [2, 3, 4, 5, 6] rfl)
set_option maxHeartbeats 1000000 in
set_option maxRecDepth 100000 in
theorem lc_6 {p : Program} {l : Launch} {e : Env} {s : State} {m : MethodId} {below : List Frame} {meth : Method} {c : Code} {G : hyG} {T : hyT} {H : Heap} {locs : List Loc} {cells slots b L : Nat} {xs : Nat → Int32} {i : Int32} {Q : State → Prop} {ls : Array Slot} (CX : lcx p l s m c G b L xs) (hv : liv i L) (hI : INV T) (hP : va_P G.1 vwCl (wld G T) H) (hS : va_S (hyA G) s.heap H locs) (hl : lv_has ls 9 (lvb b G i)) (hroom : cells + 1 ≤ room_1.cells ∧ slots + 6 * 1 ≤ room_1.slots) (next : lnx p l e s m below meth c G b i cells slots Q) : W p l e room_1 s m #[Value.ref b] below meth c H locs cells slots Q (F0 m 644 ls []) := by
  obtain ⟨hx, hb, hml, hown, hts, hX, hN, hXs, hbl, hbA, hlt⟩ := CX
  obtain ⟨hv1, hv2, hv3, hv4, hv5⟩ := hv
  obtain ⟨T0a, T0b, T0c⟩ := T
  have hl : lv_has ls 9 [(4, .int i), (3, .ref (adr G 51)), (2, .ref (adr G 30)), (1, .ref (adr G 0)), (0, .ref b)] := hl
  refine lv_aload_n hx hb dL_law_644 rfl (lv_at hl 3 rfl) ?_
  refine lv_aload_n hx hb dL_law_645 rfl (lv_at hl 4 rfl) ?_
  refine lv_iload hx hb dL_law_646 (lv_at hl 0 rfl) ?_
  refine lv_iconst (v := 1) hx hb dL_law_648 rfl ?_
  refine lv_iadd hx hb dL_law_649 ?_
  refine va_sld hx hb hXs hbl hbA hS hv1 dL_law_650 ?_
  refine lv_aload_n hx hb dL_law_651 rfl (lv_at hl 4 rfl) ?_
  refine lv_iload hx hb dL_law_652 (lv_at hl 0 rfl) ?_
  refine lv_iconst (v := 2) hx hb dL_law_654 rfl ?_
  refine lv_iadd hx hb dL_law_655 ?_
  refine va_sld hx hb hXs hbl hbA hS hv2 dL_law_656 ?_
  refine lv_aload_n hx hb dL_law_657 rfl (lv_at hl 4 rfl) ?_
  refine lv_iload hx hb dL_law_658 (lv_at hl 0 rfl) ?_
  refine lv_iconst (v := 3) hx hb dL_law_660 rfl ?_
  refine lv_iadd hx hb dL_law_661 ?_
  refine va_sld hx hb hXs hbl hbA hS hv3 dL_law_662 ?_
  refine lv_aload_n hx hb dL_law_663 rfl (lv_at hl 1 rfl) ?_
  obtain ⟨k, ⟨Mc1, Mr1, Mo1⟩, r, N, e1, e2, e3, e4, e5⟩ := s_repeat hI (xs (i + 1).toNatClampNeg) (xs (i + 2).toNatClampNeg) (xs (i + 3).toNatClampNeg)
  dsimp only at e1 e2 e3 e4 e5
  refine hy_ret (hy_rSW2 (T := (T0a, T0b, T0c)) (v := some (.int k)) (T2 := (Mc1, Mr1, Mo1)) (As := [.ref (adr G 0), .int (xs (i + 1).toNatClampNeg), .int (xs (i + 2).toNatClampNeg), .int (xs (i + 3).toNatClampNeg), .ref (adr G 51)]) (rest := []) (n := 1) hx hb hml hown hts hX hN hP hS hl (c_La_repeat hlt (xs (i + 1).toNatClampNeg) (xs (i + 2).toNatClampNeg) (xs (i + 3).toNatClampNeg) (T0a, T0b, T0c) e1) m_La_repeat q_987 rfl rfl (Nat.le_of_ble_eq_true rfl) dL_law_664 ⟨Nat.le_of_ble_eq_true rfl, Nat.le_of_ble_eq_true rfl⟩ hroom) hS (fun H locs hP hS => ?_)
  refine lv_istore (lv' := [(5, .int k), (4, .int i), (3, .ref (adr G 51)), (2, .ref (adr G 30)), (1, .ref (adr G 0)), (0, .ref b)]) hx hb dL_law_667 hl (by decide) rfl (fun ls hl => ?_)
  refine lv_aload_n hx hb dL_law_669 rfl (lv_at hl 3 rfl) ?_
  refine lv_aload_n hx hb dL_law_670 rfl (lv_at hl 5 rfl) ?_
  refine lv_iload hx hb dL_law_671 (lv_at hl 1 rfl) ?_
  refine lv_iconst (v := 1) hx hb dL_law_673 rfl ?_
  refine lv_iadd hx hb dL_law_674 ?_
  refine va_sld hx hb hXs hbl hbA hS hv1 dL_law_675 ?_
  refine lv_aload_n hx hb dL_law_676 rfl (lv_at hl 5 rfl) ?_
  refine lv_iload hx hb dL_law_677 (lv_at hl 1 rfl) ?_
  refine lv_iconst (v := 2) hx hb dL_law_679 rfl ?_
  refine lv_iadd hx hb dL_law_680 ?_
  refine va_sld hx hb hXs hbl hbA hS hv2 dL_law_681 ?_
  refine lv_aload_n hx hb dL_law_682 rfl (lv_at hl 5 rfl) ?_
  refine lv_iload hx hb dL_law_683 (lv_at hl 1 rfl) ?_
  refine lv_iconst (v := 3) hx hb dL_law_685 rfl ?_
  refine lv_iadd hx hb dL_law_686 ?_
  refine va_sld hx hb hXs hbl hbA hS hv3 dL_law_687 ?_
  refine hy_ret (hy_rV0 (T := (Mc1, Mr1, Mo1)) (v := some (.int r)) (T2 := (Mc1, N, Mo1)) (o := 30) (As := [.int (xs (i + 1).toNatClampNeg), .int (xs (i + 2).toNatClampNeg), .int (xs (i + 3).toNatClampNeg)]) (rest := []) (n := 0) hx hb hml hown hts hX hP hS hl (c_Rf_repeat Mc1 Mo1 (xs (i + 1).toNatClampNeg) (xs (i + 2).toNatClampNeg) (xs (i + 3).toNatClampNeg) Mr1 (res := (r, N)) e2) m_Rf_repeat q_1352 (hy_recv hX hP 30 10 (by decide) rfl rfl) rfl rfl (Nat.le_of_ble_eq_true rfl) dL_law_688 ⟨Nat.le_of_ble_eq_true rfl, Nat.le_of_ble_eq_true rfl⟩ hroom) hS (fun H locs hP hS => ?_)
  refine lv_istore (lv' := [(6, .int r), (5, .int k), (4, .int i), (3, .ref (adr G 51)), (2, .ref (adr G 30)), (1, .ref (adr G 0)), (0, .ref b)]) hx hb dL_law_691 hl (by decide) rfl (fun ls hl => ?_)
  refine lv_aload_n hx hb dL_law_693 rfl (lv_at hl 4 rfl) ?_
  refine hy_ret (hy_rV0 (T := (Mc1, N, Mo1)) (v := some (.int k)) (T2 := (Mc1, N, Mo1)) (o := 30) (As := []) (rest := []) (n := 0) hx hb hml hown hts hX hP hS hl (c_Rf_thrown Mc1 Mo1 N (res := k) e3) m_Rf_thrown q_1302 (hy_recv hX hP 30 10 (by decide) rfl rfl) rfl rfl (Nat.le_of_ble_eq_true rfl) dL_law_694 ⟨Nat.le_of_ble_eq_true rfl, Nat.le_of_ble_eq_true rfl⟩ hroom) hS (fun H locs hP hS => ?_)
  refine lv_iload hx hb dL_law_697 (lv_at hl 1 rfl) ?_
  refine lv_icmp_eq (tgt := 704) hx hb dL_law_699 (by decide) (fun _ => ?_) (fun z => absurd rfl z)
  refine lv_iload hx hb dL_law_704 (lv_at hl 1 rfl) ?_
  refine lv_if_ne (tgt := 721) hx hb dL_law_706 (by decide) (fun _ => ?_) (fun ck => ?_)
  · refine lv_goto (tgt := 1999) hx hb dL_law_721 (by decide) ?_
    exact next _ H locs _ e5 hP hS (lv_sub hl [2, 3, 4, 5, 6] rfl)
  · refine lv_aload_n hx hb dL_law_709 rfl (lv_at hl 3 rfl) ?_
    refine lv_iconst (v := 0) hx hb dL_law_710 rfl ?_
    refine hy_lald (T := (Mc1, N, Mo1)) hx hb hX hP rfl dL_law_711 ?_
    refine lv_iload hx hb dL_law_712 (lv_at hl 0 rfl) ?_
    refine lv_i2l hx hb dL_law_714 rfl ?_
    refine W.lcmp hx hb dL_law_715 ?_
    refine lv_if_eq (tgt := 721) hx hb dL_law_716 (by decide) (fun _ => ?_) (fun z => absurd (lgs (e4 ck)) z)
    refine lv_goto (tgt := 1999) hx hb dL_law_721 (by decide) ?_
    exact next _ H locs _ e5 hP hS (lv_sub hl [2, 3, 4, 5, 6] rfl)
set_option maxHeartbeats 1000000 in
set_option maxRecDepth 100000 in
theorem lc_7 {p : Program} {l : Launch} {e : Env} {s : State} {m : MethodId} {below : List Frame} {meth : Method} {c : Code} {G : hyG} {T : hyT} {H : Heap} {locs : List Loc} {cells slots b L : Nat} {xs : Nat → Int32} {i : Int32} {Q : State → Prop} {ls : Array Slot} (CX : lcx p l s m c G b L xs) (hv : liv i L) (hI : INV T) (hP : va_P G.1 vwCl (wld G T) H) (hS : va_S (hyA G) s.heap H locs) (hl : lv_has ls 9 (lvb b G i)) (hroom : cells + 1 ≤ room_1.cells ∧ slots + 6 * 1 ≤ room_1.slots) (next : lnx p l e s m below meth c G b i cells slots Q) : W p l e room_1 s m #[Value.ref b] below meth c H locs cells slots Q (F0 m 724 ls []) := by
  obtain ⟨hx, hb, hml, hown, hts, hX, hN, hXs, hbl, hbA, hlt⟩ := CX
  obtain ⟨hv1, hv2, hv3, hv4, hv5⟩ := hv
  obtain ⟨T0a, T0b, T0c⟩ := T
  have hl : lv_has ls 9 [(4, .int i), (3, .ref (adr G 51)), (2, .ref (adr G 30)), (1, .ref (adr G 0)), (0, .ref b)] := hl
  refine lv_aload_n hx hb dL_law_724 rfl (lv_at hl 3 rfl) ?_
  obtain ⟨v, M1, N, e1, e2, e5⟩ := s_clearRepeats hI
  dsimp only at e1 e2 e5
  refine hy_ret (hy_rV0 (T := (T0a, T0b, T0c)) (v := some (.int v)) (T2 := (M1, T0b, T0c)) (o := 0) (As := []) (rest := []) (n := 0) hx hb hml hown hts hX hP hS hl (c_Hp_clearRepeats T0b T0c  T0a (res := (v, M1)) e1) m_Hp_clearRepeats q_385 (hy_recv hX hP 0 9 (by decide) rfl rfl) rfl rfl (Nat.le_of_ble_eq_true rfl) dL_law_725 ⟨Nat.le_of_ble_eq_true rfl, Nat.le_of_ble_eq_true rfl⟩ ⟨Nat.le_trans (Nat.le_succ _) hroom.1, Nat.le_trans (Nat.le_add_right _ 6) hroom.2⟩) hS (fun H locs hP hS => ?_)
  refine lv_aload_n hx hb dL_law_728 rfl (lv_at hl 2 rfl) ?_
  refine hy_ret (hy_rV0 (T := (M1, T0b, T0c)) (v := some (.int v)) (T2 := (M1, N, T0c)) (o := 30) (As := []) (rest := [.int v]) (n := 0) hx hb hml hown hts hX hP hS hl (c_Rf_clearRepeats M1 T0c  T0b (res := (v, N)) e2) m_Rf_clearRepeats q_1368 (hy_recv hX hP 30 10 (by decide) rfl rfl) rfl rfl (Nat.le_of_ble_eq_true rfl) dL_law_729 ⟨Nat.le_of_ble_eq_true rfl, Nat.le_of_ble_eq_true rfl⟩ ⟨Nat.le_trans (Nat.le_succ _) hroom.1, Nat.le_trans (Nat.le_add_right _ 6) hroom.2⟩) hS (fun H locs hP hS => ?_)
  refine lv_icmp_eq (tgt := 1999) hx hb dL_law_732 (by decide) (fun _ => ?_) (fun z => absurd rfl z)
  refine W.widen (k := cells + 1) (n := slots + 6 * 1) (by omega) (by omega) ?_
  exact next _ H locs _ e5 hP hS (lv_sub hl [0, 1, 2, 3, 4] rfl)
set_option maxHeartbeats 1000000 in
set_option maxRecDepth 100000 in
theorem lc_8 {p : Program} {l : Launch} {e : Env} {s : State} {m : MethodId} {below : List Frame} {meth : Method} {c : Code} {G : hyG} {T : hyT} {H : Heap} {locs : List Loc} {cells slots b L : Nat} {xs : Nat → Int32} {i : Int32} {Q : State → Prop} {ls : Array Slot} (CX : lcx p l s m c G b L xs) (hv : liv i L) (hI : INV T) (hP : va_P G.1 vwCl (wld G T) H) (hS : va_S (hyA G) s.heap H locs) (hl : lv_has ls 9 (lvb b G i)) (hroom : cells + 1 ≤ room_1.cells ∧ slots + 6 * 1 ≤ room_1.slots) (next : lnx p l e s m below meth c G b i cells slots Q) : W p l e room_1 s m #[Value.ref b] below meth c H locs cells slots Q (F0 m 737 ls []) := by
  obtain ⟨hx, hb, hml, hown, hts, hX, hN, hXs, hbl, hbA, hlt⟩ := CX
  obtain ⟨hv1, hv2, hv3, hv4, hv5⟩ := hv
  obtain ⟨T0a, T0b, T0c⟩ := T
  have hl : lv_has ls 9 [(4, .int i), (3, .ref (adr G 51)), (2, .ref (adr G 30)), (1, .ref (adr G 0)), (0, .ref b)] := hl
  refine lv_aload_n hx hb dL_law_737 rfl (lv_at hl 3 rfl) ?_
  refine lv_aload_n hx hb dL_law_738 rfl (lv_at hl 4 rfl) ?_
  refine lv_iload hx hb dL_law_739 (lv_at hl 0 rfl) ?_
  refine lv_iconst (v := 1) hx hb dL_law_741 rfl ?_
  refine lv_iadd hx hb dL_law_742 ?_
  refine va_sld hx hb hXs hbl hbA hS hv1 dL_law_743 ?_
  refine lv_aload_n hx hb dL_law_744 rfl (lv_at hl 1 rfl) ?_
  obtain ⟨k, ⟨Mc1, Mr1, Mo1⟩, r, N, e1, e2, e3, e4, e5⟩ := s_transpose hI (xs (i + 1).toNatClampNeg)
  dsimp only at e1 e2 e3 e4 e5
  refine hy_ret (hy_rSW2 (T := (T0a, T0b, T0c)) (v := some (.int k)) (T2 := (Mc1, Mr1, Mo1)) (As := [.ref (adr G 0), .int (xs (i + 1).toNatClampNeg), .ref (adr G 51)]) (rest := []) (n := 1) hx hb hml hown hts hX hN hP hS hl (c_La_transpose hlt (xs (i + 1).toNatClampNeg) (T0a, T0b, T0c) e1) m_La_transpose q_1001 rfl rfl (Nat.le_of_ble_eq_true rfl) dL_law_745 ⟨Nat.le_of_ble_eq_true rfl, Nat.le_of_ble_eq_true rfl⟩ hroom) hS (fun H locs hP hS => ?_)
  refine lv_istore (lv' := [(5, .int k), (4, .int i), (3, .ref (adr G 51)), (2, .ref (adr G 30)), (1, .ref (adr G 0)), (0, .ref b)]) hx hb dL_law_748 hl (by decide) rfl (fun ls hl => ?_)
  refine lv_aload_n hx hb dL_law_750 rfl (lv_at hl 3 rfl) ?_
  refine lv_aload_n hx hb dL_law_751 rfl (lv_at hl 5 rfl) ?_
  refine lv_iload hx hb dL_law_752 (lv_at hl 1 rfl) ?_
  refine lv_iconst (v := 1) hx hb dL_law_754 rfl ?_
  refine lv_iadd hx hb dL_law_755 ?_
  refine va_sld hx hb hXs hbl hbA hS hv1 dL_law_756 ?_
  refine hy_ret (hy_rV0 (T := (Mc1, Mr1, Mo1)) (v := some (.int r)) (T2 := (Mc1, N, Mo1)) (o := 30) (As := [.int (xs (i + 1).toNatClampNeg)]) (rest := []) (n := 0) hx hb hml hown hts hX hP hS hl (c_Rf_transpose Mc1 Mo1 (xs (i + 1).toNatClampNeg) Mr1 (res := (r, N)) e2) m_Rf_transpose q_1372 (hy_recv hX hP 30 10 (by decide) rfl rfl) rfl rfl (Nat.le_of_ble_eq_true rfl) dL_law_757 ⟨Nat.le_of_ble_eq_true rfl, Nat.le_of_ble_eq_true rfl⟩ hroom) hS (fun H locs hP hS => ?_)
  refine lv_istore (lv' := [(6, .int r), (5, .int k), (4, .int i), (3, .ref (adr G 51)), (2, .ref (adr G 30)), (1, .ref (adr G 0)), (0, .ref b)]) hx hb dL_law_760 hl (by decide) rfl (fun ls hl => ?_)
  refine lv_aload_n hx hb dL_law_762 rfl (lv_at hl 4 rfl) ?_
  refine hy_ret (hy_rV0 (T := (Mc1, N, Mo1)) (v := some (.int k)) (T2 := (Mc1, N, Mo1)) (o := 30) (As := []) (rest := []) (n := 0) hx hb hml hown hts hX hP hS hl (c_Rf_thrown Mc1 Mo1 N (res := k) e3) m_Rf_thrown q_1302 (hy_recv hX hP 30 10 (by decide) rfl rfl) rfl rfl (Nat.le_of_ble_eq_true rfl) dL_law_763 ⟨Nat.le_of_ble_eq_true rfl, Nat.le_of_ble_eq_true rfl⟩ hroom) hS (fun H locs hP hS => ?_)
  refine lv_iload hx hb dL_law_766 (lv_at hl 1 rfl) ?_
  refine lv_icmp_eq (tgt := 773) hx hb dL_law_768 (by decide) (fun _ => ?_) (fun z => absurd rfl z)
  refine lv_iload hx hb dL_law_773 (lv_at hl 1 rfl) ?_
  refine lv_if_ne (tgt := 790) hx hb dL_law_775 (by decide) (fun _ => ?_) (fun ck => ?_)
  · refine lv_goto (tgt := 1999) hx hb dL_law_790 (by decide) ?_
    exact next _ H locs _ e5 hP hS (lv_sub hl [2, 3, 4, 5, 6] rfl)
  · refine lv_aload_n hx hb dL_law_778 rfl (lv_at hl 3 rfl) ?_
    refine lv_iconst (v := 0) hx hb dL_law_779 rfl ?_
    refine hy_lald (T := (Mc1, N, Mo1)) hx hb hX hP rfl dL_law_780 ?_
    refine lv_iload hx hb dL_law_781 (lv_at hl 0 rfl) ?_
    refine lv_i2l hx hb dL_law_783 rfl ?_
    refine W.lcmp hx hb dL_law_784 ?_
    refine lv_if_eq (tgt := 790) hx hb dL_law_785 (by decide) (fun _ => ?_) (fun z => absurd (lgs (e4 ck)) z)
    refine lv_goto (tgt := 1999) hx hb dL_law_790 (by decide) ?_
    exact next _ H locs _ e5 hP hS (lv_sub hl [2, 3, 4, 5, 6] rfl)
set_option maxHeartbeats 1000000 in
set_option maxRecDepth 100000 in
theorem lc_9 {p : Program} {l : Launch} {e : Env} {s : State} {m : MethodId} {below : List Frame} {meth : Method} {c : Code} {G : hyG} {T : hyT} {H : Heap} {locs : List Loc} {cells slots b L : Nat} {xs : Nat → Int32} {i : Int32} {Q : State → Prop} {ls : Array Slot} (CX : lcx p l s m c G b L xs) (hv : liv i L) (hI : INV T) (hP : va_P G.1 vwCl (wld G T) H) (hS : va_S (hyA G) s.heap H locs) (hl : lv_has ls 9 (lvb b G i)) (hroom : cells + 1 ≤ room_1.cells ∧ slots + 6 * 1 ≤ room_1.slots) (next : lnx p l e s m below meth c G b i cells slots Q) : W p l e room_1 s m #[Value.ref b] below meth c H locs cells slots Q (F0 m 793 ls []) := by
  obtain ⟨hx, hb, hml, hown, hts, hX, hN, hXs, hbl, hbA, hlt⟩ := CX
  obtain ⟨hv1, hv2, hv3, hv4, hv5⟩ := hv
  obtain ⟨T0a, T0b, T0c⟩ := T
  have hl : lv_has ls 9 [(4, .int i), (3, .ref (adr G 51)), (2, .ref (adr G 30)), (1, .ref (adr G 0)), (0, .ref b)] := hl
  refine lv_aload_n hx hb dL_law_793 rfl (lv_at hl 3 rfl) ?_
  refine lv_aload_n hx hb dL_law_794 rfl (lv_at hl 4 rfl) ?_
  refine lv_iload hx hb dL_law_795 (lv_at hl 0 rfl) ?_
  refine lv_iconst (v := 1) hx hb dL_law_797 rfl ?_
  refine lv_iadd hx hb dL_law_798 ?_
  refine va_sld hx hb hXs hbl hbA hS hv1 dL_law_799 ?_
  refine lv_aload_n hx hb dL_law_800 rfl (lv_at hl 1 rfl) ?_
  obtain ⟨k, ⟨Mc1, Mr1, Mo1⟩, r, N, e1, e2, e3, e4, e5⟩ := s_setWidth hI (xs (i + 1).toNatClampNeg)
  dsimp only at e1 e2 e3 e4 e5
  refine hy_ret (hy_rSW2 (T := (T0a, T0b, T0c)) (v := some (.int k)) (T2 := (Mc1, Mr1, Mo1)) (As := [.ref (adr G 0), .int (xs (i + 1).toNatClampNeg), .ref (adr G 51)]) (rest := []) (n := 1) hx hb hml hown hts hX hN hP hS hl (c_La_setWidth hlt (xs (i + 1).toNatClampNeg) (T0a, T0b, T0c) e1) m_La_setWidth q_1017 rfl rfl (Nat.le_of_ble_eq_true rfl) dL_law_801 ⟨Nat.le_of_ble_eq_true rfl, Nat.le_of_ble_eq_true rfl⟩ hroom) hS (fun H locs hP hS => ?_)
  refine lv_istore (lv' := [(5, .int k), (4, .int i), (3, .ref (adr G 51)), (2, .ref (adr G 30)), (1, .ref (adr G 0)), (0, .ref b)]) hx hb dL_law_804 hl (by decide) rfl (fun ls hl => ?_)
  refine lv_aload_n hx hb dL_law_806 rfl (lv_at hl 3 rfl) ?_
  refine lv_aload_n hx hb dL_law_807 rfl (lv_at hl 5 rfl) ?_
  refine lv_iload hx hb dL_law_808 (lv_at hl 1 rfl) ?_
  refine lv_iconst (v := 1) hx hb dL_law_810 rfl ?_
  refine lv_iadd hx hb dL_law_811 ?_
  refine va_sld hx hb hXs hbl hbA hS hv1 dL_law_812 ?_
  refine hy_ret (hy_rV0 (T := (Mc1, Mr1, Mo1)) (v := some (.int r)) (T2 := (Mc1, N, Mo1)) (o := 30) (As := [.int (xs (i + 1).toNatClampNeg)]) (rest := []) (n := 0) hx hb hml hown hts hX hP hS hl (c_Rf_setWidth Mc1 Mo1 (xs (i + 1).toNatClampNeg) Mr1 (res := (r, N)) e2) m_Rf_setWidth q_1380 (hy_recv hX hP 30 10 (by decide) rfl rfl) rfl rfl (Nat.le_of_ble_eq_true rfl) dL_law_813 ⟨Nat.le_of_ble_eq_true rfl, Nat.le_of_ble_eq_true rfl⟩ hroom) hS (fun H locs hP hS => ?_)
  refine lv_istore (lv' := [(6, .int r), (5, .int k), (4, .int i), (3, .ref (adr G 51)), (2, .ref (adr G 30)), (1, .ref (adr G 0)), (0, .ref b)]) hx hb dL_law_816 hl (by decide) rfl (fun ls hl => ?_)
  refine lv_aload_n hx hb dL_law_818 rfl (lv_at hl 4 rfl) ?_
  refine hy_ret (hy_rV0 (T := (Mc1, N, Mo1)) (v := some (.int k)) (T2 := (Mc1, N, Mo1)) (o := 30) (As := []) (rest := []) (n := 0) hx hb hml hown hts hX hP hS hl (c_Rf_thrown Mc1 Mo1 N (res := k) e3) m_Rf_thrown q_1302 (hy_recv hX hP 30 10 (by decide) rfl rfl) rfl rfl (Nat.le_of_ble_eq_true rfl) dL_law_819 ⟨Nat.le_of_ble_eq_true rfl, Nat.le_of_ble_eq_true rfl⟩ hroom) hS (fun H locs hP hS => ?_)
  refine lv_iload hx hb dL_law_822 (lv_at hl 1 rfl) ?_
  refine lv_icmp_eq (tgt := 829) hx hb dL_law_824 (by decide) (fun _ => ?_) (fun z => absurd rfl z)
  refine lv_iload hx hb dL_law_829 (lv_at hl 1 rfl) ?_
  refine lv_if_ne (tgt := 846) hx hb dL_law_831 (by decide) (fun _ => ?_) (fun ck => ?_)
  · refine lv_goto (tgt := 1999) hx hb dL_law_846 (by decide) ?_
    exact next _ H locs _ e5 hP hS (lv_sub hl [2, 3, 4, 5, 6] rfl)
  · refine lv_aload_n hx hb dL_law_834 rfl (lv_at hl 3 rfl) ?_
    refine lv_iconst (v := 0) hx hb dL_law_835 rfl ?_
    refine hy_lald (T := (Mc1, N, Mo1)) hx hb hX hP rfl dL_law_836 ?_
    refine lv_iload hx hb dL_law_837 (lv_at hl 0 rfl) ?_
    refine lv_i2l hx hb dL_law_839 rfl ?_
    refine W.lcmp hx hb dL_law_840 ?_
    refine lv_if_eq (tgt := 846) hx hb dL_law_841 (by decide) (fun _ => ?_) (fun z => absurd (lgs (e4 ck)) z)
    refine lv_goto (tgt := 1999) hx hb dL_law_846 (by decide) ?_
    exact next _ H locs _ e5 hP hS (lv_sub hl [2, 3, 4, 5, 6] rfl)
set_option maxHeartbeats 1000000 in
set_option maxRecDepth 100000 in
theorem lc_10 {p : Program} {l : Launch} {e : Env} {s : State} {m : MethodId} {below : List Frame} {meth : Method} {c : Code} {G : hyG} {T : hyT} {H : Heap} {locs : List Loc} {cells slots b L : Nat} {xs : Nat → Int32} {i : Int32} {Q : State → Prop} {ls : Array Slot} (CX : lcx p l s m c G b L xs) (hv : liv i L) (hI : INV T) (hP : va_P G.1 vwCl (wld G T) H) (hS : va_S (hyA G) s.heap H locs) (hl : lv_has ls 9 (lvb b G i)) (hroom : cells + 1 ≤ room_1.cells ∧ slots + 6 * 1 ≤ room_1.slots) (next : lnx p l e s m below meth c G b i cells slots Q) : W p l e room_1 s m #[Value.ref b] below meth c H locs cells slots Q (F0 m 849 ls []) := by
  obtain ⟨hx, hb, hml, hown, hts, hX, hN, hXs, hbl, hbA, hlt⟩ := CX
  obtain ⟨hv1, hv2, hv3, hv4, hv5⟩ := hv
  obtain ⟨T0a, T0b, T0c⟩ := T
  have hl : lv_has ls 9 [(4, .int i), (3, .ref (adr G 51)), (2, .ref (adr G 30)), (1, .ref (adr G 0)), (0, .ref b)] := hl
  refine lv_aload_n hx hb dL_law_849 rfl (lv_at hl 3 rfl) ?_
  refine lv_aload_n hx hb dL_law_850 rfl (lv_at hl 4 rfl) ?_
  refine lv_iload hx hb dL_law_851 (lv_at hl 0 rfl) ?_
  refine lv_iconst (v := 1) hx hb dL_law_853 rfl ?_
  refine lv_iadd hx hb dL_law_854 ?_
  refine va_sld hx hb hXs hbl hbA hS hv1 dL_law_855 ?_
  refine lv_aload_n hx hb dL_law_856 rfl (lv_at hl 1 rfl) ?_
  obtain ⟨k, ⟨Mc1, Mr1, Mo1⟩, r, N, e1, e2, e3, e4, e5⟩ := s_append hI (xs (i + 1).toNatClampNeg)
  dsimp only at e1 e2 e3 e4 e5
  refine hy_ret (hy_rSW2 (T := (T0a, T0b, T0c)) (v := some (.int k)) (T2 := (Mc1, Mr1, Mo1)) (As := [.ref (adr G 0), .int (xs (i + 1).toNatClampNeg), .ref (adr G 51)]) (rest := []) (n := 1) hx hb hml hown hts hX hN hP hS hl (c_La_append hlt (xs (i + 1).toNatClampNeg) (T0a, T0b, T0c) e1) m_La_append q_1024 rfl rfl (Nat.le_of_ble_eq_true rfl) dL_law_857 ⟨Nat.le_of_ble_eq_true rfl, Nat.le_of_ble_eq_true rfl⟩ hroom) hS (fun H locs hP hS => ?_)
  refine lv_istore (lv' := [(5, .int k), (4, .int i), (3, .ref (adr G 51)), (2, .ref (adr G 30)), (1, .ref (adr G 0)), (0, .ref b)]) hx hb dL_law_860 hl (by decide) rfl (fun ls hl => ?_)
  refine lv_aload_n hx hb dL_law_862 rfl (lv_at hl 3 rfl) ?_
  refine lv_aload_n hx hb dL_law_863 rfl (lv_at hl 5 rfl) ?_
  refine lv_iload hx hb dL_law_864 (lv_at hl 1 rfl) ?_
  refine lv_iconst (v := 1) hx hb dL_law_866 rfl ?_
  refine lv_iadd hx hb dL_law_867 ?_
  refine va_sld hx hb hXs hbl hbA hS hv1 dL_law_868 ?_
  refine hy_ret (hy_rV0 (T := (Mc1, Mr1, Mo1)) (v := some (.int r)) (T2 := (Mc1, N, Mo1)) (o := 30) (As := [.int (xs (i + 1).toNatClampNeg)]) (rest := []) (n := 0) hx hb hml hown hts hX hP hS hl (c_Rf_append Mc1 Mo1 (xs (i + 1).toNatClampNeg) Mr1 (res := (r, N)) e2) m_Rf_append q_1419 (hy_recv hX hP 30 10 (by decide) rfl rfl) rfl rfl (Nat.le_of_ble_eq_true rfl) dL_law_869 ⟨Nat.le_of_ble_eq_true rfl, Nat.le_of_ble_eq_true rfl⟩ hroom) hS (fun H locs hP hS => ?_)
  refine lv_istore (lv' := [(6, .int r), (5, .int k), (4, .int i), (3, .ref (adr G 51)), (2, .ref (adr G 30)), (1, .ref (adr G 0)), (0, .ref b)]) hx hb dL_law_872 hl (by decide) rfl (fun ls hl => ?_)
  refine lv_aload_n hx hb dL_law_874 rfl (lv_at hl 4 rfl) ?_
  refine hy_ret (hy_rV0 (T := (Mc1, N, Mo1)) (v := some (.int k)) (T2 := (Mc1, N, Mo1)) (o := 30) (As := []) (rest := []) (n := 0) hx hb hml hown hts hX hP hS hl (c_Rf_thrown Mc1 Mo1 N (res := k) e3) m_Rf_thrown q_1302 (hy_recv hX hP 30 10 (by decide) rfl rfl) rfl rfl (Nat.le_of_ble_eq_true rfl) dL_law_875 ⟨Nat.le_of_ble_eq_true rfl, Nat.le_of_ble_eq_true rfl⟩ hroom) hS (fun H locs hP hS => ?_)
  refine lv_iload hx hb dL_law_878 (lv_at hl 1 rfl) ?_
  refine lv_icmp_eq (tgt := 885) hx hb dL_law_880 (by decide) (fun _ => ?_) (fun z => absurd rfl z)
  refine lv_iload hx hb dL_law_885 (lv_at hl 1 rfl) ?_
  refine lv_if_ne (tgt := 902) hx hb dL_law_887 (by decide) (fun _ => ?_) (fun ck => ?_)
  · refine lv_goto (tgt := 1999) hx hb dL_law_902 (by decide) ?_
    exact next _ H locs _ e5 hP hS (lv_sub hl [2, 3, 4, 5, 6] rfl)
  · refine lv_aload_n hx hb dL_law_890 rfl (lv_at hl 3 rfl) ?_
    refine lv_iconst (v := 0) hx hb dL_law_891 rfl ?_
    refine hy_lald (T := (Mc1, N, Mo1)) hx hb hX hP rfl dL_law_892 ?_
    refine lv_iload hx hb dL_law_893 (lv_at hl 0 rfl) ?_
    refine lv_i2l hx hb dL_law_895 rfl ?_
    refine W.lcmp hx hb dL_law_896 ?_
    refine lv_if_eq (tgt := 902) hx hb dL_law_897 (by decide) (fun _ => ?_) (fun z => absurd (lgs (e4 ck)) z)
    refine lv_goto (tgt := 1999) hx hb dL_law_902 (by decide) ?_
    exact next _ H locs _ e5 hP hS (lv_sub hl [2, 3, 4, 5, 6] rfl)
set_option maxHeartbeats 1000000 in
set_option maxRecDepth 100000 in
theorem lc_11 {p : Program} {l : Launch} {e : Env} {s : State} {m : MethodId} {below : List Frame} {meth : Method} {c : Code} {G : hyG} {T : hyT} {H : Heap} {locs : List Loc} {cells slots b L : Nat} {xs : Nat → Int32} {i : Int32} {Q : State → Prop} {ls : Array Slot} (CX : lcx p l s m c G b L xs) (hv : liv i L) (hI : INV T) (hP : va_P G.1 vwCl (wld G T) H) (hS : va_S (hyA G) s.heap H locs) (hl : lv_has ls 9 (lvb b G i)) (hroom : cells + 1 ≤ room_1.cells ∧ slots + 6 * 1 ≤ room_1.slots) (next : lnx p l e s m below meth c G b i cells slots Q) : W p l e room_1 s m #[Value.ref b] below meth c H locs cells slots Q (F0 m 905 ls []) := by
  obtain ⟨hx, hb, hml, hown, hts, hX, hN, hXs, hbl, hbA, hlt⟩ := CX
  obtain ⟨hv1, hv2, hv3, hv4, hv5⟩ := hv
  obtain ⟨T0a, T0b, T0c⟩ := T
  have hl : lv_has ls 9 [(4, .int i), (3, .ref (adr G 51)), (2, .ref (adr G 30)), (1, .ref (adr G 0)), (0, .ref b)] := hl
  refine lv_aload_n hx hb dL_law_905 rfl (lv_at hl 3 rfl) ?_
  obtain ⟨v, M1, N, e1, e2, e5⟩ := s_clearInput hI
  dsimp only at e1 e2 e5
  refine hy_ret (hy_rV0 (T := (T0a, T0b, T0c)) (v := some (.int v)) (T2 := (M1, T0b, T0c)) (o := 0) (As := []) (rest := []) (n := 0) hx hb hml hown hts hX hP hS hl (c_Hp_clearInput T0b T0c  T0a (res := (v, M1)) e1) m_Hp_clearInput q_528 (hy_recv hX hP 0 9 (by decide) rfl rfl) rfl rfl (Nat.le_of_ble_eq_true rfl) dL_law_906 ⟨Nat.le_of_ble_eq_true rfl, Nat.le_of_ble_eq_true rfl⟩ ⟨Nat.le_trans (Nat.le_succ _) hroom.1, Nat.le_trans (Nat.le_add_right _ 6) hroom.2⟩) hS (fun H locs hP hS => ?_)
  refine lv_aload_n hx hb dL_law_909 rfl (lv_at hl 2 rfl) ?_
  refine hy_ret (hy_rV0 (T := (M1, T0b, T0c)) (v := some (.int v)) (T2 := (M1, N, T0c)) (o := 30) (As := []) (rest := [.int v]) (n := 0) hx hb hml hown hts hX hP hS hl (c_Rf_clearInput M1 T0c  T0b (res := (v, N)) e2) m_Rf_clearInput q_1423 (hy_recv hX hP 30 10 (by decide) rfl rfl) rfl rfl (Nat.le_of_ble_eq_true rfl) dL_law_910 ⟨Nat.le_of_ble_eq_true rfl, Nat.le_of_ble_eq_true rfl⟩ ⟨Nat.le_trans (Nat.le_succ _) hroom.1, Nat.le_trans (Nat.le_add_right _ 6) hroom.2⟩) hS (fun H locs hP hS => ?_)
  refine lv_icmp_eq (tgt := 1999) hx hb dL_law_913 (by decide) (fun _ => ?_) (fun z => absurd rfl z)
  refine W.widen (k := cells + 1) (n := slots + 6 * 1) (by omega) (by omega) ?_
  exact next _ H locs _ e5 hP hS (lv_sub hl [0, 1, 2, 3, 4] rfl)
set_option maxHeartbeats 1000000 in
set_option maxRecDepth 100000 in
theorem lc_12 {p : Program} {l : Launch} {e : Env} {s : State} {m : MethodId} {below : List Frame} {meth : Method} {c : Code} {G : hyG} {T : hyT} {H : Heap} {locs : List Loc} {cells slots b L : Nat} {xs : Nat → Int32} {i : Int32} {Q : State → Prop} {ls : Array Slot} (CX : lcx p l s m c G b L xs) (hv : liv i L) (hI : INV T) (hP : va_P G.1 vwCl (wld G T) H) (hS : va_S (hyA G) s.heap H locs) (hl : lv_has ls 9 (lvb b G i)) (hroom : cells + 1 ≤ room_1.cells ∧ slots + 6 * 1 ≤ room_1.slots) (next : lnx p l e s m below meth c G b i cells slots Q) : W p l e room_1 s m #[Value.ref b] below meth c H locs cells slots Q (F0 m 918 ls []) := by
  obtain ⟨hx, hb, hml, hown, hts, hX, hN, hXs, hbl, hbA, hlt⟩ := CX
  obtain ⟨hv1, hv2, hv3, hv4, hv5⟩ := hv
  obtain ⟨T0a, T0b, T0c⟩ := T
  have hl : lv_has ls 9 [(4, .int i), (3, .ref (adr G 51)), (2, .ref (adr G 30)), (1, .ref (adr G 0)), (0, .ref b)] := hl
  refine lv_aload_n hx hb dL_law_918 rfl (lv_at hl 3 rfl) ?_
  refine lv_aload_n hx hb dL_law_919 rfl (lv_at hl 4 rfl) ?_
  refine lv_iload hx hb dL_law_920 (lv_at hl 0 rfl) ?_
  refine lv_iconst (v := 1) hx hb dL_law_922 rfl ?_
  refine lv_iadd hx hb dL_law_923 ?_
  refine va_sld hx hb hXs hbl hbA hS hv1 dL_law_924 ?_
  refine lv_if_eq (tgt := 932) hx hb dL_law_925 (by decide) (fun f0 => ?_) (fun f0 => ?_)
  · refine lv_iconst (v := 0) hx hb dL_law_932 rfl ?_
    obtain ⟨v, N, e1, e2, e5⟩ := s_errLine hI
    dsimp only at e1 e2 e5
    refine hy_ret (hy_rV0 (T := (T0a, T0b, T0c)) (v := some (.int v)) (T2 := (T0a, T0b, T0c)) (o := 0) (As := [.int 0]) (rest := []) (n := 0) hx hb hml hown hts hX hP hS hl (c_Hp_firstError T0b T0c false T0a (res := v) e1) m_Hp_firstError q_532 (hy_recv hX hP 0 9 (by decide) rfl rfl) rfl rfl (Nat.le_of_ble_eq_true rfl) dL_law_933 ⟨Nat.le_of_ble_eq_true rfl, Nat.le_of_ble_eq_true rfl⟩ ⟨Nat.le_trans (Nat.le_succ _) hroom.1, Nat.le_trans (Nat.le_add_right _ 6) hroom.2⟩) hS (fun H locs hP hS => ?_)
    refine lv_aload_n hx hb dL_law_936 rfl (lv_at hl 2 rfl) ?_
    refine lv_aload_n hx hb dL_law_937 rfl (lv_at hl 4 rfl) ?_
    refine lv_iload hx hb dL_law_938 (lv_at hl 0 rfl) ?_
    refine lv_iconst (v := 1) hx hb dL_law_940 rfl ?_
    refine lv_iadd hx hb dL_law_941 ?_
    refine va_sld hx hb hXs hbl hbA hS hv1 dL_law_942 ?_
    refine lv_if_eq (tgt := 950) hx hb dL_law_943 (by decide) (fun _ => ?_) (fun z => absurd f0 z)
    refine lv_iconst (v := 0) hx hb dL_law_950 rfl ?_
    refine hy_ret (hy_rV0 (T := (T0a, T0b, T0c)) (v := some (.int v)) (T2 := (T0a, N, T0c)) (o := 30) (As := [.int 0]) (rest := [.int v]) (n := 0) hx hb hml hown hts hX hP hS hl (c_Rf_firstError T0a T0c false T0b (res := (v, N)) e2) m_Rf_firstError q_1427 (hy_recv hX hP 30 10 (by decide) rfl rfl) rfl rfl (Nat.le_of_ble_eq_true rfl) dL_law_951 ⟨Nat.le_of_ble_eq_true rfl, Nat.le_of_ble_eq_true rfl⟩ ⟨Nat.le_trans (Nat.le_succ _) hroom.1, Nat.le_trans (Nat.le_add_right _ 6) hroom.2⟩) hS (fun H locs hP hS => ?_)
    refine lv_icmp_eq (tgt := 1999) hx hb dL_law_954 (by decide) (fun _ => ?_) (fun z => absurd rfl z)
    refine W.widen (k := cells + 1) (n := slots + 6 * 1) (by omega) (by omega) ?_
    exact next _ H locs _ e5 hP hS (lv_sub hl [0, 1, 2, 3, 4] rfl)
  · refine lv_iconst (v := 1) hx hb dL_law_928 rfl ?_
    refine lv_goto (tgt := 933) hx hb dL_law_929 (by decide) ?_
    obtain ⟨v, N, e1, e2, e5⟩ := s_errMetre hI
    dsimp only at e1 e2 e5
    refine hy_ret (hy_rV0 (T := (T0a, T0b, T0c)) (v := some (.int v)) (T2 := (T0a, T0b, T0c)) (o := 0) (As := [.int 1]) (rest := []) (n := 0) hx hb hml hown hts hX hP hS hl (c_Hp_firstError T0b T0c true T0a (res := v) e1) m_Hp_firstError q_532 (hy_recv hX hP 0 9 (by decide) rfl rfl) rfl rfl (Nat.le_of_ble_eq_true rfl) dL_law_933 ⟨Nat.le_of_ble_eq_true rfl, Nat.le_of_ble_eq_true rfl⟩ ⟨Nat.le_trans (Nat.le_succ _) hroom.1, Nat.le_trans (Nat.le_add_right _ 6) hroom.2⟩) hS (fun H locs hP hS => ?_)
    refine lv_aload_n hx hb dL_law_936 rfl (lv_at hl 2 rfl) ?_
    refine lv_aload_n hx hb dL_law_937 rfl (lv_at hl 4 rfl) ?_
    refine lv_iload hx hb dL_law_938 (lv_at hl 0 rfl) ?_
    refine lv_iconst (v := 1) hx hb dL_law_940 rfl ?_
    refine lv_iadd hx hb dL_law_941 ?_
    refine va_sld hx hb hXs hbl hbA hS hv1 dL_law_942 ?_
    refine lv_if_eq (tgt := 950) hx hb dL_law_943 (by decide) (fun z => absurd z f0) (fun _ => ?_)
    refine lv_iconst (v := 1) hx hb dL_law_946 rfl ?_
    refine lv_goto (tgt := 951) hx hb dL_law_947 (by decide) ?_
    refine hy_ret (hy_rV0 (T := (T0a, T0b, T0c)) (v := some (.int v)) (T2 := (T0a, N, T0c)) (o := 30) (As := [.int 1]) (rest := [.int v]) (n := 0) hx hb hml hown hts hX hP hS hl (c_Rf_firstError T0a T0c true T0b (res := (v, N)) e2) m_Rf_firstError q_1427 (hy_recv hX hP 30 10 (by decide) rfl rfl) rfl rfl (Nat.le_of_ble_eq_true rfl) dL_law_951 ⟨Nat.le_of_ble_eq_true rfl, Nat.le_of_ble_eq_true rfl⟩ ⟨Nat.le_trans (Nat.le_succ _) hroom.1, Nat.le_trans (Nat.le_add_right _ 6) hroom.2⟩) hS (fun H locs hP hS => ?_)
    refine lv_icmp_eq (tgt := 1999) hx hb dL_law_954 (by decide) (fun _ => ?_) (fun z => absurd rfl z)
    refine W.widen (k := cells + 1) (n := slots + 6 * 1) (by omega) (by omega) ?_
    exact next _ H locs _ e5 hP hS (lv_sub hl [0, 1, 2, 3, 4] rfl)
set_option maxHeartbeats 1000000 in
set_option maxRecDepth 100000 in
theorem lc_13 {p : Program} {l : Launch} {e : Env} {s : State} {m : MethodId} {below : List Frame} {meth : Method} {c : Code} {G : hyG} {T : hyT} {H : Heap} {locs : List Loc} {cells slots b L : Nat} {xs : Nat → Int32} {i : Int32} {Q : State → Prop} {ls : Array Slot} (CX : lcx p l s m c G b L xs) (hv : liv i L) (hI : INV T) (hP : va_P G.1 vwCl (wld G T) H) (hS : va_S (hyA G) s.heap H locs) (hl : lv_has ls 9 (lvb b G i)) (hroom : cells + 1 ≤ room_1.cells ∧ slots + 6 * 1 ≤ room_1.slots) (next : lnx p l e s m below meth c G b i cells slots Q) : W p l e room_1 s m #[Value.ref b] below meth c H locs cells slots Q (F0 m 959 ls []) := by
  obtain ⟨hx, hb, hml, hown, hts, hX, hN, hXs, hbl, hbA, hlt⟩ := CX
  obtain ⟨hv1, hv2, hv3, hv4, hv5⟩ := hv
  obtain ⟨T0a, T0b, T0c⟩ := T
  have hl : lv_has ls 9 [(4, .int i), (3, .ref (adr G 51)), (2, .ref (adr G 30)), (1, .ref (adr G 0)), (0, .ref b)] := hl
  refine lv_aload_n hx hb dL_law_959 rfl (lv_at hl 3 rfl) ?_
  refine lv_aload_n hx hb dL_law_960 rfl (lv_at hl 4 rfl) ?_
  refine lv_iload hx hb dL_law_961 (lv_at hl 0 rfl) ?_
  refine lv_iconst (v := 1) hx hb dL_law_963 rfl ?_
  refine lv_iadd hx hb dL_law_964 ?_
  refine va_sld hx hb hXs hbl hbA hS hv1 dL_law_965 ?_
  refine lv_aload_n hx hb dL_law_966 rfl (lv_at hl 4 rfl) ?_
  refine lv_iload hx hb dL_law_967 (lv_at hl 0 rfl) ?_
  refine lv_iconst (v := 2) hx hb dL_law_969 rfl ?_
  refine lv_iadd hx hb dL_law_970 ?_
  refine va_sld hx hb hXs hbl hbA hS hv2 dL_law_971 ?_
  refine lv_aload_n hx hb dL_law_972 rfl (lv_at hl 1 rfl) ?_
  obtain ⟨k, ⟨Mc1, Mr1, Mo1⟩, r, N, e1, e2, e3, e4, e5⟩ := s_setLine hI (xs (i + 1).toNatClampNeg) (xs (i + 2).toNatClampNeg)
  dsimp only at e1 e2 e3 e4 e5
  refine hy_ret (hy_rSW2 (T := (T0a, T0b, T0c)) (v := some (.int k)) (T2 := (Mc1, Mr1, Mo1)) (As := [.ref (adr G 0), .int (xs (i + 1).toNatClampNeg), .int (xs (i + 2).toNatClampNeg), .ref (adr G 51)]) (rest := []) (n := 1) hx hb hml hown hts hX hN hP hS hl (c_La_setLine hlt (xs (i + 1).toNatClampNeg) (xs (i + 2).toNatClampNeg) (T0a, T0b, T0c) e1) m_La_setLine q_1037 rfl rfl (Nat.le_of_ble_eq_true rfl) dL_law_973 ⟨Nat.le_of_ble_eq_true rfl, Nat.le_of_ble_eq_true rfl⟩ hroom) hS (fun H locs hP hS => ?_)
  refine lv_istore (lv' := [(5, .int k), (4, .int i), (3, .ref (adr G 51)), (2, .ref (adr G 30)), (1, .ref (adr G 0)), (0, .ref b)]) hx hb dL_law_976 hl (by decide) rfl (fun ls hl => ?_)
  refine lv_aload_n hx hb dL_law_978 rfl (lv_at hl 3 rfl) ?_
  refine lv_aload_n hx hb dL_law_979 rfl (lv_at hl 5 rfl) ?_
  refine lv_iload hx hb dL_law_980 (lv_at hl 1 rfl) ?_
  refine lv_iconst (v := 1) hx hb dL_law_982 rfl ?_
  refine lv_iadd hx hb dL_law_983 ?_
  refine va_sld hx hb hXs hbl hbA hS hv1 dL_law_984 ?_
  refine lv_aload_n hx hb dL_law_985 rfl (lv_at hl 5 rfl) ?_
  refine lv_iload hx hb dL_law_986 (lv_at hl 1 rfl) ?_
  refine lv_iconst (v := 2) hx hb dL_law_988 rfl ?_
  refine lv_iadd hx hb dL_law_989 ?_
  refine va_sld hx hb hXs hbl hbA hS hv2 dL_law_990 ?_
  refine hy_ret (hy_rV0 (T := (Mc1, Mr1, Mo1)) (v := some (.int r)) (T2 := (Mc1, N, Mo1)) (o := 30) (As := [.int (xs (i + 1).toNatClampNeg), .int (xs (i + 2).toNatClampNeg)]) (rest := []) (n := 0) hx hb hml hown hts hX hP hS hl (c_Rf_setLine Mc1 Mo1 (xs (i + 1).toNatClampNeg) (xs (i + 2).toNatClampNeg) Mr1 (res := (r, N)) e2) m_Rf_setLine q_1447 (hy_recv hX hP 30 10 (by decide) rfl rfl) rfl rfl (Nat.le_of_ble_eq_true rfl) dL_law_991 ⟨Nat.le_of_ble_eq_true rfl, Nat.le_of_ble_eq_true rfl⟩ hroom) hS (fun H locs hP hS => ?_)
  refine lv_istore (lv' := [(6, .int r), (5, .int k), (4, .int i), (3, .ref (adr G 51)), (2, .ref (adr G 30)), (1, .ref (adr G 0)), (0, .ref b)]) hx hb dL_law_994 hl (by decide) rfl (fun ls hl => ?_)
  refine lv_aload_n hx hb dL_law_996 rfl (lv_at hl 4 rfl) ?_
  refine hy_ret (hy_rV0 (T := (Mc1, N, Mo1)) (v := some (.int k)) (T2 := (Mc1, N, Mo1)) (o := 30) (As := []) (rest := []) (n := 0) hx hb hml hown hts hX hP hS hl (c_Rf_thrown Mc1 Mo1 N (res := k) e3) m_Rf_thrown q_1302 (hy_recv hX hP 30 10 (by decide) rfl rfl) rfl rfl (Nat.le_of_ble_eq_true rfl) dL_law_997 ⟨Nat.le_of_ble_eq_true rfl, Nat.le_of_ble_eq_true rfl⟩ hroom) hS (fun H locs hP hS => ?_)
  refine lv_iload hx hb dL_law_1000 (lv_at hl 1 rfl) ?_
  refine lv_icmp_eq (tgt := 1007) hx hb dL_law_1002 (by decide) (fun _ => ?_) (fun z => absurd rfl z)
  refine lv_iload hx hb dL_law_1007 (lv_at hl 1 rfl) ?_
  refine lv_if_ne (tgt := 1024) hx hb dL_law_1009 (by decide) (fun _ => ?_) (fun ck => ?_)
  · refine lv_goto (tgt := 1999) hx hb dL_law_1024 (by decide) ?_
    exact next _ H locs _ e5 hP hS (lv_sub hl [2, 3, 4, 5, 6] rfl)
  · refine lv_aload_n hx hb dL_law_1012 rfl (lv_at hl 3 rfl) ?_
    refine lv_iconst (v := 0) hx hb dL_law_1013 rfl ?_
    refine hy_lald (T := (Mc1, N, Mo1)) hx hb hX hP rfl dL_law_1014 ?_
    refine lv_iload hx hb dL_law_1015 (lv_at hl 0 rfl) ?_
    refine lv_i2l hx hb dL_law_1017 rfl ?_
    refine W.lcmp hx hb dL_law_1018 ?_
    refine lv_if_eq (tgt := 1024) hx hb dL_law_1019 (by decide) (fun _ => ?_) (fun z => absurd (lgs (e4 ck)) z)
    refine lv_goto (tgt := 1999) hx hb dL_law_1024 (by decide) ?_
    exact next _ H locs _ e5 hP hS (lv_sub hl [2, 3, 4, 5, 6] rfl)
set_option maxHeartbeats 1000000 in
set_option maxRecDepth 100000 in
theorem lc_14 {p : Program} {l : Launch} {e : Env} {s : State} {m : MethodId} {below : List Frame} {meth : Method} {c : Code} {G : hyG} {T : hyT} {H : Heap} {locs : List Loc} {cells slots b L : Nat} {xs : Nat → Int32} {i : Int32} {Q : State → Prop} {ls : Array Slot} (CX : lcx p l s m c G b L xs) (hv : liv i L) (hI : INV T) (hP : va_P G.1 vwCl (wld G T) H) (hS : va_S (hyA G) s.heap H locs) (hl : lv_has ls 9 (lvb b G i)) (hroom : cells + 1 ≤ room_1.cells ∧ slots + 6 * 1 ≤ room_1.slots) (next : lnx p l e s m below meth c G b i cells slots Q) : W p l e room_1 s m #[Value.ref b] below meth c H locs cells slots Q (F0 m 1027 ls []) := by
  obtain ⟨hx, hb, hml, hown, hts, hX, hN, hXs, hbl, hbA, hlt⟩ := CX
  obtain ⟨hv1, hv2, hv3, hv4, hv5⟩ := hv
  obtain ⟨T0a, T0b, T0c⟩ := T
  have hl : lv_has ls 9 [(4, .int i), (3, .ref (adr G 51)), (2, .ref (adr G 30)), (1, .ref (adr G 0)), (0, .ref b)] := hl
  refine lv_aload_n hx hb dL_law_1027 rfl (lv_at hl 3 rfl) ?_
  refine lv_aload_n hx hb dL_law_1028 rfl (lv_at hl 4 rfl) ?_
  refine lv_iload hx hb dL_law_1029 (lv_at hl 0 rfl) ?_
  refine lv_iconst (v := 1) hx hb dL_law_1031 rfl ?_
  refine lv_iadd hx hb dL_law_1032 ?_
  refine va_sld hx hb hXs hbl hbA hS hv1 dL_law_1033 ?_
  refine lv_aload_n hx hb dL_law_1034 rfl (lv_at hl 1 rfl) ?_
  obtain ⟨k, ⟨Mc1, Mr1, Mo1⟩, r, N, e1, e2, e3, e4, e5⟩ := s_clearVerse hI (xs (i + 1).toNatClampNeg)
  dsimp only at e1 e2 e3 e4 e5
  refine hy_ret (hy_rSW2 (T := (T0a, T0b, T0c)) (v := some (.int k)) (T2 := (Mc1, Mr1, Mo1)) (As := [.ref (adr G 0), .int (xs (i + 1).toNatClampNeg), .ref (adr G 51)]) (rest := []) (n := 1) hx hb hml hown hts hX hN hP hS hl (c_La_clearVerse hlt (xs (i + 1).toNatClampNeg) (T0a, T0b, T0c) e1) m_La_clearVerse q_1060 rfl rfl (Nat.le_of_ble_eq_true rfl) dL_law_1035 ⟨Nat.le_of_ble_eq_true rfl, Nat.le_of_ble_eq_true rfl⟩ hroom) hS (fun H locs hP hS => ?_)
  refine lv_istore (lv' := [(5, .int k), (4, .int i), (3, .ref (adr G 51)), (2, .ref (adr G 30)), (1, .ref (adr G 0)), (0, .ref b)]) hx hb dL_law_1038 hl (by decide) rfl (fun ls hl => ?_)
  refine lv_aload_n hx hb dL_law_1040 rfl (lv_at hl 3 rfl) ?_
  refine lv_aload_n hx hb dL_law_1041 rfl (lv_at hl 5 rfl) ?_
  refine lv_iload hx hb dL_law_1042 (lv_at hl 1 rfl) ?_
  refine lv_iconst (v := 1) hx hb dL_law_1044 rfl ?_
  refine lv_iadd hx hb dL_law_1045 ?_
  refine va_sld hx hb hXs hbl hbA hS hv1 dL_law_1046 ?_
  refine hy_ret (hy_rV0 (T := (Mc1, Mr1, Mo1)) (v := some (.int r)) (T2 := (Mc1, N, Mo1)) (o := 30) (As := [.int (xs (i + 1).toNatClampNeg)]) (rest := []) (n := 0) hx hb hml hown hts hX hP hS hl (c_Rf_clearVerse Mc1 Mo1 (xs (i + 1).toNatClampNeg) Mr1 (res := (r, N)) e2) m_Rf_clearVerse q_1454 (hy_recv hX hP 30 10 (by decide) rfl rfl) rfl rfl (Nat.le_of_ble_eq_true rfl) dL_law_1047 ⟨Nat.le_of_ble_eq_true rfl, Nat.le_of_ble_eq_true rfl⟩ hroom) hS (fun H locs hP hS => ?_)
  refine lv_istore (lv' := [(6, .int r), (5, .int k), (4, .int i), (3, .ref (adr G 51)), (2, .ref (adr G 30)), (1, .ref (adr G 0)), (0, .ref b)]) hx hb dL_law_1050 hl (by decide) rfl (fun ls hl => ?_)
  refine lv_aload_n hx hb dL_law_1052 rfl (lv_at hl 4 rfl) ?_
  refine hy_ret (hy_rV0 (T := (Mc1, N, Mo1)) (v := some (.int k)) (T2 := (Mc1, N, Mo1)) (o := 30) (As := []) (rest := []) (n := 0) hx hb hml hown hts hX hP hS hl (c_Rf_thrown Mc1 Mo1 N (res := k) e3) m_Rf_thrown q_1302 (hy_recv hX hP 30 10 (by decide) rfl rfl) rfl rfl (Nat.le_of_ble_eq_true rfl) dL_law_1053 ⟨Nat.le_of_ble_eq_true rfl, Nat.le_of_ble_eq_true rfl⟩ hroom) hS (fun H locs hP hS => ?_)
  refine lv_iload hx hb dL_law_1056 (lv_at hl 1 rfl) ?_
  refine lv_icmp_eq (tgt := 1063) hx hb dL_law_1058 (by decide) (fun _ => ?_) (fun z => absurd rfl z)
  refine lv_iload hx hb dL_law_1063 (lv_at hl 1 rfl) ?_
  refine lv_if_ne (tgt := 1080) hx hb dL_law_1065 (by decide) (fun _ => ?_) (fun ck => ?_)
  · refine lv_goto (tgt := 1999) hx hb dL_law_1080 (by decide) ?_
    exact next _ H locs _ e5 hP hS (lv_sub hl [2, 3, 4, 5, 6] rfl)
  · refine lv_aload_n hx hb dL_law_1068 rfl (lv_at hl 3 rfl) ?_
    refine lv_iconst (v := 0) hx hb dL_law_1069 rfl ?_
    refine hy_lald (T := (Mc1, N, Mo1)) hx hb hX hP rfl dL_law_1070 ?_
    refine lv_iload hx hb dL_law_1071 (lv_at hl 0 rfl) ?_
    refine lv_i2l hx hb dL_law_1073 rfl ?_
    refine W.lcmp hx hb dL_law_1074 ?_
    refine lv_if_eq (tgt := 1080) hx hb dL_law_1075 (by decide) (fun _ => ?_) (fun z => absurd (lgs (e4 ck)) z)
    refine lv_goto (tgt := 1999) hx hb dL_law_1080 (by decide) ?_
    exact next _ H locs _ e5 hP hS (lv_sub hl [2, 3, 4, 5, 6] rfl)
set_option maxHeartbeats 1000000 in
set_option maxRecDepth 100000 in
theorem lc_15 {p : Program} {l : Launch} {e : Env} {s : State} {m : MethodId} {below : List Frame} {meth : Method} {c : Code} {G : hyG} {T : hyT} {H : Heap} {locs : List Loc} {cells slots b L : Nat} {xs : Nat → Int32} {i : Int32} {Q : State → Prop} {ls : Array Slot} (CX : lcx p l s m c G b L xs) (hv : liv i L) (hI : INV T) (hP : va_P G.1 vwCl (wld G T) H) (hS : va_S (hyA G) s.heap H locs) (hl : lv_has ls 9 (lvb b G i)) (hroom : cells + 1 ≤ room_1.cells ∧ slots + 6 * 1 ≤ room_1.slots) (next : lnx p l e s m below meth c G b i cells slots Q) : W p l e room_1 s m #[Value.ref b] below meth c H locs cells slots Q (F0 m 1083 ls []) := by
  obtain ⟨hx, hb, hml, hown, hts, hX, hN, hXs, hbl, hbA, hlt⟩ := CX
  obtain ⟨hv1, hv2, hv3, hv4, hv5⟩ := hv
  obtain ⟨T0a, T0b, T0c⟩ := T
  have hl : lv_has ls 9 [(4, .int i), (3, .ref (adr G 51)), (2, .ref (adr G 30)), (1, .ref (adr G 0)), (0, .ref b)] := hl
  refine lv_aload_n hx hb dL_law_1083 rfl (lv_at hl 3 rfl) ?_
  refine lv_aload_n hx hb dL_law_1084 rfl (lv_at hl 1 rfl) ?_
  obtain ⟨k, ⟨Mc1, Mr1, Mo1⟩, r, N, e1, e2, e3, e4, e5⟩ := s_addMetre hI 
  dsimp only at e1 e2 e3 e4 e5
  refine hy_ret (hy_rSW2 (T := (T0a, T0b, T0c)) (v := some (.int k)) (T2 := (Mc1, Mr1, Mo1)) (As := [.ref (adr G 0), .ref (adr G 51)]) (rest := []) (n := 1) hx hb hml hown hts hX hN hP hS hl (c_La_addMetre hlt  (T0a, T0b, T0c) e1) m_La_addMetre q_1067 rfl rfl (Nat.le_of_ble_eq_true rfl) dL_law_1085 ⟨Nat.le_of_ble_eq_true rfl, Nat.le_of_ble_eq_true rfl⟩ hroom) hS (fun H locs hP hS => ?_)
  refine lv_istore (lv' := [(5, .int k), (4, .int i), (3, .ref (adr G 51)), (2, .ref (adr G 30)), (1, .ref (adr G 0)), (0, .ref b)]) hx hb dL_law_1088 hl (by decide) rfl (fun ls hl => ?_)
  refine lv_aload_n hx hb dL_law_1090 rfl (lv_at hl 3 rfl) ?_
  refine hy_ret (hy_rV0 (T := (Mc1, Mr1, Mo1)) (v := some (.int r)) (T2 := (Mc1, N, Mo1)) (o := 30) (As := []) (rest := []) (n := 0) hx hb hml hown hts hX hP hS hl (c_Rf_addMetre Mc1 Mo1  Mr1 (res := (r, N)) e2) m_Rf_addMetre q_1458 (hy_recv hX hP 30 10 (by decide) rfl rfl) rfl rfl (Nat.le_of_ble_eq_true rfl) dL_law_1091 ⟨Nat.le_of_ble_eq_true rfl, Nat.le_of_ble_eq_true rfl⟩ hroom) hS (fun H locs hP hS => ?_)
  refine lv_istore (lv' := [(6, .int r), (5, .int k), (4, .int i), (3, .ref (adr G 51)), (2, .ref (adr G 30)), (1, .ref (adr G 0)), (0, .ref b)]) hx hb dL_law_1094 hl (by decide) rfl (fun ls hl => ?_)
  refine lv_aload_n hx hb dL_law_1096 rfl (lv_at hl 4 rfl) ?_
  refine hy_ret (hy_rV0 (T := (Mc1, N, Mo1)) (v := some (.int k)) (T2 := (Mc1, N, Mo1)) (o := 30) (As := []) (rest := []) (n := 0) hx hb hml hown hts hX hP hS hl (c_Rf_thrown Mc1 Mo1 N (res := k) e3) m_Rf_thrown q_1302 (hy_recv hX hP 30 10 (by decide) rfl rfl) rfl rfl (Nat.le_of_ble_eq_true rfl) dL_law_1097 ⟨Nat.le_of_ble_eq_true rfl, Nat.le_of_ble_eq_true rfl⟩ hroom) hS (fun H locs hP hS => ?_)
  refine lv_iload hx hb dL_law_1100 (lv_at hl 1 rfl) ?_
  refine lv_icmp_eq (tgt := 1107) hx hb dL_law_1102 (by decide) (fun _ => ?_) (fun z => absurd rfl z)
  refine lv_iload hx hb dL_law_1107 (lv_at hl 1 rfl) ?_
  refine lv_if_ne (tgt := 1124) hx hb dL_law_1109 (by decide) (fun _ => ?_) (fun ck => ?_)
  · refine lv_goto (tgt := 1999) hx hb dL_law_1124 (by decide) ?_
    exact next _ H locs _ e5 hP hS (lv_sub hl [2, 3, 4, 5, 6] rfl)
  · refine lv_aload_n hx hb dL_law_1112 rfl (lv_at hl 3 rfl) ?_
    refine lv_iconst (v := 0) hx hb dL_law_1113 rfl ?_
    refine hy_lald (T := (Mc1, N, Mo1)) hx hb hX hP rfl dL_law_1114 ?_
    refine lv_iload hx hb dL_law_1115 (lv_at hl 0 rfl) ?_
    refine lv_i2l hx hb dL_law_1117 rfl ?_
    refine W.lcmp hx hb dL_law_1118 ?_
    refine lv_if_eq (tgt := 1124) hx hb dL_law_1119 (by decide) (fun _ => ?_) (fun z => absurd (lgs (e4 ck)) z)
    refine lv_goto (tgt := 1999) hx hb dL_law_1124 (by decide) ?_
    exact next _ H locs _ e5 hP hS (lv_sub hl [2, 3, 4, 5, 6] rfl)
set_option maxHeartbeats 1000000 in
set_option maxRecDepth 100000 in
theorem lc_16 {p : Program} {l : Launch} {e : Env} {s : State} {m : MethodId} {below : List Frame} {meth : Method} {c : Code} {G : hyG} {T : hyT} {H : Heap} {locs : List Loc} {cells slots b L : Nat} {xs : Nat → Int32} {i : Int32} {Q : State → Prop} {ls : Array Slot} (CX : lcx p l s m c G b L xs) (hv : liv i L) (hI : INV T) (hP : va_P G.1 vwCl (wld G T) H) (hS : va_S (hyA G) s.heap H locs) (hl : lv_has ls 9 (lvb b G i)) (hroom : cells + 1 ≤ room_1.cells ∧ slots + 6 * 1 ≤ room_1.slots) (next : lnx p l e s m below meth c G b i cells slots Q) : W p l e room_1 s m #[Value.ref b] below meth c H locs cells slots Q (F0 m 1127 ls []) := by
  obtain ⟨hx, hb, hml, hown, hts, hX, hN, hXs, hbl, hbA, hlt⟩ := CX
  obtain ⟨hv1, hv2, hv3, hv4, hv5⟩ := hv
  obtain ⟨T0a, T0b, T0c⟩ := T
  have hl : lv_has ls 9 [(4, .int i), (3, .ref (adr G 51)), (2, .ref (adr G 30)), (1, .ref (adr G 0)), (0, .ref b)] := hl
  refine lv_aload_n hx hb dL_law_1127 rfl (lv_at hl 3 rfl) ?_
  refine lv_aload_n hx hb dL_law_1128 rfl (lv_at hl 4 rfl) ?_
  refine lv_iload hx hb dL_law_1129 (lv_at hl 0 rfl) ?_
  refine lv_iconst (v := 1) hx hb dL_law_1131 rfl ?_
  refine lv_iadd hx hb dL_law_1132 ?_
  refine va_sld hx hb hXs hbl hbA hS hv1 dL_law_1133 ?_
  refine lv_aload_n hx hb dL_law_1134 rfl (lv_at hl 1 rfl) ?_
  obtain ⟨k, ⟨Mc1, Mr1, Mo1⟩, r, N, e1, e2, e3, e4, e5⟩ := s_dropMetre hI (xs (i + 1).toNatClampNeg)
  dsimp only at e1 e2 e3 e4 e5
  refine hy_ret (hy_rSW2 (T := (T0a, T0b, T0c)) (v := some (.int k)) (T2 := (Mc1, Mr1, Mo1)) (As := [.ref (adr G 0), .int (xs (i + 1).toNatClampNeg), .ref (adr G 51)]) (rest := []) (n := 1) hx hb hml hown hts hX hN hP hS hl (c_La_dropMetre hlt (xs (i + 1).toNatClampNeg) (T0a, T0b, T0c) e1) m_La_dropMetre q_1098 rfl rfl (Nat.le_of_ble_eq_true rfl) dL_law_1135 ⟨Nat.le_of_ble_eq_true rfl, Nat.le_of_ble_eq_true rfl⟩ hroom) hS (fun H locs hP hS => ?_)
  refine lv_istore (lv' := [(5, .int k), (4, .int i), (3, .ref (adr G 51)), (2, .ref (adr G 30)), (1, .ref (adr G 0)), (0, .ref b)]) hx hb dL_law_1138 hl (by decide) rfl (fun ls hl => ?_)
  refine lv_aload_n hx hb dL_law_1140 rfl (lv_at hl 3 rfl) ?_
  refine lv_aload_n hx hb dL_law_1141 rfl (lv_at hl 5 rfl) ?_
  refine lv_iload hx hb dL_law_1142 (lv_at hl 1 rfl) ?_
  refine lv_iconst (v := 1) hx hb dL_law_1144 rfl ?_
  refine lv_iadd hx hb dL_law_1145 ?_
  refine va_sld hx hb hXs hbl hbA hS hv1 dL_law_1146 ?_
  refine hy_ret (hy_rV0 (T := (Mc1, Mr1, Mo1)) (v := some (.int r)) (T2 := (Mc1, N, Mo1)) (o := 30) (As := [.int (xs (i + 1).toNatClampNeg)]) (rest := []) (n := 0) hx hb hml hown hts hX hP hS hl (c_Rf_dropMetre Mc1 Mo1 (xs (i + 1).toNatClampNeg) Mr1 (res := (r, N)) e2) m_Rf_dropMetre q_1462 (hy_recv hX hP 30 10 (by decide) rfl rfl) rfl rfl (Nat.le_of_ble_eq_true rfl) dL_law_1147 ⟨Nat.le_of_ble_eq_true rfl, Nat.le_of_ble_eq_true rfl⟩ hroom) hS (fun H locs hP hS => ?_)
  refine lv_istore (lv' := [(6, .int r), (5, .int k), (4, .int i), (3, .ref (adr G 51)), (2, .ref (adr G 30)), (1, .ref (adr G 0)), (0, .ref b)]) hx hb dL_law_1150 hl (by decide) rfl (fun ls hl => ?_)
  refine lv_aload_n hx hb dL_law_1152 rfl (lv_at hl 4 rfl) ?_
  refine hy_ret (hy_rV0 (T := (Mc1, N, Mo1)) (v := some (.int k)) (T2 := (Mc1, N, Mo1)) (o := 30) (As := []) (rest := []) (n := 0) hx hb hml hown hts hX hP hS hl (c_Rf_thrown Mc1 Mo1 N (res := k) e3) m_Rf_thrown q_1302 (hy_recv hX hP 30 10 (by decide) rfl rfl) rfl rfl (Nat.le_of_ble_eq_true rfl) dL_law_1153 ⟨Nat.le_of_ble_eq_true rfl, Nat.le_of_ble_eq_true rfl⟩ hroom) hS (fun H locs hP hS => ?_)
  refine lv_iload hx hb dL_law_1156 (lv_at hl 1 rfl) ?_
  refine lv_icmp_eq (tgt := 1163) hx hb dL_law_1158 (by decide) (fun _ => ?_) (fun z => absurd rfl z)
  refine lv_iload hx hb dL_law_1163 (lv_at hl 1 rfl) ?_
  refine lv_if_ne (tgt := 1180) hx hb dL_law_1165 (by decide) (fun _ => ?_) (fun ck => ?_)
  · refine lv_goto (tgt := 1999) hx hb dL_law_1180 (by decide) ?_
    exact next _ H locs _ e5 hP hS (lv_sub hl [2, 3, 4, 5, 6] rfl)
  · refine lv_aload_n hx hb dL_law_1168 rfl (lv_at hl 3 rfl) ?_
    refine lv_iconst (v := 0) hx hb dL_law_1169 rfl ?_
    refine hy_lald (T := (Mc1, N, Mo1)) hx hb hX hP rfl dL_law_1170 ?_
    refine lv_iload hx hb dL_law_1171 (lv_at hl 0 rfl) ?_
    refine lv_i2l hx hb dL_law_1173 rfl ?_
    refine W.lcmp hx hb dL_law_1174 ?_
    refine lv_if_eq (tgt := 1180) hx hb dL_law_1175 (by decide) (fun _ => ?_) (fun z => absurd (lgs (e4 ck)) z)
    refine lv_goto (tgt := 1999) hx hb dL_law_1180 (by decide) ?_
    exact next _ H locs _ e5 hP hS (lv_sub hl [2, 3, 4, 5, 6] rfl)
set_option maxHeartbeats 1000000 in
set_option maxRecDepth 100000 in
theorem lc_17 {p : Program} {l : Launch} {e : Env} {s : State} {m : MethodId} {below : List Frame} {meth : Method} {c : Code} {G : hyG} {T : hyT} {H : Heap} {locs : List Loc} {cells slots b L : Nat} {xs : Nat → Int32} {i : Int32} {Q : State → Prop} {ls : Array Slot} (CX : lcx p l s m c G b L xs) (hv : liv i L) (hI : INV T) (hP : va_P G.1 vwCl (wld G T) H) (hS : va_S (hyA G) s.heap H locs) (hl : lv_has ls 9 (lvb b G i)) (hroom : cells + 1 ≤ room_1.cells ∧ slots + 6 * 1 ≤ room_1.slots) (next : lnx p l e s m below meth c G b i cells slots Q) : W p l e room_1 s m #[Value.ref b] below meth c H locs cells slots Q (F0 m 1183 ls []) := by
  obtain ⟨hx, hb, hml, hown, hts, hX, hN, hXs, hbl, hbA, hlt⟩ := CX
  obtain ⟨hv1, hv2, hv3, hv4, hv5⟩ := hv
  obtain ⟨T0a, T0b, T0c⟩ := T
  have hl : lv_has ls 9 [(4, .int i), (3, .ref (adr G 51)), (2, .ref (adr G 30)), (1, .ref (adr G 0)), (0, .ref b)] := hl
  refine lv_aload_n hx hb dL_law_1183 rfl (lv_at hl 3 rfl) ?_
  refine lv_aload_n hx hb dL_law_1184 rfl (lv_at hl 4 rfl) ?_
  refine lv_iload hx hb dL_law_1185 (lv_at hl 0 rfl) ?_
  refine lv_iconst (v := 1) hx hb dL_law_1187 rfl ?_
  refine lv_iadd hx hb dL_law_1188 ?_
  refine va_sld hx hb hXs hbl hbA hS hv1 dL_law_1189 ?_
  refine lv_aload_n hx hb dL_law_1190 rfl (lv_at hl 4 rfl) ?_
  refine lv_iload hx hb dL_law_1191 (lv_at hl 0 rfl) ?_
  refine lv_iconst (v := 2) hx hb dL_law_1193 rfl ?_
  refine lv_iadd hx hb dL_law_1194 ?_
  refine va_sld hx hb hXs hbl hbA hS hv2 dL_law_1195 ?_
  refine lv_aload_n hx hb dL_law_1196 rfl (lv_at hl 1 rfl) ?_
  obtain ⟨k, ⟨Mc1, Mr1, Mo1⟩, r, N, e1, e2, e3, e4, e5⟩ := s_note hI (xs (i + 1).toNatClampNeg) (xs (i + 2).toNatClampNeg)
  dsimp only at e1 e2 e3 e4 e5
  refine hy_ret (hy_rSW2 (T := (T0a, T0b, T0c)) (v := some (.int k)) (T2 := (Mc1, Mr1, Mo1)) (As := [.ref (adr G 0), .int (xs (i + 1).toNatClampNeg), .int (xs (i + 2).toNatClampNeg), .ref (adr G 51)]) (rest := []) (n := 1) hx hb hml hown hts hX hN hP hS hl (c_La_note hlt (xs (i + 1).toNatClampNeg) (xs (i + 2).toNatClampNeg) (T0a, T0b, T0c) e1) m_La_note q_1109 rfl rfl (Nat.le_of_ble_eq_true rfl) dL_law_1197 ⟨Nat.le_of_ble_eq_true rfl, Nat.le_of_ble_eq_true rfl⟩ hroom) hS (fun H locs hP hS => ?_)
  refine lv_istore (lv' := [(5, .int k), (4, .int i), (3, .ref (adr G 51)), (2, .ref (adr G 30)), (1, .ref (adr G 0)), (0, .ref b)]) hx hb dL_law_1200 hl (by decide) rfl (fun ls hl => ?_)
  refine lv_aload_n hx hb dL_law_1202 rfl (lv_at hl 3 rfl) ?_
  refine lv_aload_n hx hb dL_law_1203 rfl (lv_at hl 5 rfl) ?_
  refine lv_iload hx hb dL_law_1204 (lv_at hl 1 rfl) ?_
  refine lv_iconst (v := 1) hx hb dL_law_1206 rfl ?_
  refine lv_iadd hx hb dL_law_1207 ?_
  refine va_sld hx hb hXs hbl hbA hS hv1 dL_law_1208 ?_
  refine lv_aload_n hx hb dL_law_1209 rfl (lv_at hl 5 rfl) ?_
  refine lv_iload hx hb dL_law_1210 (lv_at hl 1 rfl) ?_
  refine lv_iconst (v := 2) hx hb dL_law_1212 rfl ?_
  refine lv_iadd hx hb dL_law_1213 ?_
  refine va_sld hx hb hXs hbl hbA hS hv2 dL_law_1214 ?_
  refine hy_ret (hy_rV0 (T := (Mc1, Mr1, Mo1)) (v := some (.int r)) (T2 := (Mc1, N, Mo1)) (o := 30) (As := [.int (xs (i + 1).toNatClampNeg), .int (xs (i + 2).toNatClampNeg)]) (rest := []) (n := 0) hx hb hml hown hts hX hP hS hl (c_Rf_note Mc1 Mo1 (xs (i + 1).toNatClampNeg) (xs (i + 2).toNatClampNeg) Mr1 (res := (r, N)) e2) m_Rf_note q_1470 (hy_recv hX hP 30 10 (by decide) rfl rfl) rfl rfl (Nat.le_of_ble_eq_true rfl) dL_law_1215 ⟨Nat.le_of_ble_eq_true rfl, Nat.le_of_ble_eq_true rfl⟩ hroom) hS (fun H locs hP hS => ?_)
  refine lv_istore (lv' := [(6, .int r), (5, .int k), (4, .int i), (3, .ref (adr G 51)), (2, .ref (adr G 30)), (1, .ref (adr G 0)), (0, .ref b)]) hx hb dL_law_1218 hl (by decide) rfl (fun ls hl => ?_)
  refine lv_aload_n hx hb dL_law_1220 rfl (lv_at hl 4 rfl) ?_
  refine hy_ret (hy_rV0 (T := (Mc1, N, Mo1)) (v := some (.int k)) (T2 := (Mc1, N, Mo1)) (o := 30) (As := []) (rest := []) (n := 0) hx hb hml hown hts hX hP hS hl (c_Rf_thrown Mc1 Mo1 N (res := k) e3) m_Rf_thrown q_1302 (hy_recv hX hP 30 10 (by decide) rfl rfl) rfl rfl (Nat.le_of_ble_eq_true rfl) dL_law_1221 ⟨Nat.le_of_ble_eq_true rfl, Nat.le_of_ble_eq_true rfl⟩ hroom) hS (fun H locs hP hS => ?_)
  refine lv_iload hx hb dL_law_1224 (lv_at hl 1 rfl) ?_
  refine lv_icmp_eq (tgt := 1231) hx hb dL_law_1226 (by decide) (fun _ => ?_) (fun z => absurd rfl z)
  refine lv_iload hx hb dL_law_1231 (lv_at hl 1 rfl) ?_
  refine lv_if_ne (tgt := 1248) hx hb dL_law_1233 (by decide) (fun _ => ?_) (fun ck => ?_)
  · refine lv_goto (tgt := 1999) hx hb dL_law_1248 (by decide) ?_
    exact next _ H locs _ e5 hP hS (lv_sub hl [2, 3, 4, 5, 6] rfl)
  · refine lv_aload_n hx hb dL_law_1236 rfl (lv_at hl 3 rfl) ?_
    refine lv_iconst (v := 0) hx hb dL_law_1237 rfl ?_
    refine hy_lald (T := (Mc1, N, Mo1)) hx hb hX hP rfl dL_law_1238 ?_
    refine lv_iload hx hb dL_law_1239 (lv_at hl 0 rfl) ?_
    refine lv_i2l hx hb dL_law_1241 rfl ?_
    refine W.lcmp hx hb dL_law_1242 ?_
    refine lv_if_eq (tgt := 1248) hx hb dL_law_1243 (by decide) (fun _ => ?_) (fun z => absurd (lgs (e4 ck)) z)
    refine lv_goto (tgt := 1999) hx hb dL_law_1248 (by decide) ?_
    exact next _ H locs _ e5 hP hS (lv_sub hl [2, 3, 4, 5, 6] rfl)
set_option maxHeartbeats 1000000 in
set_option maxRecDepth 100000 in
theorem lc_18 {p : Program} {l : Launch} {e : Env} {s : State} {m : MethodId} {below : List Frame} {meth : Method} {c : Code} {G : hyG} {T : hyT} {H : Heap} {locs : List Loc} {cells slots b L : Nat} {xs : Nat → Int32} {i : Int32} {Q : State → Prop} {ls : Array Slot} (CX : lcx p l s m c G b L xs) (hv : liv i L) (hI : INV T) (hP : va_P G.1 vwCl (wld G T) H) (hS : va_S (hyA G) s.heap H locs) (hl : lv_has ls 9 (lvb b G i)) (hroom : cells + 1 ≤ room_1.cells ∧ slots + 6 * 1 ≤ room_1.slots) (next : lnx p l e s m below meth c G b i cells slots Q) : W p l e room_1 s m #[Value.ref b] below meth c H locs cells slots Q (F0 m 1251 ls []) := by
  obtain ⟨hx, hb, hml, hown, hts, hX, hN, hXs, hbl, hbA, hlt⟩ := CX
  obtain ⟨hv1, hv2, hv3, hv4, hv5⟩ := hv
  obtain ⟨T0a, T0b, T0c⟩ := T
  have hl : lv_has ls 9 [(4, .int i), (3, .ref (adr G 51)), (2, .ref (adr G 30)), (1, .ref (adr G 0)), (0, .ref b)] := hl
  refine lv_aload_n hx hb dL_law_1251 rfl (lv_at hl 3 rfl) ?_
  refine lv_aload_n hx hb dL_law_1252 rfl (lv_at hl 4 rfl) ?_
  refine lv_iload hx hb dL_law_1253 (lv_at hl 0 rfl) ?_
  refine lv_iconst (v := 1) hx hb dL_law_1255 rfl ?_
  refine lv_iadd hx hb dL_law_1256 ?_
  refine va_sld hx hb hXs hbl hbA hS hv1 dL_law_1257 ?_
  refine lv_aload_n hx hb dL_law_1258 rfl (lv_at hl 4 rfl) ?_
  refine lv_iload hx hb dL_law_1259 (lv_at hl 0 rfl) ?_
  refine lv_iconst (v := 2) hx hb dL_law_1261 rfl ?_
  refine lv_iadd hx hb dL_law_1262 ?_
  refine va_sld hx hb hXs hbl hbA hS hv2 dL_law_1263 ?_
  refine lv_aload_n hx hb dL_law_1264 rfl (lv_at hl 4 rfl) ?_
  refine lv_iload hx hb dL_law_1265 (lv_at hl 0 rfl) ?_
  refine lv_iconst (v := 3) hx hb dL_law_1267 rfl ?_
  refine lv_iadd hx hb dL_law_1268 ?_
  refine va_sld hx hb hXs hbl hbA hS hv3 dL_law_1269 ?_
  refine lv_aload_n hx hb dL_law_1270 rfl (lv_at hl 1 rfl) ?_
  obtain ⟨k, ⟨Mc1, Mr1, Mo1⟩, r, N, e1, e2, e3, e4, e5⟩ := s_part hI (xs (i + 1).toNatClampNeg) (xs (i + 2).toNatClampNeg) (xs (i + 3).toNatClampNeg)
  dsimp only at e1 e2 e3 e4 e5
  refine hy_ret (hy_rSW2 (T := (T0a, T0b, T0c)) (v := some (.int k)) (T2 := (Mc1, Mr1, Mo1)) (As := [.ref (adr G 0), .int (xs (i + 1).toNatClampNeg), .int (xs (i + 2).toNatClampNeg), .int (xs (i + 3).toNatClampNeg), .ref (adr G 51)]) (rest := []) (n := 1) hx hb hml hown hts hX hN hP hS hl (c_La_part hlt (xs (i + 1).toNatClampNeg) (xs (i + 2).toNatClampNeg) (xs (i + 3).toNatClampNeg) (T0a, T0b, T0c) e1) m_La_part q_1116 rfl rfl (Nat.le_of_ble_eq_true rfl) dL_law_1271 ⟨Nat.le_of_ble_eq_true rfl, Nat.le_of_ble_eq_true rfl⟩ hroom) hS (fun H locs hP hS => ?_)
  refine lv_istore (lv' := [(5, .int k), (4, .int i), (3, .ref (adr G 51)), (2, .ref (adr G 30)), (1, .ref (adr G 0)), (0, .ref b)]) hx hb dL_law_1274 hl (by decide) rfl (fun ls hl => ?_)
  refine lv_aload_n hx hb dL_law_1276 rfl (lv_at hl 3 rfl) ?_
  refine lv_aload_n hx hb dL_law_1277 rfl (lv_at hl 5 rfl) ?_
  refine lv_iload hx hb dL_law_1278 (lv_at hl 1 rfl) ?_
  refine lv_iconst (v := 1) hx hb dL_law_1280 rfl ?_
  refine lv_iadd hx hb dL_law_1281 ?_
  refine va_sld hx hb hXs hbl hbA hS hv1 dL_law_1282 ?_
  refine lv_aload_n hx hb dL_law_1283 rfl (lv_at hl 5 rfl) ?_
  refine lv_iload hx hb dL_law_1284 (lv_at hl 1 rfl) ?_
  refine lv_iconst (v := 2) hx hb dL_law_1286 rfl ?_
  refine lv_iadd hx hb dL_law_1287 ?_
  refine va_sld hx hb hXs hbl hbA hS hv2 dL_law_1288 ?_
  refine lv_aload_n hx hb dL_law_1289 rfl (lv_at hl 5 rfl) ?_
  refine lv_iload hx hb dL_law_1290 (lv_at hl 1 rfl) ?_
  refine lv_iconst (v := 3) hx hb dL_law_1292 rfl ?_
  refine lv_iadd hx hb dL_law_1293 ?_
  refine va_sld hx hb hXs hbl hbA hS hv3 dL_law_1294 ?_
  refine hy_ret (hy_rV0 (T := (Mc1, Mr1, Mo1)) (v := some (.int r)) (T2 := (Mc1, N, Mo1)) (o := 30) (As := [.int (xs (i + 1).toNatClampNeg), .int (xs (i + 2).toNatClampNeg), .int (xs (i + 3).toNatClampNeg)]) (rest := []) (n := 0) hx hb hml hown hts hX hP hS hl (c_Rf_part Mc1 Mo1 (xs (i + 1).toNatClampNeg) (xs (i + 2).toNatClampNeg) (xs (i + 3).toNatClampNeg) Mr1 (res := (r, N)) e2) m_Rf_part q_1506 (hy_recv hX hP 30 10 (by decide) rfl rfl) rfl rfl (Nat.le_of_ble_eq_true rfl) dL_law_1295 ⟨Nat.le_of_ble_eq_true rfl, Nat.le_of_ble_eq_true rfl⟩ hroom) hS (fun H locs hP hS => ?_)
  refine lv_istore (lv' := [(6, .int r), (5, .int k), (4, .int i), (3, .ref (adr G 51)), (2, .ref (adr G 30)), (1, .ref (adr G 0)), (0, .ref b)]) hx hb dL_law_1298 hl (by decide) rfl (fun ls hl => ?_)
  refine lv_aload_n hx hb dL_law_1300 rfl (lv_at hl 4 rfl) ?_
  refine hy_ret (hy_rV0 (T := (Mc1, N, Mo1)) (v := some (.int k)) (T2 := (Mc1, N, Mo1)) (o := 30) (As := []) (rest := []) (n := 0) hx hb hml hown hts hX hP hS hl (c_Rf_thrown Mc1 Mo1 N (res := k) e3) m_Rf_thrown q_1302 (hy_recv hX hP 30 10 (by decide) rfl rfl) rfl rfl (Nat.le_of_ble_eq_true rfl) dL_law_1301 ⟨Nat.le_of_ble_eq_true rfl, Nat.le_of_ble_eq_true rfl⟩ hroom) hS (fun H locs hP hS => ?_)
  refine lv_iload hx hb dL_law_1304 (lv_at hl 1 rfl) ?_
  refine lv_icmp_eq (tgt := 1311) hx hb dL_law_1306 (by decide) (fun _ => ?_) (fun z => absurd rfl z)
  refine lv_iload hx hb dL_law_1311 (lv_at hl 1 rfl) ?_
  refine lv_if_ne (tgt := 1328) hx hb dL_law_1313 (by decide) (fun _ => ?_) (fun ck => ?_)
  · refine lv_goto (tgt := 1999) hx hb dL_law_1328 (by decide) ?_
    exact next _ H locs _ e5 hP hS (lv_sub hl [2, 3, 4, 5, 6] rfl)
  · refine lv_aload_n hx hb dL_law_1316 rfl (lv_at hl 3 rfl) ?_
    refine lv_iconst (v := 0) hx hb dL_law_1317 rfl ?_
    refine hy_lald (T := (Mc1, N, Mo1)) hx hb hX hP rfl dL_law_1318 ?_
    refine lv_iload hx hb dL_law_1319 (lv_at hl 0 rfl) ?_
    refine lv_i2l hx hb dL_law_1321 rfl ?_
    refine W.lcmp hx hb dL_law_1322 ?_
    refine lv_if_eq (tgt := 1328) hx hb dL_law_1323 (by decide) (fun _ => ?_) (fun z => absurd (lgs (e4 ck)) z)
    refine lv_goto (tgt := 1999) hx hb dL_law_1328 (by decide) ?_
    exact next _ H locs _ e5 hP hS (lv_sub hl [2, 3, 4, 5, 6] rfl)
set_option maxHeartbeats 1000000 in
set_option maxRecDepth 100000 in
theorem lc_19 {p : Program} {l : Launch} {e : Env} {s : State} {m : MethodId} {below : List Frame} {meth : Method} {c : Code} {G : hyG} {T : hyT} {H : Heap} {locs : List Loc} {cells slots b L : Nat} {xs : Nat → Int32} {i : Int32} {Q : State → Prop} {ls : Array Slot} (CX : lcx p l s m c G b L xs) (hv : liv i L) (hI : INV T) (hP : va_P G.1 vwCl (wld G T) H) (hS : va_S (hyA G) s.heap H locs) (hl : lv_has ls 9 (lvb b G i)) (hroom : cells + 1 ≤ room_1.cells ∧ slots + 6 * 1 ≤ room_1.slots) (next : lnx p l e s m below meth c G b i cells slots Q) : W p l e room_1 s m #[Value.ref b] below meth c H locs cells slots Q (F0 m 1331 ls []) := by
  obtain ⟨hx, hb, hml, hown, hts, hX, hN, hXs, hbl, hbA, hlt⟩ := CX
  obtain ⟨hv1, hv2, hv3, hv4, hv5⟩ := hv
  obtain ⟨T0a, T0b, T0c⟩ := T
  have hl : lv_has ls 9 [(4, .int i), (3, .ref (adr G 51)), (2, .ref (adr G 30)), (1, .ref (adr G 0)), (0, .ref b)] := hl
  refine lv_aload_n hx hb dL_law_1331 rfl (lv_at hl 3 rfl) ?_
  refine lv_aload_n hx hb dL_law_1332 rfl (lv_at hl 4 rfl) ?_
  refine lv_iload hx hb dL_law_1333 (lv_at hl 0 rfl) ?_
  refine lv_iconst (v := 1) hx hb dL_law_1335 rfl ?_
  refine lv_iadd hx hb dL_law_1336 ?_
  refine va_sld hx hb hXs hbl hbA hS hv1 dL_law_1337 ?_
  refine lv_aload_n hx hb dL_law_1338 rfl (lv_at hl 4 rfl) ?_
  refine lv_iload hx hb dL_law_1339 (lv_at hl 0 rfl) ?_
  refine lv_iconst (v := 2) hx hb dL_law_1341 rfl ?_
  refine lv_iadd hx hb dL_law_1342 ?_
  refine va_sld hx hb hXs hbl hbA hS hv2 dL_law_1343 ?_
  refine lv_aload_n hx hb dL_law_1344 rfl (lv_at hl 1 rfl) ?_
  obtain ⟨k, ⟨Mc1, Mr1, Mo1⟩, r, N, e1, e2, e3, e4, e5⟩ := s_heads hI (xs (i + 1).toNatClampNeg) (xs (i + 2).toNatClampNeg)
  dsimp only at e1 e2 e3 e4 e5
  refine hy_ret (hy_rSW2 (T := (T0a, T0b, T0c)) (v := some (.int k)) (T2 := (Mc1, Mr1, Mo1)) (As := [.ref (adr G 0), .int (xs (i + 1).toNatClampNeg), .int (xs (i + 2).toNatClampNeg), .ref (adr G 51)]) (rest := []) (n := 1) hx hb hml hown hts hX hN hP hS hl (c_La_heads hlt (xs (i + 1).toNatClampNeg) (xs (i + 2).toNatClampNeg) (T0a, T0b, T0c) e1) m_La_heads q_1123 rfl rfl (Nat.le_of_ble_eq_true rfl) dL_law_1345 ⟨Nat.le_of_ble_eq_true rfl, Nat.le_of_ble_eq_true rfl⟩ hroom) hS (fun H locs hP hS => ?_)
  refine lv_istore (lv' := [(5, .int k), (4, .int i), (3, .ref (adr G 51)), (2, .ref (adr G 30)), (1, .ref (adr G 0)), (0, .ref b)]) hx hb dL_law_1348 hl (by decide) rfl (fun ls hl => ?_)
  refine lv_aload_n hx hb dL_law_1350 rfl (lv_at hl 3 rfl) ?_
  refine lv_aload_n hx hb dL_law_1351 rfl (lv_at hl 5 rfl) ?_
  refine lv_iload hx hb dL_law_1352 (lv_at hl 1 rfl) ?_
  refine lv_iconst (v := 1) hx hb dL_law_1354 rfl ?_
  refine lv_iadd hx hb dL_law_1355 ?_
  refine va_sld hx hb hXs hbl hbA hS hv1 dL_law_1356 ?_
  refine lv_aload_n hx hb dL_law_1357 rfl (lv_at hl 5 rfl) ?_
  refine lv_iload hx hb dL_law_1358 (lv_at hl 1 rfl) ?_
  refine lv_iconst (v := 2) hx hb dL_law_1360 rfl ?_
  refine lv_iadd hx hb dL_law_1361 ?_
  refine va_sld hx hb hXs hbl hbA hS hv2 dL_law_1362 ?_
  refine hy_ret (hy_rV0 (T := (Mc1, Mr1, Mo1)) (v := some (.int r)) (T2 := (Mc1, N, Mo1)) (o := 30) (As := [.int (xs (i + 1).toNatClampNeg), .int (xs (i + 2).toNatClampNeg)]) (rest := []) (n := 0) hx hb hml hown hts hX hP hS hl (c_Rf_heads Mc1 Mo1 (xs (i + 1).toNatClampNeg) (xs (i + 2).toNatClampNeg) Mr1 (res := (r, N)) e2) m_Rf_heads q_1545 (hy_recv hX hP 30 10 (by decide) rfl rfl) rfl rfl (Nat.le_of_ble_eq_true rfl) dL_law_1363 ⟨Nat.le_of_ble_eq_true rfl, Nat.le_of_ble_eq_true rfl⟩ hroom) hS (fun H locs hP hS => ?_)
  refine lv_istore (lv' := [(6, .int r), (5, .int k), (4, .int i), (3, .ref (adr G 51)), (2, .ref (adr G 30)), (1, .ref (adr G 0)), (0, .ref b)]) hx hb dL_law_1366 hl (by decide) rfl (fun ls hl => ?_)
  refine lv_aload_n hx hb dL_law_1368 rfl (lv_at hl 4 rfl) ?_
  refine hy_ret (hy_rV0 (T := (Mc1, N, Mo1)) (v := some (.int k)) (T2 := (Mc1, N, Mo1)) (o := 30) (As := []) (rest := []) (n := 0) hx hb hml hown hts hX hP hS hl (c_Rf_thrown Mc1 Mo1 N (res := k) e3) m_Rf_thrown q_1302 (hy_recv hX hP 30 10 (by decide) rfl rfl) rfl rfl (Nat.le_of_ble_eq_true rfl) dL_law_1369 ⟨Nat.le_of_ble_eq_true rfl, Nat.le_of_ble_eq_true rfl⟩ hroom) hS (fun H locs hP hS => ?_)
  refine lv_iload hx hb dL_law_1372 (lv_at hl 1 rfl) ?_
  refine lv_icmp_eq (tgt := 1379) hx hb dL_law_1374 (by decide) (fun _ => ?_) (fun z => absurd rfl z)
  refine lv_iload hx hb dL_law_1379 (lv_at hl 1 rfl) ?_
  refine lv_if_ne (tgt := 1396) hx hb dL_law_1381 (by decide) (fun _ => ?_) (fun ck => ?_)
  · refine lv_goto (tgt := 1999) hx hb dL_law_1396 (by decide) ?_
    exact next _ H locs _ e5 hP hS (lv_sub hl [2, 3, 4, 5, 6] rfl)
  · refine lv_aload_n hx hb dL_law_1384 rfl (lv_at hl 3 rfl) ?_
    refine lv_iconst (v := 0) hx hb dL_law_1385 rfl ?_
    refine hy_lald (T := (Mc1, N, Mo1)) hx hb hX hP rfl dL_law_1386 ?_
    refine lv_iload hx hb dL_law_1387 (lv_at hl 0 rfl) ?_
    refine lv_i2l hx hb dL_law_1389 rfl ?_
    refine W.lcmp hx hb dL_law_1390 ?_
    refine lv_if_eq (tgt := 1396) hx hb dL_law_1391 (by decide) (fun _ => ?_) (fun z => absurd (lgs (e4 ck)) z)
    refine lv_goto (tgt := 1999) hx hb dL_law_1396 (by decide) ?_
    exact next _ H locs _ e5 hP hS (lv_sub hl [2, 3, 4, 5, 6] rfl)
set_option maxHeartbeats 1000000 in
set_option maxRecDepth 100000 in
theorem lc_20 {p : Program} {l : Launch} {e : Env} {s : State} {m : MethodId} {below : List Frame} {meth : Method} {c : Code} {G : hyG} {T : hyT} {H : Heap} {locs : List Loc} {cells slots b L : Nat} {xs : Nat → Int32} {i : Int32} {Q : State → Prop} {ls : Array Slot} (CX : lcx p l s m c G b L xs) (hv : liv i L) (hI : INV T) (hP : va_P G.1 vwCl (wld G T) H) (hS : va_S (hyA G) s.heap H locs) (hl : lv_has ls 9 (lvb b G i)) (hroom : cells + 1 ≤ room_1.cells ∧ slots + 6 * 1 ≤ room_1.slots) (next : lnx p l e s m below meth c G b i cells slots Q) : W p l e room_1 s m #[Value.ref b] below meth c H locs cells slots Q (F0 m 1399 ls []) := by
  obtain ⟨hx, hb, hml, hown, hts, hX, hN, hXs, hbl, hbA, hlt⟩ := CX
  obtain ⟨hv1, hv2, hv3, hv4, hv5⟩ := hv
  obtain ⟨T0a, T0b, T0c⟩ := T
  have hl : lv_has ls 9 [(4, .int i), (3, .ref (adr G 51)), (2, .ref (adr G 30)), (1, .ref (adr G 0)), (0, .ref b)] := hl
  refine lv_aload_n hx hb dL_law_1399 rfl (lv_at hl 3 rfl) ?_
  refine lv_aload_n hx hb dL_law_1400 rfl (lv_at hl 4 rfl) ?_
  refine lv_iload hx hb dL_law_1401 (lv_at hl 0 rfl) ?_
  refine lv_iconst (v := 1) hx hb dL_law_1403 rfl ?_
  refine lv_iadd hx hb dL_law_1404 ?_
  refine va_sld hx hb hXs hbl hbA hS hv1 dL_law_1405 ?_
  refine lv_aload_n hx hb dL_law_1406 rfl (lv_at hl 4 rfl) ?_
  refine lv_iload hx hb dL_law_1407 (lv_at hl 0 rfl) ?_
  refine lv_iconst (v := 2) hx hb dL_law_1409 rfl ?_
  refine lv_iadd hx hb dL_law_1410 ?_
  refine va_sld hx hb hXs hbl hbA hS hv2 dL_law_1411 ?_
  refine lv_aload_n hx hb dL_law_1412 rfl (lv_at hl 1 rfl) ?_
  obtain ⟨k, ⟨Mc1, Mr1, Mo1⟩, r, N, e1, e2, e3, e4, e5⟩ := s_phrase hI (xs (i + 1).toNatClampNeg) (xs (i + 2).toNatClampNeg)
  dsimp only at e1 e2 e3 e4 e5
  refine hy_ret (hy_rSW2 (T := (T0a, T0b, T0c)) (v := some (.int k)) (T2 := (Mc1, Mr1, Mo1)) (As := [.ref (adr G 0), .int (xs (i + 1).toNatClampNeg), .int (xs (i + 2).toNatClampNeg), .ref (adr G 51)]) (rest := []) (n := 1) hx hb hml hown hts hX hN hP hS hl (c_La_phrase hlt (xs (i + 1).toNatClampNeg) (xs (i + 2).toNatClampNeg) (T0a, T0b, T0c) e1) m_La_phrase q_1130 rfl rfl (Nat.le_of_ble_eq_true rfl) dL_law_1413 ⟨Nat.le_of_ble_eq_true rfl, Nat.le_of_ble_eq_true rfl⟩ hroom) hS (fun H locs hP hS => ?_)
  refine lv_istore (lv' := [(5, .int k), (4, .int i), (3, .ref (adr G 51)), (2, .ref (adr G 30)), (1, .ref (adr G 0)), (0, .ref b)]) hx hb dL_law_1416 hl (by decide) rfl (fun ls hl => ?_)
  refine lv_aload_n hx hb dL_law_1418 rfl (lv_at hl 3 rfl) ?_
  refine lv_aload_n hx hb dL_law_1419 rfl (lv_at hl 5 rfl) ?_
  refine lv_iload hx hb dL_law_1420 (lv_at hl 1 rfl) ?_
  refine lv_iconst (v := 1) hx hb dL_law_1422 rfl ?_
  refine lv_iadd hx hb dL_law_1423 ?_
  refine va_sld hx hb hXs hbl hbA hS hv1 dL_law_1424 ?_
  refine lv_aload_n hx hb dL_law_1425 rfl (lv_at hl 5 rfl) ?_
  refine lv_iload hx hb dL_law_1426 (lv_at hl 1 rfl) ?_
  refine lv_iconst (v := 2) hx hb dL_law_1428 rfl ?_
  refine lv_iadd hx hb dL_law_1429 ?_
  refine va_sld hx hb hXs hbl hbA hS hv2 dL_law_1430 ?_
  refine hy_ret (hy_rV0 (T := (Mc1, Mr1, Mo1)) (v := some (.int r)) (T2 := (Mc1, N, Mo1)) (o := 30) (As := [.int (xs (i + 1).toNatClampNeg), .int (xs (i + 2).toNatClampNeg)]) (rest := []) (n := 0) hx hb hml hown hts hX hP hS hl (c_Rf_phrase Mc1 Mo1 (xs (i + 1).toNatClampNeg) (xs (i + 2).toNatClampNeg) Mr1 (res := (r, N)) e2) m_Rf_phrase q_1553 (hy_recv hX hP 30 10 (by decide) rfl rfl) rfl rfl (Nat.le_of_ble_eq_true rfl) dL_law_1431 ⟨Nat.le_of_ble_eq_true rfl, Nat.le_of_ble_eq_true rfl⟩ hroom) hS (fun H locs hP hS => ?_)
  refine lv_istore (lv' := [(6, .int r), (5, .int k), (4, .int i), (3, .ref (adr G 51)), (2, .ref (adr G 30)), (1, .ref (adr G 0)), (0, .ref b)]) hx hb dL_law_1434 hl (by decide) rfl (fun ls hl => ?_)
  refine lv_aload_n hx hb dL_law_1436 rfl (lv_at hl 4 rfl) ?_
  refine hy_ret (hy_rV0 (T := (Mc1, N, Mo1)) (v := some (.int k)) (T2 := (Mc1, N, Mo1)) (o := 30) (As := []) (rest := []) (n := 0) hx hb hml hown hts hX hP hS hl (c_Rf_thrown Mc1 Mo1 N (res := k) e3) m_Rf_thrown q_1302 (hy_recv hX hP 30 10 (by decide) rfl rfl) rfl rfl (Nat.le_of_ble_eq_true rfl) dL_law_1437 ⟨Nat.le_of_ble_eq_true rfl, Nat.le_of_ble_eq_true rfl⟩ hroom) hS (fun H locs hP hS => ?_)
  refine lv_iload hx hb dL_law_1440 (lv_at hl 1 rfl) ?_
  refine lv_icmp_eq (tgt := 1447) hx hb dL_law_1442 (by decide) (fun _ => ?_) (fun z => absurd rfl z)
  refine lv_iload hx hb dL_law_1447 (lv_at hl 1 rfl) ?_
  refine lv_if_ne (tgt := 1464) hx hb dL_law_1449 (by decide) (fun _ => ?_) (fun ck => ?_)
  · refine lv_goto (tgt := 1999) hx hb dL_law_1464 (by decide) ?_
    exact next _ H locs _ e5 hP hS (lv_sub hl [2, 3, 4, 5, 6] rfl)
  · refine lv_aload_n hx hb dL_law_1452 rfl (lv_at hl 3 rfl) ?_
    refine lv_iconst (v := 0) hx hb dL_law_1453 rfl ?_
    refine hy_lald (T := (Mc1, N, Mo1)) hx hb hX hP rfl dL_law_1454 ?_
    refine lv_iload hx hb dL_law_1455 (lv_at hl 0 rfl) ?_
    refine lv_i2l hx hb dL_law_1457 rfl ?_
    refine W.lcmp hx hb dL_law_1458 ?_
    refine lv_if_eq (tgt := 1464) hx hb dL_law_1459 (by decide) (fun _ => ?_) (fun z => absurd (lgs (e4 ck)) z)
    refine lv_goto (tgt := 1999) hx hb dL_law_1464 (by decide) ?_
    exact next _ H locs _ e5 hP hS (lv_sub hl [2, 3, 4, 5, 6] rfl)
set_option maxHeartbeats 1000000 in
set_option maxRecDepth 100000 in
theorem lc_21 {p : Program} {l : Launch} {e : Env} {s : State} {m : MethodId} {below : List Frame} {meth : Method} {c : Code} {G : hyG} {T : hyT} {H : Heap} {locs : List Loc} {cells slots b L : Nat} {xs : Nat → Int32} {i : Int32} {Q : State → Prop} {ls : Array Slot} (CX : lcx p l s m c G b L xs) (hv : liv i L) (hI : INV T) (hP : va_P G.1 vwCl (wld G T) H) (hS : va_S (hyA G) s.heap H locs) (hl : lv_has ls 9 (lvb b G i)) (hroom : cells + 1 ≤ room_1.cells ∧ slots + 6 * 1 ≤ room_1.slots) (next : lnx p l e s m below meth c G b i cells slots Q) : W p l e room_1 s m #[Value.ref b] below meth c H locs cells slots Q (F0 m 1467 ls []) := by
  obtain ⟨hx, hb, hml, hown, hts, hX, hN, hXs, hbl, hbA, hlt⟩ := CX
  obtain ⟨hv1, hv2, hv3, hv4, hv5⟩ := hv
  obtain ⟨T0a, T0b, T0c⟩ := T
  have hl : lv_has ls 9 [(4, .int i), (3, .ref (adr G 51)), (2, .ref (adr G 30)), (1, .ref (adr G 0)), (0, .ref b)] := hl
  refine lv_aload_n hx hb dL_law_1467 rfl (lv_at hl 3 rfl) ?_
  refine lv_aload_n hx hb dL_law_1468 rfl (lv_at hl 4 rfl) ?_
  refine lv_iload hx hb dL_law_1469 (lv_at hl 0 rfl) ?_
  refine lv_iconst (v := 1) hx hb dL_law_1471 rfl ?_
  refine lv_iadd hx hb dL_law_1472 ?_
  refine va_sld hx hb hXs hbl hbA hS hv1 dL_law_1473 ?_
  refine lv_aload_n hx hb dL_law_1474 rfl (lv_at hl 1 rfl) ?_
  obtain ⟨k, ⟨Mc1, Mr1, Mo1⟩, r, N, e1, e2, e3, e4, e5⟩ := s_sung hI (xs (i + 1).toNatClampNeg)
  dsimp only at e1 e2 e3 e4 e5
  refine hy_ret (hy_rSW2 (T := (T0a, T0b, T0c)) (v := some (.int k)) (T2 := (Mc1, Mr1, Mo1)) (As := [.ref (adr G 0), .int (xs (i + 1).toNatClampNeg), .ref (adr G 51)]) (rest := []) (n := 1) hx hb hml hown hts hX hN hP hS hl (c_La_sung hlt (xs (i + 1).toNatClampNeg) (T0a, T0b, T0c) e1) m_La_sung q_1137 rfl rfl (Nat.le_of_ble_eq_true rfl) dL_law_1475 ⟨Nat.le_of_ble_eq_true rfl, Nat.le_of_ble_eq_true rfl⟩ hroom) hS (fun H locs hP hS => ?_)
  refine lv_istore (lv' := [(5, .int k), (4, .int i), (3, .ref (adr G 51)), (2, .ref (adr G 30)), (1, .ref (adr G 0)), (0, .ref b)]) hx hb dL_law_1478 hl (by decide) rfl (fun ls hl => ?_)
  refine lv_aload_n hx hb dL_law_1480 rfl (lv_at hl 3 rfl) ?_
  refine lv_aload_n hx hb dL_law_1481 rfl (lv_at hl 5 rfl) ?_
  refine lv_iload hx hb dL_law_1482 (lv_at hl 1 rfl) ?_
  refine lv_iconst (v := 1) hx hb dL_law_1484 rfl ?_
  refine lv_iadd hx hb dL_law_1485 ?_
  refine va_sld hx hb hXs hbl hbA hS hv1 dL_law_1486 ?_
  refine hy_ret (hy_rV0 (T := (Mc1, Mr1, Mo1)) (v := some (.int r)) (T2 := (Mc1, N, Mo1)) (o := 30) (As := [.int (xs (i + 1).toNatClampNeg)]) (rest := []) (n := 0) hx hb hml hown hts hX hP hS hl (c_Rf_sung Mc1 Mo1 (xs (i + 1).toNatClampNeg) Mr1 (res := (r, N)) e2) m_Rf_sung q_1569 (hy_recv hX hP 30 10 (by decide) rfl rfl) rfl rfl (Nat.le_of_ble_eq_true rfl) dL_law_1487 ⟨Nat.le_of_ble_eq_true rfl, Nat.le_of_ble_eq_true rfl⟩ hroom) hS (fun H locs hP hS => ?_)
  refine lv_istore (lv' := [(6, .int r), (5, .int k), (4, .int i), (3, .ref (adr G 51)), (2, .ref (adr G 30)), (1, .ref (adr G 0)), (0, .ref b)]) hx hb dL_law_1490 hl (by decide) rfl (fun ls hl => ?_)
  refine lv_aload_n hx hb dL_law_1492 rfl (lv_at hl 4 rfl) ?_
  refine hy_ret (hy_rV0 (T := (Mc1, N, Mo1)) (v := some (.int k)) (T2 := (Mc1, N, Mo1)) (o := 30) (As := []) (rest := []) (n := 0) hx hb hml hown hts hX hP hS hl (c_Rf_thrown Mc1 Mo1 N (res := k) e3) m_Rf_thrown q_1302 (hy_recv hX hP 30 10 (by decide) rfl rfl) rfl rfl (Nat.le_of_ble_eq_true rfl) dL_law_1493 ⟨Nat.le_of_ble_eq_true rfl, Nat.le_of_ble_eq_true rfl⟩ hroom) hS (fun H locs hP hS => ?_)
  refine lv_iload hx hb dL_law_1496 (lv_at hl 1 rfl) ?_
  refine lv_icmp_eq (tgt := 1503) hx hb dL_law_1498 (by decide) (fun _ => ?_) (fun z => absurd rfl z)
  refine lv_iload hx hb dL_law_1503 (lv_at hl 1 rfl) ?_
  refine lv_if_ne (tgt := 1520) hx hb dL_law_1505 (by decide) (fun _ => ?_) (fun ck => ?_)
  · refine lv_goto (tgt := 1999) hx hb dL_law_1520 (by decide) ?_
    exact next _ H locs _ e5 hP hS (lv_sub hl [2, 3, 4, 5, 6] rfl)
  · refine lv_aload_n hx hb dL_law_1508 rfl (lv_at hl 3 rfl) ?_
    refine lv_iconst (v := 0) hx hb dL_law_1509 rfl ?_
    refine hy_lald (T := (Mc1, N, Mo1)) hx hb hX hP rfl dL_law_1510 ?_
    refine lv_iload hx hb dL_law_1511 (lv_at hl 0 rfl) ?_
    refine lv_i2l hx hb dL_law_1513 rfl ?_
    refine W.lcmp hx hb dL_law_1514 ?_
    refine lv_if_eq (tgt := 1520) hx hb dL_law_1515 (by decide) (fun _ => ?_) (fun z => absurd (lgs (e4 ck)) z)
    refine lv_goto (tgt := 1999) hx hb dL_law_1520 (by decide) ?_
    exact next _ H locs _ e5 hP hS (lv_sub hl [2, 3, 4, 5, 6] rfl)
set_option maxHeartbeats 1000000 in
set_option maxRecDepth 100000 in
theorem lc_22 {p : Program} {l : Launch} {e : Env} {s : State} {m : MethodId} {below : List Frame} {meth : Method} {c : Code} {G : hyG} {T : hyT} {H : Heap} {locs : List Loc} {cells slots b L : Nat} {xs : Nat → Int32} {i : Int32} {Q : State → Prop} {ls : Array Slot} (CX : lcx p l s m c G b L xs) (hv : liv i L) (hI : INV T) (hP : va_P G.1 vwCl (wld G T) H) (hS : va_S (hyA G) s.heap H locs) (hl : lv_has ls 9 (lvb b G i)) (hroom : cells + 1 ≤ room_1.cells ∧ slots + 6 * 1 ≤ room_1.slots) (next : lnx p l e s m below meth c G b i cells slots Q) : W p l e room_1 s m #[Value.ref b] below meth c H locs cells slots Q (F0 m 1523 ls []) := by
  obtain ⟨hx, hb, hml, hown, hts, hX, hN, hXs, hbl, hbA, hlt⟩ := CX
  obtain ⟨hv1, hv2, hv3, hv4, hv5⟩ := hv
  obtain ⟨T0a, T0b, T0c⟩ := T
  have hl : lv_has ls 9 [(4, .int i), (3, .ref (adr G 51)), (2, .ref (adr G 30)), (1, .ref (adr G 0)), (0, .ref b)] := hl
  refine lv_aload_n hx hb dL_law_1523 rfl (lv_at hl 3 rfl) ?_
  refine lv_aload_n hx hb dL_law_1524 rfl (lv_at hl 4 rfl) ?_
  refine lv_iload hx hb dL_law_1525 (lv_at hl 0 rfl) ?_
  refine lv_iconst (v := 1) hx hb dL_law_1527 rfl ?_
  refine lv_iadd hx hb dL_law_1528 ?_
  refine va_sld hx hb hXs hbl hbA hS hv1 dL_law_1529 ?_
  refine lv_aload_n hx hb dL_law_1530 rfl (lv_at hl 1 rfl) ?_
  obtain ⟨k, ⟨Mc1, Mr1, Mo1⟩, r, N, e1, e2, e3, e4, e5⟩ := s_fit hI (xs (i + 1).toNatClampNeg)
  dsimp only at e1 e2 e3 e4 e5
  refine hy_ret (hy_rSW2 (T := (T0a, T0b, T0c)) (v := some (.int k)) (T2 := (Mc1, Mr1, Mo1)) (As := [.ref (adr G 0), .int (xs (i + 1).toNatClampNeg), .ref (adr G 51)]) (rest := []) (n := 1) hx hb hml hown hts hX hN hP hS hl (c_La_fit hlt (xs (i + 1).toNatClampNeg) (T0a, T0b, T0c) e1) m_La_fit q_1144 rfl rfl (Nat.le_of_ble_eq_true rfl) dL_law_1531 ⟨Nat.le_of_ble_eq_true rfl, Nat.le_of_ble_eq_true rfl⟩ hroom) hS (fun H locs hP hS => ?_)
  refine lv_istore (lv' := [(5, .int k), (4, .int i), (3, .ref (adr G 51)), (2, .ref (adr G 30)), (1, .ref (adr G 0)), (0, .ref b)]) hx hb dL_law_1534 hl (by decide) rfl (fun ls hl => ?_)
  refine lv_aload_n hx hb dL_law_1536 rfl (lv_at hl 3 rfl) ?_
  refine lv_aload_n hx hb dL_law_1537 rfl (lv_at hl 5 rfl) ?_
  refine lv_iload hx hb dL_law_1538 (lv_at hl 1 rfl) ?_
  refine lv_iconst (v := 1) hx hb dL_law_1540 rfl ?_
  refine lv_iadd hx hb dL_law_1541 ?_
  refine va_sld hx hb hXs hbl hbA hS hv1 dL_law_1542 ?_
  refine hy_ret (hy_rV0 (T := (Mc1, Mr1, Mo1)) (v := some (.int r)) (T2 := (Mc1, N, Mo1)) (o := 30) (As := [.int (xs (i + 1).toNatClampNeg)]) (rest := []) (n := 0) hx hb hml hown hts hX hP hS hl (c_Rf_fit Mc1 Mo1 (xs (i + 1).toNatClampNeg) Mr1 (res := (r, N)) e2) m_Rf_fit q_1573 (hy_recv hX hP 30 10 (by decide) rfl rfl) rfl rfl (Nat.le_of_ble_eq_true rfl) dL_law_1543 ⟨Nat.le_of_ble_eq_true rfl, Nat.le_of_ble_eq_true rfl⟩ hroom) hS (fun H locs hP hS => ?_)
  refine lv_istore (lv' := [(6, .int r), (5, .int k), (4, .int i), (3, .ref (adr G 51)), (2, .ref (adr G 30)), (1, .ref (adr G 0)), (0, .ref b)]) hx hb dL_law_1546 hl (by decide) rfl (fun ls hl => ?_)
  refine lv_aload_n hx hb dL_law_1548 rfl (lv_at hl 4 rfl) ?_
  refine hy_ret (hy_rV0 (T := (Mc1, N, Mo1)) (v := some (.int k)) (T2 := (Mc1, N, Mo1)) (o := 30) (As := []) (rest := []) (n := 0) hx hb hml hown hts hX hP hS hl (c_Rf_thrown Mc1 Mo1 N (res := k) e3) m_Rf_thrown q_1302 (hy_recv hX hP 30 10 (by decide) rfl rfl) rfl rfl (Nat.le_of_ble_eq_true rfl) dL_law_1549 ⟨Nat.le_of_ble_eq_true rfl, Nat.le_of_ble_eq_true rfl⟩ hroom) hS (fun H locs hP hS => ?_)
  refine lv_iload hx hb dL_law_1552 (lv_at hl 1 rfl) ?_
  refine lv_icmp_eq (tgt := 1559) hx hb dL_law_1554 (by decide) (fun _ => ?_) (fun z => absurd rfl z)
  refine lv_iload hx hb dL_law_1559 (lv_at hl 1 rfl) ?_
  refine lv_if_ne (tgt := 1576) hx hb dL_law_1561 (by decide) (fun _ => ?_) (fun ck => ?_)
  · refine lv_goto (tgt := 1999) hx hb dL_law_1576 (by decide) ?_
    exact next _ H locs _ e5 hP hS (lv_sub hl [2, 3, 4, 5, 6] rfl)
  · refine lv_aload_n hx hb dL_law_1564 rfl (lv_at hl 3 rfl) ?_
    refine lv_iconst (v := 0) hx hb dL_law_1565 rfl ?_
    refine hy_lald (T := (Mc1, N, Mo1)) hx hb hX hP rfl dL_law_1566 ?_
    refine lv_iload hx hb dL_law_1567 (lv_at hl 0 rfl) ?_
    refine lv_i2l hx hb dL_law_1569 rfl ?_
    refine W.lcmp hx hb dL_law_1570 ?_
    refine lv_if_eq (tgt := 1576) hx hb dL_law_1571 (by decide) (fun _ => ?_) (fun z => absurd (lgs (e4 ck)) z)
    refine lv_goto (tgt := 1999) hx hb dL_law_1576 (by decide) ?_
    exact next _ H locs _ e5 hP hS (lv_sub hl [2, 3, 4, 5, 6] rfl)
set_option maxHeartbeats 1000000 in
set_option maxRecDepth 100000 in
theorem lc_23 {p : Program} {l : Launch} {e : Env} {s : State} {m : MethodId} {below : List Frame} {meth : Method} {c : Code} {G : hyG} {T : hyT} {H : Heap} {locs : List Loc} {cells slots b L : Nat} {xs : Nat → Int32} {i : Int32} {Q : State → Prop} {ls : Array Slot} (CX : lcx p l s m c G b L xs) (hv : liv i L) (hI : INV T) (hP : va_P G.1 vwCl (wld G T) H) (hS : va_S (hyA G) s.heap H locs) (hl : lv_has ls 9 (lvb b G i)) (hroom : cells + 1 ≤ room_1.cells ∧ slots + 6 * 1 ≤ room_1.slots) (next : lnx p l e s m below meth c G b i cells slots Q) : W p l e room_1 s m #[Value.ref b] below meth c H locs cells slots Q (F0 m 1579 ls []) := by
  obtain ⟨hx, hb, hml, hown, hts, hX, hN, hXs, hbl, hbA, hlt⟩ := CX
  obtain ⟨hv1, hv2, hv3, hv4, hv5⟩ := hv
  obtain ⟨T0a, T0b, T0c⟩ := T
  have hl : lv_has ls 9 [(4, .int i), (3, .ref (adr G 51)), (2, .ref (adr G 30)), (1, .ref (adr G 0)), (0, .ref b)] := hl
  refine lv_aload_n hx hb dL_law_1579 rfl (lv_at hl 3 rfl) ?_
  refine lv_aload_n hx hb dL_law_1580 rfl (lv_at hl 4 rfl) ?_
  refine lv_iload hx hb dL_law_1581 (lv_at hl 0 rfl) ?_
  refine lv_iconst (v := 1) hx hb dL_law_1583 rfl ?_
  refine lv_iadd hx hb dL_law_1584 ?_
  refine va_sld hx hb hXs hbl hbA hS hv1 dL_law_1585 ?_
  refine lv_aload_n hx hb dL_law_1586 rfl (lv_at hl 4 rfl) ?_
  refine lv_iload hx hb dL_law_1587 (lv_at hl 0 rfl) ?_
  refine lv_iconst (v := 2) hx hb dL_law_1589 rfl ?_
  refine lv_iadd hx hb dL_law_1590 ?_
  refine va_sld hx hb hXs hbl hbA hS hv2 dL_law_1591 ?_
  refine lv_aload_n hx hb dL_law_1592 rfl (lv_at hl 4 rfl) ?_
  refine lv_iload hx hb dL_law_1593 (lv_at hl 0 rfl) ?_
  refine lv_iconst (v := 3) hx hb dL_law_1595 rfl ?_
  refine lv_iadd hx hb dL_law_1596 ?_
  refine va_sld hx hb hXs hbl hbA hS hv3 dL_law_1597 ?_
  refine lv_aload_n hx hb dL_law_1598 rfl (lv_at hl 1 rfl) ?_
  obtain ⟨k, ⟨Mc1, Mr1, Mo1⟩, r, N, e1, e2, e3, e4, e5⟩ := s_line hI (xs (i + 1).toNatClampNeg) (xs (i + 2).toNatClampNeg) (xs (i + 3).toNatClampNeg)
  dsimp only at e1 e2 e3 e4 e5
  refine hy_ret (hy_rSW2 (T := (T0a, T0b, T0c)) (v := some (.int k)) (T2 := (Mc1, Mr1, Mo1)) (As := [.ref (adr G 0), .int (xs (i + 1).toNatClampNeg), .int (xs (i + 2).toNatClampNeg), .int (xs (i + 3).toNatClampNeg), .ref (adr G 51)]) (rest := []) (n := 1) hx hb hml hown hts hX hN hP hS hl (c_La_line hlt (xs (i + 1).toNatClampNeg) (xs (i + 2).toNatClampNeg) (xs (i + 3).toNatClampNeg) (T0a, T0b, T0c) e1) m_La_line q_1151 rfl rfl (Nat.le_of_ble_eq_true rfl) dL_law_1599 ⟨Nat.le_of_ble_eq_true rfl, Nat.le_of_ble_eq_true rfl⟩ hroom) hS (fun H locs hP hS => ?_)
  refine lv_istore (lv' := [(5, .int k), (4, .int i), (3, .ref (adr G 51)), (2, .ref (adr G 30)), (1, .ref (adr G 0)), (0, .ref b)]) hx hb dL_law_1602 hl (by decide) rfl (fun ls hl => ?_)
  refine lv_aload_n hx hb dL_law_1604 rfl (lv_at hl 3 rfl) ?_
  refine lv_aload_n hx hb dL_law_1605 rfl (lv_at hl 5 rfl) ?_
  refine lv_iload hx hb dL_law_1606 (lv_at hl 1 rfl) ?_
  refine lv_iconst (v := 1) hx hb dL_law_1608 rfl ?_
  refine lv_iadd hx hb dL_law_1609 ?_
  refine va_sld hx hb hXs hbl hbA hS hv1 dL_law_1610 ?_
  refine lv_aload_n hx hb dL_law_1611 rfl (lv_at hl 5 rfl) ?_
  refine lv_iload hx hb dL_law_1612 (lv_at hl 1 rfl) ?_
  refine lv_iconst (v := 2) hx hb dL_law_1614 rfl ?_
  refine lv_iadd hx hb dL_law_1615 ?_
  refine va_sld hx hb hXs hbl hbA hS hv2 dL_law_1616 ?_
  refine lv_aload_n hx hb dL_law_1617 rfl (lv_at hl 5 rfl) ?_
  refine lv_iload hx hb dL_law_1618 (lv_at hl 1 rfl) ?_
  refine lv_iconst (v := 3) hx hb dL_law_1620 rfl ?_
  refine lv_iadd hx hb dL_law_1621 ?_
  refine va_sld hx hb hXs hbl hbA hS hv3 dL_law_1622 ?_
  refine hy_ret (hy_rV0 (T := (Mc1, Mr1, Mo1)) (v := some (.int r)) (T2 := (Mc1, N, Mo1)) (o := 30) (As := [.int (xs (i + 1).toNatClampNeg), .int (xs (i + 2).toNatClampNeg), .int (xs (i + 3).toNatClampNeg)]) (rest := []) (n := 0) hx hb hml hown hts hX hP hS hl (c_Rf_line Mc1 Mo1 (xs (i + 1).toNatClampNeg) (xs (i + 2).toNatClampNeg) (xs (i + 3).toNatClampNeg) Mr1 (res := (r, N)) e2) m_Rf_line q_1581 (hy_recv hX hP 30 10 (by decide) rfl rfl) rfl rfl (Nat.le_of_ble_eq_true rfl) dL_law_1623 ⟨Nat.le_of_ble_eq_true rfl, Nat.le_of_ble_eq_true rfl⟩ hroom) hS (fun H locs hP hS => ?_)
  refine lv_istore (lv' := [(6, .int r), (5, .int k), (4, .int i), (3, .ref (adr G 51)), (2, .ref (adr G 30)), (1, .ref (adr G 0)), (0, .ref b)]) hx hb dL_law_1626 hl (by decide) rfl (fun ls hl => ?_)
  refine lv_aload_n hx hb dL_law_1628 rfl (lv_at hl 4 rfl) ?_
  refine hy_ret (hy_rV0 (T := (Mc1, N, Mo1)) (v := some (.int k)) (T2 := (Mc1, N, Mo1)) (o := 30) (As := []) (rest := []) (n := 0) hx hb hml hown hts hX hP hS hl (c_Rf_thrown Mc1 Mo1 N (res := k) e3) m_Rf_thrown q_1302 (hy_recv hX hP 30 10 (by decide) rfl rfl) rfl rfl (Nat.le_of_ble_eq_true rfl) dL_law_1629 ⟨Nat.le_of_ble_eq_true rfl, Nat.le_of_ble_eq_true rfl⟩ hroom) hS (fun H locs hP hS => ?_)
  refine lv_iload hx hb dL_law_1632 (lv_at hl 1 rfl) ?_
  refine lv_icmp_eq (tgt := 1639) hx hb dL_law_1634 (by decide) (fun _ => ?_) (fun z => absurd rfl z)
  refine lv_iload hx hb dL_law_1639 (lv_at hl 1 rfl) ?_
  refine lv_if_ne (tgt := 1656) hx hb dL_law_1641 (by decide) (fun _ => ?_) (fun ck => ?_)
  · refine lv_goto (tgt := 1999) hx hb dL_law_1656 (by decide) ?_
    exact next _ H locs _ e5 hP hS (lv_sub hl [2, 3, 4, 5, 6] rfl)
  · refine lv_aload_n hx hb dL_law_1644 rfl (lv_at hl 3 rfl) ?_
    refine lv_iconst (v := 0) hx hb dL_law_1645 rfl ?_
    refine hy_lald (T := (Mc1, N, Mo1)) hx hb hX hP rfl dL_law_1646 ?_
    refine lv_iload hx hb dL_law_1647 (lv_at hl 0 rfl) ?_
    refine lv_i2l hx hb dL_law_1649 rfl ?_
    refine W.lcmp hx hb dL_law_1650 ?_
    refine lv_if_eq (tgt := 1656) hx hb dL_law_1651 (by decide) (fun _ => ?_) (fun z => absurd (lgs (e4 ck)) z)
    refine lv_goto (tgt := 1999) hx hb dL_law_1656 (by decide) ?_
    exact next _ H locs _ e5 hP hS (lv_sub hl [2, 3, 4, 5, 6] rfl)
set_option maxHeartbeats 1000000 in
set_option maxRecDepth 100000 in
theorem lc_24 {p : Program} {l : Launch} {e : Env} {s : State} {m : MethodId} {below : List Frame} {meth : Method} {c : Code} {G : hyG} {T : hyT} {H : Heap} {locs : List Loc} {cells slots b L : Nat} {xs : Nat → Int32} {i : Int32} {Q : State → Prop} {ls : Array Slot} (CX : lcx p l s m c G b L xs) (hv : liv i L) (hI : INV T) (hP : va_P G.1 vwCl (wld G T) H) (hS : va_S (hyA G) s.heap H locs) (hl : lv_has ls 9 (lvb b G i)) (hroom : cells + 1 ≤ room_1.cells ∧ slots + 6 * 1 ≤ room_1.slots) (next : lnx p l e s m below meth c G b i cells slots Q) : W p l e room_1 s m #[Value.ref b] below meth c H locs cells slots Q (F0 m 1659 ls []) := by
  obtain ⟨hx, hb, hml, hown, hts, hX, hN, hXs, hbl, hbA, hlt⟩ := CX
  obtain ⟨hv1, hv2, hv3, hv4, hv5⟩ := hv
  obtain ⟨T0a, T0b, T0c⟩ := T
  have hl : lv_has ls 9 [(4, .int i), (3, .ref (adr G 51)), (2, .ref (adr G 30)), (1, .ref (adr G 0)), (0, .ref b)] := hl
  refine lv_aload_n hx hb dL_law_1659 rfl (lv_at hl 3 rfl) ?_
  refine lv_aload_n hx hb dL_law_1660 rfl (lv_at hl 4 rfl) ?_
  refine lv_iload hx hb dL_law_1661 (lv_at hl 0 rfl) ?_
  refine lv_iconst (v := 1) hx hb dL_law_1663 rfl ?_
  refine lv_iadd hx hb dL_law_1664 ?_
  refine va_sld hx hb hXs hbl hbA hS hv1 dL_law_1665 ?_
  refine lv_aload_n hx hb dL_law_1666 rfl (lv_at hl 4 rfl) ?_
  refine lv_iload hx hb dL_law_1667 (lv_at hl 0 rfl) ?_
  refine lv_iconst (v := 2) hx hb dL_law_1669 rfl ?_
  refine lv_iadd hx hb dL_law_1670 ?_
  refine va_sld hx hb hXs hbl hbA hS hv2 dL_law_1671 ?_
  refine lv_aload_n hx hb dL_law_1672 rfl (lv_at hl 4 rfl) ?_
  refine lv_iload hx hb dL_law_1673 (lv_at hl 0 rfl) ?_
  refine lv_iconst (v := 3) hx hb dL_law_1675 rfl ?_
  refine lv_iadd hx hb dL_law_1676 ?_
  refine va_sld hx hb hXs hbl hbA hS hv3 dL_law_1677 ?_
  refine lv_aload_n hx hb dL_law_1678 rfl (lv_at hl 4 rfl) ?_
  refine lv_iload hx hb dL_law_1679 (lv_at hl 0 rfl) ?_
  refine lv_iconst (v := 4) hx hb dL_law_1681 rfl ?_
  refine lv_iadd hx hb dL_law_1682 ?_
  refine va_sld hx hb hXs hbl hbA hS hv4 dL_law_1683 ?_
  refine lv_aload_n hx hb dL_law_1684 rfl (lv_at hl 1 rfl) ?_
  obtain ⟨k, ⟨Mc1, Mr1, Mo1⟩, r, N, e1, e2, e3, e4, e5⟩ := s_below hI (xs (i + 1).toNatClampNeg) (xs (i + 2).toNatClampNeg) (xs (i + 3).toNatClampNeg) (xs (i + 4).toNatClampNeg)
  dsimp only at e1 e2 e3 e4 e5
  refine hy_ret (hy_rSW2 (T := (T0a, T0b, T0c)) (v := some (.int k)) (T2 := (Mc1, Mr1, Mo1)) (As := [.ref (adr G 0), .int (xs (i + 1).toNatClampNeg), .int (xs (i + 2).toNatClampNeg), .int (xs (i + 3).toNatClampNeg), .int (xs (i + 4).toNatClampNeg), .ref (adr G 51)]) (rest := []) (n := 1) hx hb hml hown hts hX hN hP hS hl (c_La_below hlt (xs (i + 1).toNatClampNeg) (xs (i + 2).toNatClampNeg) (xs (i + 3).toNatClampNeg) (xs (i + 4).toNatClampNeg) (T0a, T0b, T0c) e1) m_La_below q_1158 rfl rfl (Nat.le_of_ble_eq_true rfl) dL_law_1685 ⟨Nat.le_of_ble_eq_true rfl, Nat.le_of_ble_eq_true rfl⟩ hroom) hS (fun H locs hP hS => ?_)
  refine lv_istore (lv' := [(5, .int k), (4, .int i), (3, .ref (adr G 51)), (2, .ref (adr G 30)), (1, .ref (adr G 0)), (0, .ref b)]) hx hb dL_law_1688 hl (by decide) rfl (fun ls hl => ?_)
  refine lv_aload_n hx hb dL_law_1690 rfl (lv_at hl 3 rfl) ?_
  refine lv_aload_n hx hb dL_law_1691 rfl (lv_at hl 5 rfl) ?_
  refine lv_iload hx hb dL_law_1692 (lv_at hl 1 rfl) ?_
  refine lv_iconst (v := 1) hx hb dL_law_1694 rfl ?_
  refine lv_iadd hx hb dL_law_1695 ?_
  refine va_sld hx hb hXs hbl hbA hS hv1 dL_law_1696 ?_
  refine lv_aload_n hx hb dL_law_1697 rfl (lv_at hl 5 rfl) ?_
  refine lv_iload hx hb dL_law_1698 (lv_at hl 1 rfl) ?_
  refine lv_iconst (v := 2) hx hb dL_law_1700 rfl ?_
  refine lv_iadd hx hb dL_law_1701 ?_
  refine va_sld hx hb hXs hbl hbA hS hv2 dL_law_1702 ?_
  refine lv_aload_n hx hb dL_law_1703 rfl (lv_at hl 5 rfl) ?_
  refine lv_iload hx hb dL_law_1704 (lv_at hl 1 rfl) ?_
  refine lv_iconst (v := 3) hx hb dL_law_1706 rfl ?_
  refine lv_iadd hx hb dL_law_1707 ?_
  refine va_sld hx hb hXs hbl hbA hS hv3 dL_law_1708 ?_
  refine lv_aload_n hx hb dL_law_1709 rfl (lv_at hl 5 rfl) ?_
  refine lv_iload hx hb dL_law_1710 (lv_at hl 1 rfl) ?_
  refine lv_iconst (v := 4) hx hb dL_law_1712 rfl ?_
  refine lv_iadd hx hb dL_law_1713 ?_
  refine va_sld hx hb hXs hbl hbA hS hv4 dL_law_1714 ?_
  refine hy_ret (hy_rV0 (T := (Mc1, Mr1, Mo1)) (v := some (.int r)) (T2 := (Mc1, N, Mo1)) (o := 30) (As := [.int (xs (i + 1).toNatClampNeg), .int (xs (i + 2).toNatClampNeg), .int (xs (i + 3).toNatClampNeg), .int (xs (i + 4).toNatClampNeg)]) (rest := []) (n := 0) hx hb hml hown hts hX hP hS hl (c_Rf_below Mc1 Mo1 (xs (i + 1).toNatClampNeg) (xs (i + 2).toNatClampNeg) (xs (i + 3).toNatClampNeg) (xs (i + 4).toNatClampNeg) Mr1 (res := (r, N)) e2) m_Rf_below q_1593 (hy_recv hX hP 30 10 (by decide) rfl rfl) rfl rfl (Nat.le_of_ble_eq_true rfl) dL_law_1715 ⟨Nat.le_of_ble_eq_true rfl, Nat.le_of_ble_eq_true rfl⟩ hroom) hS (fun H locs hP hS => ?_)
  refine lv_istore (lv' := [(6, .int r), (5, .int k), (4, .int i), (3, .ref (adr G 51)), (2, .ref (adr G 30)), (1, .ref (adr G 0)), (0, .ref b)]) hx hb dL_law_1718 hl (by decide) rfl (fun ls hl => ?_)
  refine lv_aload_n hx hb dL_law_1720 rfl (lv_at hl 4 rfl) ?_
  refine hy_ret (hy_rV0 (T := (Mc1, N, Mo1)) (v := some (.int k)) (T2 := (Mc1, N, Mo1)) (o := 30) (As := []) (rest := []) (n := 0) hx hb hml hown hts hX hP hS hl (c_Rf_thrown Mc1 Mo1 N (res := k) e3) m_Rf_thrown q_1302 (hy_recv hX hP 30 10 (by decide) rfl rfl) rfl rfl (Nat.le_of_ble_eq_true rfl) dL_law_1721 ⟨Nat.le_of_ble_eq_true rfl, Nat.le_of_ble_eq_true rfl⟩ hroom) hS (fun H locs hP hS => ?_)
  refine lv_iload hx hb dL_law_1724 (lv_at hl 1 rfl) ?_
  refine lv_icmp_eq (tgt := 1731) hx hb dL_law_1726 (by decide) (fun _ => ?_) (fun z => absurd rfl z)
  refine lv_iload hx hb dL_law_1731 (lv_at hl 1 rfl) ?_
  refine lv_if_ne (tgt := 1748) hx hb dL_law_1733 (by decide) (fun _ => ?_) (fun ck => ?_)
  · refine lv_goto (tgt := 1999) hx hb dL_law_1748 (by decide) ?_
    exact next _ H locs _ e5 hP hS (lv_sub hl [2, 3, 4, 5, 6] rfl)
  · refine lv_aload_n hx hb dL_law_1736 rfl (lv_at hl 3 rfl) ?_
    refine lv_iconst (v := 0) hx hb dL_law_1737 rfl ?_
    refine hy_lald (T := (Mc1, N, Mo1)) hx hb hX hP rfl dL_law_1738 ?_
    refine lv_iload hx hb dL_law_1739 (lv_at hl 0 rfl) ?_
    refine lv_i2l hx hb dL_law_1741 rfl ?_
    refine W.lcmp hx hb dL_law_1742 ?_
    refine lv_if_eq (tgt := 1748) hx hb dL_law_1743 (by decide) (fun _ => ?_) (fun z => absurd (lgs (e4 ck)) z)
    refine lv_goto (tgt := 1999) hx hb dL_law_1748 (by decide) ?_
    exact next _ H locs _ e5 hP hS (lv_sub hl [2, 3, 4, 5, 6] rfl)
set_option maxHeartbeats 1000000 in
set_option maxRecDepth 100000 in
theorem lc_25 {p : Program} {l : Launch} {e : Env} {s : State} {m : MethodId} {below : List Frame} {meth : Method} {c : Code} {G : hyG} {T : hyT} {H : Heap} {locs : List Loc} {cells slots b L : Nat} {xs : Nat → Int32} {i : Int32} {Q : State → Prop} {ls : Array Slot} (CX : lcx p l s m c G b L xs) (hv : liv i L) (hI : INV T) (hP : va_P G.1 vwCl (wld G T) H) (hS : va_S (hyA G) s.heap H locs) (hl : lv_has ls 9 (lvb b G i)) (hroom : cells + 1 ≤ room_1.cells ∧ slots + 6 * 1 ≤ room_1.slots) (next : lnx p l e s m below meth c G b i cells slots Q) : W p l e room_1 s m #[Value.ref b] below meth c H locs cells slots Q (F0 m 1751 ls []) := by
  obtain ⟨hx, hb, hml, hown, hts, hX, hN, hXs, hbl, hbA, hlt⟩ := CX
  obtain ⟨hv1, hv2, hv3, hv4, hv5⟩ := hv
  obtain ⟨T0a, T0b, T0c⟩ := T
  have hl : lv_has ls 9 [(4, .int i), (3, .ref (adr G 51)), (2, .ref (adr G 30)), (1, .ref (adr G 0)), (0, .ref b)] := hl
  refine lv_aload_n hx hb dL_law_1751 rfl (lv_at hl 3 rfl) ?_
  refine lv_aload_n hx hb dL_law_1752 rfl (lv_at hl 4 rfl) ?_
  refine lv_iload hx hb dL_law_1753 (lv_at hl 0 rfl) ?_
  refine lv_iconst (v := 1) hx hb dL_law_1755 rfl ?_
  refine lv_iadd hx hb dL_law_1756 ?_
  refine va_sld hx hb hXs hbl hbA hS hv1 dL_law_1757 ?_
  refine lv_aload_n hx hb dL_law_1758 rfl (lv_at hl 1 rfl) ?_
  obtain ⟨k, ⟨Mc1, Mr1, Mo1⟩, r, N, e1, e2, e3, e4, e5⟩ := s_distance hI (xs (i + 1).toNatClampNeg)
  dsimp only at e1 e2 e3 e4 e5
  refine hy_ret (hy_rSW2 (T := (T0a, T0b, T0c)) (v := some (.int k)) (T2 := (Mc1, Mr1, Mo1)) (As := [.ref (adr G 0), .int (xs (i + 1).toNatClampNeg), .ref (adr G 51)]) (rest := []) (n := 1) hx hb hml hown hts hX hN hP hS hl (c_La_distance hlt (xs (i + 1).toNatClampNeg) (T0a, T0b, T0c) e1) m_La_distance q_1165 rfl rfl (Nat.le_of_ble_eq_true rfl) dL_law_1759 ⟨Nat.le_of_ble_eq_true rfl, Nat.le_of_ble_eq_true rfl⟩ hroom) hS (fun H locs hP hS => ?_)
  refine lv_istore (lv' := [(5, .int k), (4, .int i), (3, .ref (adr G 51)), (2, .ref (adr G 30)), (1, .ref (adr G 0)), (0, .ref b)]) hx hb dL_law_1762 hl (by decide) rfl (fun ls hl => ?_)
  refine lv_aload_n hx hb dL_law_1764 rfl (lv_at hl 3 rfl) ?_
  refine lv_aload_n hx hb dL_law_1765 rfl (lv_at hl 5 rfl) ?_
  refine lv_iload hx hb dL_law_1766 (lv_at hl 1 rfl) ?_
  refine lv_iconst (v := 1) hx hb dL_law_1768 rfl ?_
  refine lv_iadd hx hb dL_law_1769 ?_
  refine va_sld hx hb hXs hbl hbA hS hv1 dL_law_1770 ?_
  refine hy_ret (hy_rV0 (T := (Mc1, Mr1, Mo1)) (v := some (.int r)) (T2 := (Mc1, N, Mo1)) (o := 30) (As := [.int (xs (i + 1).toNatClampNeg)]) (rest := []) (n := 0) hx hb hml hown hts hX hP hS hl (c_Rf_distance Mc1 Mo1 (xs (i + 1).toNatClampNeg) Mr1 (res := (r, N)) e2) m_Rf_distance q_1601 (hy_recv hX hP 30 10 (by decide) rfl rfl) rfl rfl (Nat.le_of_ble_eq_true rfl) dL_law_1771 ⟨Nat.le_of_ble_eq_true rfl, Nat.le_of_ble_eq_true rfl⟩ hroom) hS (fun H locs hP hS => ?_)
  refine lv_istore (lv' := [(6, .int r), (5, .int k), (4, .int i), (3, .ref (adr G 51)), (2, .ref (adr G 30)), (1, .ref (adr G 0)), (0, .ref b)]) hx hb dL_law_1774 hl (by decide) rfl (fun ls hl => ?_)
  refine lv_aload_n hx hb dL_law_1776 rfl (lv_at hl 4 rfl) ?_
  refine hy_ret (hy_rV0 (T := (Mc1, N, Mo1)) (v := some (.int k)) (T2 := (Mc1, N, Mo1)) (o := 30) (As := []) (rest := []) (n := 0) hx hb hml hown hts hX hP hS hl (c_Rf_thrown Mc1 Mo1 N (res := k) e3) m_Rf_thrown q_1302 (hy_recv hX hP 30 10 (by decide) rfl rfl) rfl rfl (Nat.le_of_ble_eq_true rfl) dL_law_1777 ⟨Nat.le_of_ble_eq_true rfl, Nat.le_of_ble_eq_true rfl⟩ hroom) hS (fun H locs hP hS => ?_)
  refine lv_iload hx hb dL_law_1780 (lv_at hl 1 rfl) ?_
  refine lv_icmp_eq (tgt := 1787) hx hb dL_law_1782 (by decide) (fun _ => ?_) (fun z => absurd rfl z)
  refine lv_iload hx hb dL_law_1787 (lv_at hl 1 rfl) ?_
  refine lv_if_ne (tgt := 1804) hx hb dL_law_1789 (by decide) (fun _ => ?_) (fun ck => ?_)
  · refine lv_goto (tgt := 1999) hx hb dL_law_1804 (by decide) ?_
    exact next _ H locs _ e5 hP hS (lv_sub hl [2, 3, 4, 5, 6] rfl)
  · refine lv_aload_n hx hb dL_law_1792 rfl (lv_at hl 3 rfl) ?_
    refine lv_iconst (v := 0) hx hb dL_law_1793 rfl ?_
    refine hy_lald (T := (Mc1, N, Mo1)) hx hb hX hP rfl dL_law_1794 ?_
    refine lv_iload hx hb dL_law_1795 (lv_at hl 0 rfl) ?_
    refine lv_i2l hx hb dL_law_1797 rfl ?_
    refine W.lcmp hx hb dL_law_1798 ?_
    refine lv_if_eq (tgt := 1804) hx hb dL_law_1799 (by decide) (fun _ => ?_) (fun z => absurd (lgs (e4 ck)) z)
    refine lv_goto (tgt := 1999) hx hb dL_law_1804 (by decide) ?_
    exact next _ H locs _ e5 hP hS (lv_sub hl [2, 3, 4, 5, 6] rfl)
set_option maxHeartbeats 1000000 in
set_option maxRecDepth 100000 in
theorem lc_26 {p : Program} {l : Launch} {e : Env} {s : State} {m : MethodId} {below : List Frame} {meth : Method} {c : Code} {G : hyG} {T : hyT} {H : Heap} {locs : List Loc} {cells slots b L : Nat} {xs : Nat → Int32} {i : Int32} {Q : State → Prop} {ls : Array Slot} (CX : lcx p l s m c G b L xs) (hv : liv i L) (hI : INV T) (hP : va_P G.1 vwCl (wld G T) H) (hS : va_S (hyA G) s.heap H locs) (hl : lv_has ls 9 (lvb b G i)) (hroom : cells + 1 ≤ room_1.cells ∧ slots + 6 * 1 ≤ room_1.slots) (next : lnx p l e s m below meth c G b i cells slots Q) : W p l e room_1 s m #[Value.ref b] below meth c H locs cells slots Q (F0 m 1807 ls []) := by
  obtain ⟨hx, hb, hml, hown, hts, hX, hN, hXs, hbl, hbA, hlt⟩ := CX
  obtain ⟨hv1, hv2, hv3, hv4, hv5⟩ := hv
  obtain ⟨T0a, T0b, T0c⟩ := T
  have hl : lv_has ls 9 [(4, .int i), (3, .ref (adr G 51)), (2, .ref (adr G 30)), (1, .ref (adr G 0)), (0, .ref b)] := hl
  refine lv_aload_n hx hb dL_law_1807 rfl (lv_at hl 3 rfl) ?_
  obtain ⟨v, N, e1, e2, e5⟩ := s_nearest hI
  dsimp only at e1 e2 e5
  refine hy_ret (hy_rV0 (T := (T0a, T0b, T0c)) (v := some (.int v)) (T2 := (T0a, T0b, T0c)) (o := 0) (As := []) (rest := []) (n := 0) hx hb hml hown hts hX hP hS hl (c_Hp_nearest T0b T0c  T0a (res := v) e1) m_Hp_nearest q_562 (hy_recv hX hP 0 9 (by decide) rfl rfl) rfl rfl (Nat.le_of_ble_eq_true rfl) dL_law_1808 ⟨Nat.le_of_ble_eq_true rfl, Nat.le_of_ble_eq_true rfl⟩ ⟨Nat.le_trans (Nat.le_succ _) hroom.1, Nat.le_trans (Nat.le_add_right _ 6) hroom.2⟩) hS (fun H locs hP hS => ?_)
  refine lv_aload_n hx hb dL_law_1811 rfl (lv_at hl 2 rfl) ?_
  refine hy_ret (hy_rV0 (T := (T0a, T0b, T0c)) (v := some (.int v)) (T2 := (T0a, N, T0c)) (o := 30) (As := []) (rest := [.int v]) (n := 0) hx hb hml hown hts hX hP hS hl (c_Rf_nearest T0a T0c  T0b (res := (v, N)) e2) m_Rf_nearest q_1609 (hy_recv hX hP 30 10 (by decide) rfl rfl) rfl rfl (Nat.le_of_ble_eq_true rfl) dL_law_1812 ⟨Nat.le_of_ble_eq_true rfl, Nat.le_of_ble_eq_true rfl⟩ ⟨Nat.le_trans (Nat.le_succ _) hroom.1, Nat.le_trans (Nat.le_add_right _ 6) hroom.2⟩) hS (fun H locs hP hS => ?_)
  refine lv_icmp_eq (tgt := 1999) hx hb dL_law_1815 (by decide) (fun _ => ?_) (fun z => absurd rfl z)
  refine W.widen (k := cells + 1) (n := slots + 6 * 1) (by omega) (by omega) ?_
  exact next _ H locs _ e5 hP hS (lv_sub hl [0, 1, 2, 3, 4] rfl)
set_option maxHeartbeats 1000000 in
set_option maxRecDepth 100000 in
theorem lc_27 {p : Program} {l : Launch} {e : Env} {s : State} {m : MethodId} {below : List Frame} {meth : Method} {c : Code} {G : hyG} {T : hyT} {H : Heap} {locs : List Loc} {cells slots b L : Nat} {xs : Nat → Int32} {i : Int32} {Q : State → Prop} {ls : Array Slot} (CX : lcx p l s m c G b L xs) (hv : liv i L) (hI : INV T) (hP : va_P G.1 vwCl (wld G T) H) (hS : va_S (hyA G) s.heap H locs) (hl : lv_has ls 9 (lvb b G i)) (hroom : cells + 1 ≤ room_1.cells ∧ slots + 6 * 1 ≤ room_1.slots) (next : lnx p l e s m below meth c G b i cells slots Q) : W p l e room_1 s m #[Value.ref b] below meth c H locs cells slots Q (F0 m 1820 ls []) := by
  obtain ⟨hx, hb, hml, hown, hts, hX, hN, hXs, hbl, hbA, hlt⟩ := CX
  obtain ⟨hv1, hv2, hv3, hv4, hv5⟩ := hv
  obtain ⟨T0a, T0b, T0c⟩ := T
  have hl : lv_has ls 9 [(4, .int i), (3, .ref (adr G 51)), (2, .ref (adr G 30)), (1, .ref (adr G 0)), (0, .ref b)] := hl
  refine lv_aload_n hx hb dL_law_1820 rfl (lv_at hl 3 rfl) ?_
  refine lv_aload_n hx hb dL_law_1821 rfl (lv_at hl 4 rfl) ?_
  refine lv_iload hx hb dL_law_1822 (lv_at hl 0 rfl) ?_
  refine lv_iconst (v := 1) hx hb dL_law_1824 rfl ?_
  refine lv_iadd hx hb dL_law_1825 ?_
  refine va_sld hx hb hXs hbl hbA hS hv1 dL_law_1826 ?_
  refine lv_aload_n hx hb dL_law_1827 rfl (lv_at hl 4 rfl) ?_
  refine lv_iload hx hb dL_law_1828 (lv_at hl 0 rfl) ?_
  refine lv_iconst (v := 2) hx hb dL_law_1830 rfl ?_
  refine lv_iadd hx hb dL_law_1831 ?_
  refine va_sld hx hb hXs hbl hbA hS hv2 dL_law_1832 ?_
  refine lv_aload_n hx hb dL_law_1833 rfl (lv_at hl 1 rfl) ?_
  obtain ⟨k, ⟨Mc1, Mr1, Mo1⟩, r, N, e1, e2, e3, e4, e5⟩ := s_metre hI (xs (i + 1).toNatClampNeg) (xs (i + 2).toNatClampNeg)
  dsimp only at e1 e2 e3 e4 e5
  refine hy_ret (hy_rSW2 (T := (T0a, T0b, T0c)) (v := some (.int k)) (T2 := (Mc1, Mr1, Mo1)) (As := [.ref (adr G 0), .int (xs (i + 1).toNatClampNeg), .int (xs (i + 2).toNatClampNeg), .ref (adr G 51)]) (rest := []) (n := 1) hx hb hml hown hts hX hN hP hS hl (c_La_metre hlt (xs (i + 1).toNatClampNeg) (xs (i + 2).toNatClampNeg) (T0a, T0b, T0c) e1) m_La_metre q_1172 rfl rfl (Nat.le_of_ble_eq_true rfl) dL_law_1834 ⟨Nat.le_of_ble_eq_true rfl, Nat.le_of_ble_eq_true rfl⟩ hroom) hS (fun H locs hP hS => ?_)
  refine lv_istore (lv' := [(5, .int k), (4, .int i), (3, .ref (adr G 51)), (2, .ref (adr G 30)), (1, .ref (adr G 0)), (0, .ref b)]) hx hb dL_law_1837 hl (by decide) rfl (fun ls hl => ?_)
  refine lv_aload_n hx hb dL_law_1839 rfl (lv_at hl 3 rfl) ?_
  refine lv_aload_n hx hb dL_law_1840 rfl (lv_at hl 5 rfl) ?_
  refine lv_iload hx hb dL_law_1841 (lv_at hl 1 rfl) ?_
  refine lv_iconst (v := 1) hx hb dL_law_1843 rfl ?_
  refine lv_iadd hx hb dL_law_1844 ?_
  refine va_sld hx hb hXs hbl hbA hS hv1 dL_law_1845 ?_
  refine lv_aload_n hx hb dL_law_1846 rfl (lv_at hl 5 rfl) ?_
  refine lv_iload hx hb dL_law_1847 (lv_at hl 1 rfl) ?_
  refine lv_iconst (v := 2) hx hb dL_law_1849 rfl ?_
  refine lv_iadd hx hb dL_law_1850 ?_
  refine va_sld hx hb hXs hbl hbA hS hv2 dL_law_1851 ?_
  refine hy_ret (hy_rV0 (T := (Mc1, Mr1, Mo1)) (v := some (.int r)) (T2 := (Mc1, N, Mo1)) (o := 30) (As := [.int (xs (i + 1).toNatClampNeg), .int (xs (i + 2).toNatClampNeg)]) (rest := []) (n := 0) hx hb hml hown hts hX hP hS hl (c_Rf_metre Mc1 Mo1 (xs (i + 1).toNatClampNeg) (xs (i + 2).toNatClampNeg) Mr1 (res := (r, N)) e2) m_Rf_metre q_1617 (hy_recv hX hP 30 10 (by decide) rfl rfl) rfl rfl (Nat.le_of_ble_eq_true rfl) dL_law_1852 ⟨Nat.le_of_ble_eq_true rfl, Nat.le_of_ble_eq_true rfl⟩ hroom) hS (fun H locs hP hS => ?_)
  refine lv_istore (lv' := [(6, .int r), (5, .int k), (4, .int i), (3, .ref (adr G 51)), (2, .ref (adr G 30)), (1, .ref (adr G 0)), (0, .ref b)]) hx hb dL_law_1855 hl (by decide) rfl (fun ls hl => ?_)
  refine lv_aload_n hx hb dL_law_1857 rfl (lv_at hl 4 rfl) ?_
  refine hy_ret (hy_rV0 (T := (Mc1, N, Mo1)) (v := some (.int k)) (T2 := (Mc1, N, Mo1)) (o := 30) (As := []) (rest := []) (n := 0) hx hb hml hown hts hX hP hS hl (c_Rf_thrown Mc1 Mo1 N (res := k) e3) m_Rf_thrown q_1302 (hy_recv hX hP 30 10 (by decide) rfl rfl) rfl rfl (Nat.le_of_ble_eq_true rfl) dL_law_1858 ⟨Nat.le_of_ble_eq_true rfl, Nat.le_of_ble_eq_true rfl⟩ hroom) hS (fun H locs hP hS => ?_)
  refine lv_iload hx hb dL_law_1861 (lv_at hl 1 rfl) ?_
  refine lv_icmp_eq (tgt := 1868) hx hb dL_law_1863 (by decide) (fun _ => ?_) (fun z => absurd rfl z)
  refine lv_iload hx hb dL_law_1868 (lv_at hl 1 rfl) ?_
  refine lv_if_ne (tgt := 1885) hx hb dL_law_1870 (by decide) (fun _ => ?_) (fun ck => ?_)
  · refine lv_goto (tgt := 1999) hx hb dL_law_1885 (by decide) ?_
    exact next _ H locs _ e5 hP hS (lv_sub hl [2, 3, 4, 5, 6] rfl)
  · refine lv_aload_n hx hb dL_law_1873 rfl (lv_at hl 3 rfl) ?_
    refine lv_iconst (v := 0) hx hb dL_law_1874 rfl ?_
    refine hy_lald (T := (Mc1, N, Mo1)) hx hb hX hP rfl dL_law_1875 ?_
    refine lv_iload hx hb dL_law_1876 (lv_at hl 0 rfl) ?_
    refine lv_i2l hx hb dL_law_1878 rfl ?_
    refine W.lcmp hx hb dL_law_1879 ?_
    refine lv_if_eq (tgt := 1885) hx hb dL_law_1880 (by decide) (fun _ => ?_) (fun z => absurd (lgs (e4 ck)) z)
    refine lv_goto (tgt := 1999) hx hb dL_law_1885 (by decide) ?_
    exact next _ H locs _ e5 hP hS (lv_sub hl [2, 3, 4, 5, 6] rfl)
set_option maxHeartbeats 1000000 in
set_option maxRecDepth 100000 in
theorem lc_28 {p : Program} {l : Launch} {e : Env} {s : State} {m : MethodId} {below : List Frame} {meth : Method} {c : Code} {G : hyG} {T : hyT} {H : Heap} {locs : List Loc} {cells slots b L : Nat} {xs : Nat → Int32} {i : Int32} {Q : State → Prop} {ls : Array Slot} (CX : lcx p l s m c G b L xs) (hv : liv i L) (hI : INV T) (hP : va_P G.1 vwCl (wld G T) H) (hS : va_S (hyA G) s.heap H locs) (hl : lv_has ls 9 (lvb b G i)) (hroom : cells + 1 ≤ room_1.cells ∧ slots + 6 * 1 ≤ room_1.slots) (next : lnx p l e s m below meth c G b i cells slots Q) : W p l e room_1 s m #[Value.ref b] below meth c H locs cells slots Q (F0 m 1888 ls []) := by
  obtain ⟨hx, hb, hml, hown, hts, hX, hN, hXs, hbl, hbA, hlt⟩ := CX
  obtain ⟨hv1, hv2, hv3, hv4, hv5⟩ := hv
  obtain ⟨T0a, T0b, T0c⟩ := T
  have hl : lv_has ls 9 [(4, .int i), (3, .ref (adr G 51)), (2, .ref (adr G 30)), (1, .ref (adr G 0)), (0, .ref b)] := hl
  refine lv_aload_n hx hb dL_law_1888 rfl (lv_at hl 3 rfl) ?_
  refine lv_aload_n hx hb dL_law_1889 rfl (lv_at hl 4 rfl) ?_
  refine lv_iload hx hb dL_law_1890 (lv_at hl 0 rfl) ?_
  refine lv_iconst (v := 1) hx hb dL_law_1892 rfl ?_
  refine lv_iadd hx hb dL_law_1893 ?_
  refine va_sld hx hb hXs hbl hbA hS hv1 dL_law_1894 ?_
  refine lv_aload_n hx hb dL_law_1895 rfl (lv_at hl 1 rfl) ?_
  obtain ⟨k, ⟨Mc1, Mr1, Mo1⟩, r, N, e1, e2, e3, e4, e5⟩ := s_count hI (xs (i + 1).toNatClampNeg)
  dsimp only at e1 e2 e3 e4 e5
  refine hy_ret (hy_rSW2 (T := (T0a, T0b, T0c)) (v := some (.int k)) (T2 := (Mc1, Mr1, Mo1)) (As := [.ref (adr G 0), .int (xs (i + 1).toNatClampNeg), .ref (adr G 51)]) (rest := []) (n := 1) hx hb hml hown hts hX hN hP hS hl (c_La_count hlt (xs (i + 1).toNatClampNeg) (T0a, T0b, T0c) e1) m_La_count q_1179 rfl rfl (Nat.le_of_ble_eq_true rfl) dL_law_1896 ⟨Nat.le_of_ble_eq_true rfl, Nat.le_of_ble_eq_true rfl⟩ hroom) hS (fun H locs hP hS => ?_)
  refine lv_istore (lv' := [(5, .int k), (4, .int i), (3, .ref (adr G 51)), (2, .ref (adr G 30)), (1, .ref (adr G 0)), (0, .ref b)]) hx hb dL_law_1899 hl (by decide) rfl (fun ls hl => ?_)
  refine lv_aload_n hx hb dL_law_1901 rfl (lv_at hl 3 rfl) ?_
  refine lv_aload_n hx hb dL_law_1902 rfl (lv_at hl 5 rfl) ?_
  refine lv_iload hx hb dL_law_1903 (lv_at hl 1 rfl) ?_
  refine lv_iconst (v := 1) hx hb dL_law_1905 rfl ?_
  refine lv_iadd hx hb dL_law_1906 ?_
  refine va_sld hx hb hXs hbl hbA hS hv1 dL_law_1907 ?_
  refine hy_ret (hy_rV0 (T := (Mc1, Mr1, Mo1)) (v := some (.int r)) (T2 := (Mc1, N, Mo1)) (o := 30) (As := [.int (xs (i + 1).toNatClampNeg)]) (rest := []) (n := 0) hx hb hml hown hts hX hP hS hl (c_Rf_count Mc1 Mo1 (xs (i + 1).toNatClampNeg) Mr1 (res := (r, N)) e2) m_Rf_count q_1621 (hy_recv hX hP 30 10 (by decide) rfl rfl) rfl rfl (Nat.le_of_ble_eq_true rfl) dL_law_1908 ⟨Nat.le_of_ble_eq_true rfl, Nat.le_of_ble_eq_true rfl⟩ hroom) hS (fun H locs hP hS => ?_)
  refine lv_istore (lv' := [(6, .int r), (5, .int k), (4, .int i), (3, .ref (adr G 51)), (2, .ref (adr G 30)), (1, .ref (adr G 0)), (0, .ref b)]) hx hb dL_law_1911 hl (by decide) rfl (fun ls hl => ?_)
  refine lv_aload_n hx hb dL_law_1913 rfl (lv_at hl 4 rfl) ?_
  refine hy_ret (hy_rV0 (T := (Mc1, N, Mo1)) (v := some (.int k)) (T2 := (Mc1, N, Mo1)) (o := 30) (As := []) (rest := []) (n := 0) hx hb hml hown hts hX hP hS hl (c_Rf_thrown Mc1 Mo1 N (res := k) e3) m_Rf_thrown q_1302 (hy_recv hX hP 30 10 (by decide) rfl rfl) rfl rfl (Nat.le_of_ble_eq_true rfl) dL_law_1914 ⟨Nat.le_of_ble_eq_true rfl, Nat.le_of_ble_eq_true rfl⟩ hroom) hS (fun H locs hP hS => ?_)
  refine lv_iload hx hb dL_law_1917 (lv_at hl 1 rfl) ?_
  refine lv_icmp_eq (tgt := 1924) hx hb dL_law_1919 (by decide) (fun _ => ?_) (fun z => absurd rfl z)
  refine lv_iload hx hb dL_law_1924 (lv_at hl 1 rfl) ?_
  refine lv_if_ne (tgt := 1941) hx hb dL_law_1926 (by decide) (fun _ => ?_) (fun ck => ?_)
  · refine lv_goto (tgt := 1999) hx hb dL_law_1941 (by decide) ?_
    exact next _ H locs _ e5 hP hS (lv_sub hl [2, 3, 4, 5, 6] rfl)
  · refine lv_aload_n hx hb dL_law_1929 rfl (lv_at hl 3 rfl) ?_
    refine lv_iconst (v := 0) hx hb dL_law_1930 rfl ?_
    refine hy_lald (T := (Mc1, N, Mo1)) hx hb hX hP rfl dL_law_1931 ?_
    refine lv_iload hx hb dL_law_1932 (lv_at hl 0 rfl) ?_
    refine lv_i2l hx hb dL_law_1934 rfl ?_
    refine W.lcmp hx hb dL_law_1935 ?_
    refine lv_if_eq (tgt := 1941) hx hb dL_law_1936 (by decide) (fun _ => ?_) (fun z => absurd (lgs (e4 ck)) z)
    refine lv_goto (tgt := 1999) hx hb dL_law_1941 (by decide) ?_
    exact next _ H locs _ e5 hP hS (lv_sub hl [2, 3, 4, 5, 6] rfl)
set_option maxHeartbeats 1000000 in
set_option maxRecDepth 100000 in
theorem lc_29 {p : Program} {l : Launch} {e : Env} {s : State} {m : MethodId} {below : List Frame} {meth : Method} {c : Code} {G : hyG} {T : hyT} {H : Heap} {locs : List Loc} {cells slots b L : Nat} {xs : Nat → Int32} {i : Int32} {Q : State → Prop} {ls : Array Slot} (CX : lcx p l s m c G b L xs) (hv : liv i L) (hI : INV T) (hP : va_P G.1 vwCl (wld G T) H) (hS : va_S (hyA G) s.heap H locs) (hl : lv_has ls 9 (lvb b G i)) (hroom : cells + 1 ≤ room_1.cells ∧ slots + 6 * 1 ≤ room_1.slots) (next : lnx p l e s m below meth c G b i cells slots Q) : W p l e room_1 s m #[Value.ref b] below meth c H locs cells slots Q (F0 m 1944 ls []) := by
  obtain ⟨hx, hb, hml, hown, hts, hX, hN, hXs, hbl, hbA, hlt⟩ := CX
  obtain ⟨hv1, hv2, hv3, hv4, hv5⟩ := hv
  obtain ⟨T0a, T0b, T0c⟩ := T
  have hl : lv_has ls 9 [(4, .int i), (3, .ref (adr G 51)), (2, .ref (adr G 30)), (1, .ref (adr G 0)), (0, .ref b)] := hl
  refine lv_aload_n hx hb dL_law_1944 rfl (lv_at hl 3 rfl) ?_
  obtain ⟨v, N, e1, e2, e5, e6⟩ := s_mean hI
  dsimp only at e1 e2 e5
  refine hy_ret (hy_rV0 (T := (T0a, T0b, T0c)) (v := some (.double v)) (T2 := (T0a, T0b, T0c)) (o := 0) (As := []) (rest := []) (n := 0) hx hb hml hown hts hX hP hS hl (c_Hp_meanWidth T0b T0c  T0a (res := v) e1) m_Hp_meanWidth q_588 (hy_recv hX hP 0 9 (by decide) rfl rfl) rfl rfl (Nat.le_of_ble_eq_true rfl) dL_law_1945 ⟨Nat.le_of_ble_eq_true rfl, Nat.le_of_ble_eq_true rfl⟩ ⟨Nat.le_trans (Nat.le_succ _) hroom.1, Nat.le_trans (Nat.le_add_right _ 6) hroom.2⟩) hS (fun H locs hP hS => ?_)
  refine lv_dstore (lv' := [(5, .double v), (4, .int i), (3, .ref (adr G 51)), (2, .ref (adr G 30)), (1, .ref (adr G 0)), (0, .ref b)]) hx hb dL_law_1948 hl (by decide) rfl (fun ls hl => ?_)
  refine lv_aload_n hx hb dL_law_1950 rfl (lv_at hl 3 rfl) ?_
  refine hy_ret (hy_rV0 (T := (T0a, T0b, T0c)) (v := some (.double v)) (T2 := (T0a, N, T0c)) (o := 30) (As := []) (rest := []) (n := 0) hx hb hml hown hts hX hP hS hl (c_Rf_meanWidth T0a T0c  T0b (res := (v, N)) e2) m_Rf_meanWidth q_1637 (hy_recv hX hP 30 10 (by decide) rfl rfl) rfl rfl (Nat.le_of_ble_eq_true rfl) dL_law_1951 ⟨Nat.le_of_ble_eq_true rfl, Nat.le_of_ble_eq_true rfl⟩ ⟨Nat.le_trans (Nat.le_succ _) hroom.1, Nat.le_trans (Nat.le_add_right _ 6) hroom.2⟩) hS (fun H locs hP hS => ?_)
  refine lv_dstore (lv' := [(7, .double v), (5, .double v), (4, .int i), (3, .ref (adr G 51)), (2, .ref (adr G 30)), (1, .ref (adr G 0)), (0, .ref b)]) hx hb dL_law_1954 hl (by decide) rfl (fun ls hl => ?_)
  refine lv_dload hx hb dL_law_1956 (lv_at hl 1 rfl) ?_
  refine lv_dload hx hb dL_law_1958 (lv_at hl 0 rfl) ?_
  refine lv_dcmp hx hb dL_law_1960 ?_
  refine lv_if_eq (tgt := 1982) hx hb dL_law_1961 (by decide) (fun _ => ?_) (fun z => absurd (hM_cmp e6) z)
  refine lv_goto (tgt := 1999) hx hb dL_law_1982 (by decide) ?_
  refine W.widen (k := cells + 1) (n := slots + 6 * 1) (by omega) (by omega) ?_
  exact next _ H locs _ e5 hP hS (lv_sub hl [2, 3, 4, 5, 6] rfl)
set_option maxHeartbeats 1000000 in
set_option maxRecDepth 100000 in
theorem lc_30 {p : Program} {l : Launch} {e : Env} {s : State} {m : MethodId} {below : List Frame} {meth : Method} {c : Code} {G : hyG} {T : hyT} {H : Heap} {locs : List Loc} {cells slots b L : Nat} {xs : Nat → Int32} {i : Int32} {Q : State → Prop} {ls : Array Slot} (CX : lcx p l s m c G b L xs) (hv : liv i L) (hI : INV T) (hP : va_P G.1 vwCl (wld G T) H) (hS : va_S (hyA G) s.heap H locs) (hl : lv_has ls 9 (lvb b G i)) (hroom : cells + 1 ≤ room_1.cells ∧ slots + 6 * 1 ≤ room_1.slots) (next : lnx p l e s m below meth c G b i cells slots Q) : W p l e room_1 s m #[Value.ref b] below meth c H locs cells slots Q (F0 m 1985 ls []) := by
  obtain ⟨hx, hb, hml, hown, hts, hX, hN, hXs, hbl, hbA, hlt⟩ := CX
  obtain ⟨hv1, hv2, hv3, hv4, hv5⟩ := hv
  obtain ⟨T0a, T0b, T0c⟩ := T
  have hl : lv_has ls 9 [(4, .int i), (3, .ref (adr G 51)), (2, .ref (adr G 30)), (1, .ref (adr G 0)), (0, .ref b)] := hl
  refine lv_aload_n hx hb dL_law_1985 rfl (lv_at hl 3 rfl) ?_
  obtain ⟨v, N, e1, e2, e5⟩ := s_digest hI
  dsimp only at e1 e2 e5
  refine hy_ret (hy_rV0 (T := (T0a, T0b, T0c)) (v := some (.long v)) (T2 := (T0a, T0b, T0c)) (o := 0) (As := []) (rest := []) (n := 0) hx hb hml hown hts hX hP hS hl (c_Hp_digest T0b T0c  T0a (res := v) e1) m_Hp_digest q_592 (hy_recv hX hP 0 9 (by decide) rfl rfl) rfl rfl (Nat.le_of_ble_eq_true rfl) dL_law_1986 ⟨Nat.le_of_ble_eq_true rfl, Nat.le_of_ble_eq_true rfl⟩ ⟨Nat.le_trans (Nat.le_succ _) hroom.1, Nat.le_trans (Nat.le_add_right _ 6) hroom.2⟩) hS (fun H locs hP hS => ?_)
  refine lv_aload_n hx hb dL_law_1989 rfl (lv_at hl 2 rfl) ?_
  refine hy_ret (hy_rV0 (T := (T0a, T0b, T0c)) (v := some (.long v)) (T2 := (T0a, N, T0c)) (o := 30) (As := []) (rest := [.long v]) (n := 0) hx hb hml hown hts hX hP hS hl (c_Rf_digest T0a T0c  T0b (res := (v, N)) e2) m_Rf_digest q_1645 (hy_recv hX hP 30 10 (by decide) rfl rfl) rfl rfl (Nat.le_of_ble_eq_true rfl) dL_law_1990 ⟨Nat.le_of_ble_eq_true rfl, Nat.le_of_ble_eq_true rfl⟩ ⟨Nat.le_trans (Nat.le_succ _) hroom.1, Nat.le_trans (Nat.le_add_right _ 6) hroom.2⟩) hS (fun H locs hP hS => ?_)
  refine W.lcmp hx hb dL_law_1993 ?_
  refine lv_if_eq (tgt := 1999) hx hb dL_law_1994 (by decide) (fun _ => ?_) (fun z => absurd (lgs rfl) z)
  refine W.widen (k := cells + 1) (n := slots + 6 * 1) (by omega) (by omega) ?_
  exact next _ H locs _ e5 hP hS (lv_sub hl [0, 1, 2, 3, 4] rfl)
