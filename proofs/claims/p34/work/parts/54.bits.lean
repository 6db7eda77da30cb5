/-! Bits of ints; the law's reading of a word; its numbers below a bound. -/
theorem n3_or (a b : Nat) : n3 a ||| n3 b = n3 (a ||| b) := by
  apply Int32.toBitVec_inj.1
  show BitVec.ofNat 32 a ||| BitVec.ofNat 32 b = BitVec.ofNat 32 (a ||| b)
  rw [BitVec.ofNat_or]
theorem n3_and (a b : Nat) : n3 a &&& n3 b = n3 (a &&& b) := by
  apply Int32.toBitVec_inj.1
  show BitVec.ofNat 32 a &&& BitVec.ofNat 32 b = BitVec.ofNat 32 (a &&& b)
  rw [BitVec.ofNat_and]
theorem sh_amt : ∀ k : Fin 32, ((n3 k.val &&& 31).toBitVec.smod 32).toNat = k.val := by decide +kernel
theorem n3_shr {a k : Nat} (ha : a < 2147483648) (hk : k < 32) : n3 a >>> (n3 k &&& 31) = n3 (a >>> k) := by
  apply Int32.toBitVec_inj.1
  show BitVec.sshiftRight' (BitVec.ofNat 32 a) ((n3 k &&& 31).toBitVec.smod 32) = BitVec.ofNat 32 (a >>> k)
  have e : BitVec.sshiftRight' (BitVec.ofNat 32 a) ((n3 k &&& 31).toBitVec.smod 32) = (BitVec.ofNat 32 a).sshiftRight k := by
    show (BitVec.ofNat 32 a).sshiftRight ((n3 k &&& 31).toBitVec.smod 32).toNat = _
    rw [sh_amt ⟨k, hk⟩]
  have hm : (BitVec.ofNat 32 a).msb = false := by
    rw [BitVec.msb_eq_false_iff_two_mul_lt, BitVec.toNat_ofNat, Nat.mod_eq_of_lt (by omega)]
    omega
  rw [e, BitVec.sshiftRight_eq_of_msb_false hm]
  apply BitVec.eq_of_toNat_eq
  have h2 : a >>> k ≤ a := Nat.shiftRight_le a k
  rw [BitVec.toNat_ushiftRight, BitVec.toNat_ofNat, BitVec.toNat_ofNat, Nat.mod_eq_of_lt (by omega), Nat.mod_eq_of_lt (by omega)]
theorem u32_n3 (y : UInt32) : y.toInt32 = n3 y.toNat := by
  have h : UInt32.ofNat y.toNat = y := UInt32.ofNat_toNat
  exact (congrArg UInt32.toInt32 h).symm
theorem iushr1 (x : Int32) : ∃ q, q < 2147483648 ∧ jiushr x 1 = n3 q := by
  refine ⟨(x.toUInt32 >>> ((1 : Int32).toUInt32 &&& Int32.toUInt32 31)).toNat, ?_, u32_n3 _⟩
  have h1 : ((1 : Int32).toUInt32 &&& Int32.toUInt32 31).toNat % 32 = 1 := by decide
  rw [UInt32.toNat_shiftRight, h1, Nat.shiftRight_eq_div_pow]
  have := x.toUInt32.toNat_lt
  omega
theorem at_ok (x : Int32) {m : Nat} (hm : 0 < m) (hm2 : m < 2147483648) (M : hyM) : ∃ r, r < m ∧ La_at x (n3 m) M = some (n3 r) := by
  obtain ⟨q, hq, e⟩ := iushr1 x
  refine ⟨q % m, Nat.mod_lt _ hm, ?_⟩
  rw [La_at, e, jrm_n3 hq hm2 hm, Option.bind_some]
/-- a note's word: four times its length, its end mark, its slur mark -/
abbrev nw (a b c : Nat) : Nat := 4 * a + 2 * b + c
theorem k_nw : ∀ a : Fin 9, ∀ b c : Fin 2, ((n3 (nw a.val b.val c.val) &&& 2 = 0) ↔ b.val = 0) ∧ ((n3 (nw a.val b.val c.val) &&& 1 = 1) ↔ c.val = 1) ∧ n3 (nw a.val b.val c.val) >>> ((2 : Int32) &&& 31) = n3 a.val ∧ n3 (nw a.val b.val c.val) ||| 2 = n3 (nw a.val 1 c.val) ∧ n3 (nw a.val b.val c.val) ||| 1 = n3 (nw a.val b.val 1) ∧ n3 (nw a.val b.val c.val) &&& (2 ^^^ (-1)) = n3 (nw a.val 0 c.val) ∧ n3 (nw a.val b.val c.val) &&& (1 ^^^ (-1)) = n3 (nw a.val b.val 0) := by decide +kernel
theorem nw_ok {a b c : Nat} (ha : a ≤ 8) (hb : b ≤ 1) (hc : c ≤ 1) : ((n3 (nw a b c) &&& 2 = 0) ↔ b = 0) ∧ ((n3 (nw a b c) &&& 1 = 1) ↔ c = 1) ∧ n3 (nw a b c) >>> ((2 : Int32) &&& 31) = n3 a ∧ n3 (nw a b c) ||| 2 = n3 (nw a 1 c) ∧ n3 (nw a b c) ||| 1 = n3 (nw a b 1) ∧ n3 (nw a b c) &&& (2 ^^^ (-1)) = n3 (nw a 0 c) ∧ n3 (nw a b c) &&& (1 ^^^ (-1)) = n3 (nw a b 0) := k_nw ⟨a, by omega⟩ ⟨b, by omega⟩ ⟨c, by omega⟩
/-! sizes and ends of syllables in a line's word -/
/-- the word of k syllables: sz their sizes, en whether a word ends there -/
def WB (W k : Nat) (sz : Nat → Nat) (en : Nat → Bool) : Prop := W < 1073741824 ∧ ∀ i, W.testBit i = if i < 24 then (decide (i / 4 < k) && (sz (i / 4)).testBit (i % 4)) else (decide (i - 24 < k) && en (i - 24))
theorem WB_0 (sz : Nat → Nat) (en : Nat → Bool) : WB 0 0 sz en := by
  refine ⟨by decide, fun i => ?_⟩
  rw [Nat.zero_testBit]
  split <;> simp
theorem WB_sz {W k : Nat} {sz : Nat → Nat} {en : Nat → Bool} (h : WB W k sz en) (hz : ∀ j, sz j < 16) {j : Nat} (hj : j < 6) : (W >>> (4 * j)) &&& 15 = if j < k then sz j else 0 := by
  apply Nat.eq_of_testBit_eq
  intro b
  rw [Nat.testBit_and, Nat.testBit_shiftRight, show (15 : Nat) = 2 ^ 4 - 1 from rfl, Nat.testBit_two_pow_sub_one]
  by_cases hb : b < 4
  · rw [h.2, if_pos (by omega), show (4 * j + b) / 4 = j by omega, show (4 * j + b) % 4 = b by omega, decide_eq_true hb, Bool.and_true]
    by_cases c : j < k
    · rw [if_pos c, decide_eq_true c, Bool.true_and]
    · rw [if_neg c, decide_eq_false c, Nat.zero_testBit, Bool.false_and]
  · rw [decide_eq_false hb, Bool.and_false]
    have hlt : (if j < k then sz j else 0) < 2 ^ b := by
      have h16 : (2 : Nat) ^ 4 ≤ 2 ^ b := Nat.pow_le_pow_right (by decide) (by omega)
      have := hz j
      split <;> omega
    rw [Nat.testBit_lt_two_pow hlt]
theorem WB_en {W k : Nat} {sz : Nat → Nat} {en : Nat → Bool} (h : WB W k sz en) {j : Nat} (hj : j < k) : (W >>> (24 + j)) &&& 1 = (en j).toNat := by
  rw [Nat.and_one_is_mod]
  have e := h.2 (24 + j)
  rw [if_neg (by omega), show 24 + j - 24 = j by omega, decide_eq_true hj, Bool.true_and, Nat.testBit_eq_decide_div_mod_eq] at e
  rw [Nat.shiftRight_eq_div_pow]
  cases z : en j with
  | true => rw [z, decide_eq_true_eq] at e; exact e
  | false =>
    rw [z, decide_eq_false_iff_not] at e
    have := Nat.mod_lt (W / 2 ^ (24 + j)) (show 0 < 2 by decide)
    show _ = 0
    omega
theorem WB_push {W k s : Nat} {b : Bool} {sz : Nat → Nat} {en : Nat → Bool} (h : WB W k sz en) (hk : k < 6) (hs : s < 16) :
    WB (W ||| ((s <<< (4 * k)) ||| (b.toNat <<< (24 + k)))) (k + 1) (updN sz k s) (fun j => if j = k then b else en j) := by
  have hb : b.toNat ≤ 1 := by cases b <;> decide
  refine ⟨?_, fun i => ?_⟩
  · have h30 : (1073741824 : Nat) = 2 ^ 30 := rfl
    rw [h30]
    have p1 : 2 ^ (4 * k) ≤ 2 ^ 20 := Nat.pow_le_pow_right (by decide) (by omega)
    have p2 : 2 ^ (24 + k) ≤ 2 ^ 29 := Nat.pow_le_pow_right (by decide) (by omega)
    refine Nat.or_lt_two_pow h.1 (Nat.or_lt_two_pow ?_ ?_)
    · rw [Nat.shiftLeft_eq]
      have : s * 2 ^ (4 * k) ≤ 15 * 2 ^ 20 := Nat.mul_le_mul (by omega) p1
      omega
    · rw [Nat.shiftLeft_eq]
      have : b.toNat * 2 ^ (24 + k) ≤ 1 * 2 ^ 29 := Nat.mul_le_mul hb p2
      omega
  · rw [Nat.testBit_or, Nat.testBit_or, Nat.testBit_shiftLeft, Nat.testBit_shiftLeft, h.2]
    have hsb : ∀ m, 4 ≤ m → s.testBit m = false := fun m hm => Nat.testBit_lt_two_pow (Nat.lt_of_lt_of_le hs (show (16 : Nat) ≤ 2 ^ m from Nat.pow_le_pow_right (n := 2) (by decide) hm))
    have hbb : ∀ m, 1 ≤ m → b.toNat.testBit m = false := fun m hm => Nat.testBit_lt_two_pow (Nat.lt_of_le_of_lt hb (Nat.lt_of_lt_of_le (show 1 < 2 ^ 1 by decide) (Nat.pow_le_pow_right (by decide) hm)))
    by_cases c : i < 24
    · rw [if_pos c, if_pos c, decide_eq_false (show ¬ 24 + k ≤ i by omega), Bool.false_and, Bool.or_false]
      unfold updN
      by_cases d : i / 4 = k
      · rw [if_pos d, d, decide_eq_false (Nat.lt_irrefl k), Bool.false_and, Bool.false_or, decide_eq_true (show 4 * k ≤ i by omega), decide_eq_true (Nat.lt_succ_self k), Bool.true_and, Bool.true_and, show i - 4 * k = i % 4 by omega]
      · rw [if_neg d]
        by_cases e : i / 4 < k
        · rw [decide_eq_true e, decide_eq_true (show i / 4 < k + 1 by omega), decide_eq_false (show ¬ 4 * k ≤ i by omega), Bool.false_and, Bool.or_false]
        · rw [decide_eq_false e, decide_eq_false (show ¬ i / 4 < k + 1 by omega), Bool.false_and, Bool.false_or, hsb _ (by omega), Bool.and_false]
    · rw [if_neg c, if_neg c, hsb (i - 4 * k) (by omega), Bool.and_false, Bool.false_or]
      dsimp only
      by_cases d : i - 24 = k
      · rw [if_pos d, d, decide_eq_false (Nat.lt_irrefl k), Bool.false_and, Bool.false_or, decide_eq_true (show 24 + k ≤ i by omega), decide_eq_true (Nat.lt_succ_self k), Bool.true_and, Bool.true_and, show i - (24 + k) = 0 by omega]
        cases b <;> rfl
      · rw [if_neg d]
        by_cases e : i - 24 < k
        · rw [decide_eq_true e, decide_eq_true (show i - 24 < k + 1 by omega), decide_eq_false (show ¬ 24 + k ≤ i by omega), Bool.false_and, Bool.or_false]
        · rw [decide_eq_false e, decide_eq_false (show ¬ i - 24 < k + 1 by omega), Bool.false_and, Bool.false_or, hbb _ (by omega), Bool.and_false]
theorem k_shl : ∀ s : Fin 16, ∀ k : Fin 6, (n3 s.val) <<< ((4 * n3 k.val) &&& 31) = n3 (s.val <<< (4 * k.val)) ∧ ((1 : Int32) <<< ((24 + n3 k.val) &&& 31)) = n3 (1 <<< (24 + k.val)) := by decide +kernel
theorem WB_pos {W k : Nat} {sz : Nat → Nat} {en : Nat → Bool} (h : WB W k sz en) (hz : ∀ j, j < k → 0 < sz j ∧ sz j < 16) : 0 < W ↔ 0 < k := by
  constructor
  · intro hw
    rcases Nat.lt_or_ge 0 k with c | c
    · exact c
    · have hk : k = 0 := by omega
      subst hk
      have : W = 0 := by
        apply Nat.eq_of_testBit_eq
        intro i
        rw [h.2, Nat.zero_testBit]
        split <;> simp
      omega
  · intro hk
    rcases Nat.lt_or_ge 0 W with c | c
    · exact c
    · have hw : W = 0 := by omega
      obtain ⟨z1, z2⟩ := hz 0 hk
      exfalso
      have e : sz 0 = 0 := by
        apply Nat.eq_of_testBit_eq
        intro b
        rw [Nat.zero_testBit]
        by_cases hb : b < 4
        · have := h.2 b
          rw [hw, Nat.zero_testBit, if_pos (by omega), show b / 4 = 0 by omega, show b % 4 = b by omega, decide_eq_true hk, Bool.true_and] at this
          exact this.symm
        · exact Nat.testBit_lt_two_pow (Nat.lt_of_lt_of_le z2 (show (16 : Nat) ≤ 2 ^ b from Nat.pow_le_pow_right (n := 2) (by decide) (show 4 ≤ b by omega)))
      omega
