/-! Notes and parts: what both sides answer. -/
def mI (B : Nat → Bool) (x : Int32) (q : Nat) : Nat → Int32
  | 0 => x
  | j + 1 => if B j = true then mI B x q j ||| (1 <<< (n3 (q + j) &&& 31)) else mI B x q j
def prs : Nat → Nat
  | 0 => 0
  | a + 1 => prs a + (3 - a)
def mO (F : Nat → Nat → Bool) : Nat → Int32
  | 0 => 0
  | a + 1 => mI (fun j => F a (a + 1 + j)) (mO F a) (prs a) (3 - a)
/-- do a and b go parallel to note i -/
def pfn (g : Nat → Nat) (i a b : Nat) : Bool := decide (0 < i) && prl (g (4 * i + a)) (g (4 * (i - 1) + a)) (g (4 * i + b)) (g (4 * (i - 1) + b))
def pmk (g : Nat → Nat) (i : Nat) : Int32 := mO (pfn g i) 4
theorem prs_le (a : Nat) (h : a ≤ 4) : prs a ≤ 6 := by
  match a, h with
  | 0, _ => decide
  | 1, _ => decide
  | 2, _ => decide
  | 3, _ => decide
  | 4, _ => decide
theorem goPar_all {g : Nat → Nat} {n : Nat} {M : hyM} (hg : ptc g n) (hn : n ≤ 40) (h : ∀ i, M.1 3 i = n3 (g i)) {i a b : Nat} (hi : i < n) (ha : a < 4) (hb : b < 4) : Tu_goParallel (n3 i) (n3 a) (n3 b) M = some (pfn g i a b) := by
  unfold pfn
  by_cases h0 : 0 < i
  · rw [goPar_ok hg hn h hi h0 ha hb]; simp [h0]
  · have : i = 0 := by omega
    subst this
    rw [Tu_goParallel, if_neg (by decide)]
    rfl
theorem Tu_par_ok {g : Nat → Nat} {n : Nat} {M : hyM} (hg : ptc g n) (hn : n ≤ 40) (h : ∀ i, M.1 3 i = n3 (g i)) {i : Nat} (hi : i < n) : Tu_parallelsTo (n3 i) M = some (pmk g i) := by
  have inner : ∀ a, a < 4 → ∀ x : Int32, Tu_parallelsTo_L19 (n3 i) M (n3 a) hyFu x (n3 (prs a)) (n3 (a + 1)) = some (mI (fun j => pfn g i a (a + 1 + j)) x (prs a) (3 - a), n3 (prs (a + 1)), n3 4) := by
    intro a ha x
    have hp := prs_le a (by omega)
    refine lpE (fun f (s : Int32 × Int32 × Int32) => Tu_parallelsTo_L19 (n3 i) M (n3 a) f s.1 s.2.1 s.2.2) (fun j => (mI (fun j => pfn g i a (a + 1 + j)) x (prs a) j, n3 (prs a + j), n3 (a + 1 + j))) (3 - a) _ ?_ ?_ hyFu 0 (Nat.zero_le _) (hyFu_big (by omega))
    · intro f j hj
      dsimp only
      rw [Tu_parallelsTo_L19, l_4, if_neg (by rw [n3_le (by omega) (by omega)]; omega), goPar_all hg hn h hi ha (by omega), Option.bind_some, n3_s, n3_s]
      rfl
    · intro f
      dsimp only
      rw [show a + 1 + (3 - a) = 4 by omega, show prs a + (3 - a) = prs (a + 1) from rfl]
      rw [Tu_parallelsTo_L19, l_4, if_pos (by rw [n3_le (by omega) (by omega)]; omega)]
  have key := lpE (fun f (s : Int32 × Int32 × Int32) => Tu_parallelsTo_L7 (n3 i) M f s.1 s.2.1 s.2.2) (fun a => (mO (pfn g i) a, n3 (prs a), n3 a)) 4 (pmk g i, n3 6, n3 4) ?_ ?_ hyFu 0 (Nat.zero_le _) (hyFu_big (by omega))
  · dsimp only at key
    rw [Tu_parallelsTo]
    rw [show mO (pfn g i) 0 = 0 from rfl, show n3 (prs 0) = 0 from rfl, show n3 0 = 0 from rfl] at key
    rw [key]
    rfl
  · intro f a ha
    dsimp only
    rw [Tu_parallelsTo_L7, l_4, if_neg (by rw [n3_le (by omega) (by omega)]; omega), n3_s, inner a ha, Option.bind_some]
    rfl
  · intro f
    dsimp only
    rw [Tu_parallelsTo_L7, l_4, if_pos (by rw [n3_le (by omega) (by omega)]; omega)]
    rfl
theorem or0 (x : Int32) : x ||| 0 = x := by
  apply Int32.toBitVec_inj.mp
  simp
def fau (g : Nat → Nat) (n : Nat) : Nat := cnt (fun i => !decide (pmk g i = 0)) n
theorem Tu_faulty_ok {g : Nat → Nat} {n : Nat} {M : hyM} (hg : ptc g n) (hn : n ≤ 40) (h : ∀ i, M.1 3 i = n3 (g i)) (h4 : M.1 1 4 = n3 n) : Tu_notesWithParallels M = some (n3 (fau g n)) := by
  have key := lpE (fun f (s : Int32 × Int32) => Tu_notesWithParallels_L4 M f s.1 s.2) (fun j => (n3 (cnt (fun i => !decide (pmk g i = 0)) j), n3 j)) n (n3 (fau g n), n3 n) ?_ ?_ hyFu 0 (Nat.zero_le _) (hyFu_big (by omega))
  · dsimp only at key
    rw [Tu_notesWithParallels, show (0 : Int32) = n3 0 from rfl]
    rw [show cnt (fun i => !decide (pmk g i = 0)) 0 = 0 from rfl] at key
    rw [key]
    rfl
  · intro f j hj
    dsimp only
    rw [Tu_notesWithParallels_L4, h4, if_neg (by rw [n3_le (by omega) (by omega)]; omega), Tu_par_ok hg hn h hj, Option.bind_some]
    unfold Hp_flag
    rw [bI_n3, n3_add, n3_s]
    rfl
  · intro f
    dsimp only
    rw [Tu_notesWithParallels_L4, h4, if_pos (by rw [n3_le (by omega) (by omega)]; omega)]
    rfl
/-! places and bars -/
theorem Tu_start_ok {g : Nat → Nat} {M : hyM} (h : ∀ i, M.1 2 i = n3 (g i)) {i : Nat} (hi : i ≤ 40) : Tu_startOf (n3 i) M = some (n3 (smN g i)) := by
  have key := lpE (fun f (s : Int32 × Int32) => Tu_startOf_L4 (n3 i) M f s.1 s.2) (fun j => (n3 (smN g j), n3 j)) i (n3 (smN g i), n3 i) ?_ ?_ hyFu 0 (Nat.zero_le _) (hyFu_big (by omega))
  · dsimp only at key
    rw [Tu_startOf, show (0 : Int32) = n3 0 from rfl]
    rw [show smN g 0 = 0 from rfl] at key
    rw [key]
    rfl
  · intro f j hj
    dsimp only
    rw [Tu_startOf_L4, if_neg (by rw [n3_le (by omega) (by omega)]; omega)]
    unfold Tu_lengthOf
    rw [atf_in _ (by omega) (by decide), h, n3_add, n3_s]
    rfl
  · intro f
    dsimp only
    rw [Tu_startOf_L4, if_pos (by rw [n3_le (by omega) (by omega)]; omega)]
def bnum (u b s : Nat) : Nat := if s < u then 0 else 1 + (s - u) / b
def buni (u b s : Nat) : Nat := if s < u then s else (s - u) % b
theorem Ba_cond {u b s : Nat} {M : hyM} (hb : 2 ≤ b) (hb2 : b ≤ 24) (hu : u < b) (hs : s < 10000) (h0 : M.1 4 0 = n3 b) (h1 : M.1 4 1 = n3 u) : (if n3 s < M.1 4 1 then true else !decide (0 < M.1 4 0)) = decide (s < u) := by
  rw [h0, h1, ite_lt (by omega) (by omega), l_0, dec_lt (by omega) (by omega)]
  have : decide (0 < b) = true := by simp; omega
  rw [this]
  by_cases c : s < u <;> simp [c]
theorem Ba_num_ok {u b s : Nat} {M : hyM} (hb : 2 ≤ b) (hb2 : b ≤ 24) (hu : u < b) (hs : s < 10000) (h0 : M.1 4 0 = n3 b) (h1 : M.1 4 1 = n3 u) : Ba_numberAt (n3 s) M = some (n3 (bnum u b s)) := by
  rw [Ba_numberAt, Ba_cond hb hb2 hu hs h0 h1, h0, h1]
  unfold bnum
  by_cases c : s < u
  · rw [if_pos c, if_pos (by simpa using c)]; rfl
  · rw [if_neg c, if_neg (by simpa using c), n3_sub (by omega), jdv_n3 (by omega) (by omega) (by omega), Option.bind_some, l_1, n3_add]
theorem Ba_uni_ok {u b s : Nat} {M : hyM} (hb : 2 ≤ b) (hb2 : b ≤ 24) (hu : u < b) (hs : s < 10000) (h0 : M.1 4 0 = n3 b) (h1 : M.1 4 1 = n3 u) : Ba_unitsBefore (n3 s) M = some (n3 (buni u b s)) := by
  rw [Ba_unitsBefore, Ba_cond hb hb2 hu hs h0 h1, h0, h1]
  unfold buni
  by_cases c : s < u
  · rw [if_pos c, if_pos (by simpa using c)]
  · rw [if_neg c, if_neg (by simpa using c), n3_sub (by omega), jrm_n3 (by omega) (by omega) (by omega), Option.bind_some]
theorem buni_le {u b s : Nat} (hb : 2 ≤ b) (hu : u < b) : buni u b s ≤ if u ≤ s then b else u := by
  unfold buni
  by_cases c : s < u
  · rw [if_pos c, if_neg (by omega)]; omega
  · rw [if_neg c, if_pos (by omega)]
    have := Nat.mod_lt (s - u) (show b > 0 by omega); omega
theorem Ba_from_ok {u b s : Nat} {M : hyM} (hb : 2 ≤ b) (hb2 : b ≤ 24) (hu : u < b) (hs : s < 10000) (h0 : M.1 4 0 = n3 b) (h1 : M.1 4 1 = n3 u) : Ba_unitsFrom (n3 s) M = some (n3 ((if u ≤ s then b else u) - buni u b s)) := by
  have hl := buni_le (s := s) hb hu
  rw [Ba_unitsFrom, Ba_uni_ok hb hb2 hu hs h0 h1, Option.bind_some, h0, h1, ite_le (by omega) (by omega)]
  by_cases c : u ≤ s
  · rw [if_pos c] at hl ⊢
    rw [if_pos c, n3_sub hl]
  · rw [if_neg c] at hl ⊢
    rw [if_neg c, n3_sub hl]
def bover (u b s l : Nat) : Bool := decide ((if u ≤ s then b else u) < buni u b s + l)
