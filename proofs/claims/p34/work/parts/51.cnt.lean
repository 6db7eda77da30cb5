/-! The class's counts, by the state. -/
def coV (A : aS) : Nat → Int32
  | 0 => n3 (A 30 2)
  | 1 => n3 (A 30 1)
  | 2 => n3 (mA A)
  | 3 => n3 (LA A).length
  | 4 => n3 (A 30 7)
  | 5 => n3 (A 30 11)
  | 6 => n3 (A 30 12)
  | 7 => n3 (smN (A 31) (A 30 2))
  | 8 => bI (decide (smN (A 31) (A 30 2) % A 30 11 = 0))
  | 9 => n3 (A 30 13)
  | 10 => n3 (nsA A)
  | 11 => n3 (A 30 16)
  | 12 => ftV A 4
  | _ => n3 (fau (A 32) (A 30 2))
theorem g_count {A : aS} {M : hyM} (hW : WFA A) (hC : CA A M) {w : Nat} (hw : w ≤ 13) : (Hp_count (n3 w) M).bind rt = some (coV A w) := by
  have hn := hW.1.1
  have hst := st_le hW (Nat.le_refl (A 30 2))
  obtain ⟨hb1, hb2, hu, -, -⟩ := hW.2.2.1
  have h0 : M.1 4 0 = n3 (A 30 11) := hC.1.2.2.1.1
  have h1 : M.1 4 1 = n3 (A 30 12) := hC.1.2.2.1.2
  have hS : Tu_startOf (M.1 1 4) M = some (n3 (smN (A 31) (A 30 2))) := by rw [CA_n hC]; exact Tu_start_ok (CA_len hC) (by omega)
  rw [Hp_count, show (0 : Int32) = n3 0 from rfl, show (13 : Int32) = n3 13 from rfl, rgOk M (Nat.zero_le _) hw (by decide)]
  dsimp only
  unfold Hp_countOfTune
  match w, hw with
  | 0, _ => rw [if_neg (by decide), if_pos (by decide), CA_n hC]; rfl
  | 1, _ => rw [if_neg (by decide), if_neg (by decide), if_pos (by decide), CA_t hC]; rfl
  | 2, _ => rw [if_neg (by decide), if_neg (by decide), if_neg (by decide), if_pos (by decide), show M.1 12 5 = n3 (mA A) from hC.2.1.1]; rfl
  | 3, _ => rw [if_neg (by decide), if_neg (by decide), if_neg (by decide), if_neg (by decide), if_pos (by decide), hC.2.2.1.1]; rfl
  | 4, _ => rw [if_neg (by decide), if_neg (by decide), if_neg (by decide), if_neg (by decide), if_neg (by decide), if_pos (by decide), show M.1 5 3 = n3 (A 30 7) from hC.1.2.2.2.1.1]; rfl
  | 5, _ => rw [if_neg (by decide), if_neg (by decide), if_neg (by decide), if_neg (by decide), if_neg (by decide), if_neg (by decide), if_pos (by decide), h0]; rfl
  | 6, _ => rw [if_neg (by decide), if_neg (by decide), if_neg (by decide), if_neg (by decide), if_neg (by decide), if_neg (by decide), if_neg (by decide), h1]; rfl
  | 7, _ => rw [if_pos (by decide), Hp_countOfPage, hS, Option.bind_some, if_pos (by decide)]; rfl
  | 8, _ =>
    have e : Ba_divide (n3 (smN (A 31) (A 30 2))) M = some (decide (smN (A 31) (A 30 2) % A 30 11 = 0)) := by
      rw [Ba_divide, h0, if_neg (by rw [l_0, n3_le (by omega) (by omega)]; omega), jrm_n3 (by omega) (by omega) (by omega), Option.bind_some, l_0, dec_eq (by have := Nat.mod_le (smN (A 31) (A 30 2)) (A 30 11); omega) (by omega)]
    rw [if_pos (by decide), Hp_countOfPage, hS, Option.bind_some, if_neg (by decide), if_pos (by decide), e, Option.bind_some]
    rfl
  | 9, _ => rw [if_pos (by decide), Hp_countOfPage, hS, Option.bind_some, if_neg (by decide), if_neg (by decide), if_pos (by decide), hC.1.1.1]; rfl
  | 10, _ => rw [if_pos (by decide), Hp_countOfPage, hS, Option.bind_some, if_neg (by decide), if_neg (by decide), if_neg (by decide), if_pos (by decide), hC.2.2.2.2.2.1]; rfl
  | 11, _ => rw [if_pos (by decide), Hp_countOfPage, hS, Option.bind_some, if_neg (by decide), if_neg (by decide), if_neg (by decide), if_neg (by decide), if_pos (by decide), hC.1.2.2.2.2.2.1.1]; rfl
  | 12, _ => rw [if_pos (by decide), Hp_countOfPage, hS, Option.bind_some, if_neg (by decide), if_neg (by decide), if_neg (by decide), if_neg (by decide), if_neg (by decide), if_pos (by decide), fitting_class hW hC, Option.bind_some]; rfl
  | 13, _ => rw [if_pos (by decide), Hp_countOfPage, hS, Option.bind_some, if_neg (by decide), if_neg (by decide), if_neg (by decide), if_neg (by decide), if_neg (by decide), if_neg (by decide), Tu_faulty_ok hW.1.2.2.2.1 hn (CA_pit hC) (CA_n hC), Option.bind_some]; rfl
