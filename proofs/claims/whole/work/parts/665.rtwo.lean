/-! the reference's item of two fields -/
theorem m_two_f {M : MS} {c base k : Nat} {l0 h0 l1 h1 : Int32} (hc : c < 5) (hk : M.2 0 c = nI k) : f_X12_readTwo M (nI c) (nI base) (nI k) l0 h0 l1 h1 = some (false, si M 7 (M.1 6)) := by
  unfold f_X12_readTwo f_X12_fails
  rw [chk_nI (by omega) (by decide), nI_clamp (by omega), hk, if_pos rfl, lt_eq, bw_some]
theorem m_two_n {M : MS} {c base k m : Nat} {l0 h0 l1 h1 : Int32} (hc : c < 5) (hk : M.2 0 c = nI k) (hne : k < m) (hm : m < 100) : f_X12_readTwo M (nI c) (nI base) (nI m) l0 h0 l1 h1 = bw (f_X12_readNumber (si M 6 (M.1 6 + 1)) (nI (base + 2 * k)) l0 h0) (fun x3 S4 => if x3 = true then bw (f_X12_takes S4 44) (fun x5 S6 => if x5 = true then bw (f_X12_readNumber S6 (nI (base + 2 * k) + 1) l1 h1) (fun x7 S8 => if x7 = true then chk (nI c) 1177 (chk (nI c) 1177 (lt (sa S8 0 (upd (S8.2 0) (nI c).toNatClampNeg (S8.2 0 (nI c).toNatClampNeg + 1))) fun S9 => bw (f_X12_takes S9 59) (fun x10 S11 => some (x10, S11)))) else some (false, S8)) else some (false, S6)) else some (false, S4)) := by
  have hk1 : (si M 6 (M.1 6 + 1)).2 0 c = nI k := hk
  have e2 : nI base + 2 * nI k = nI (base + 2 * k) := by rw [show (2 : Int32) = nI 2 from rfl, pk_mul, nI_add]
  unfold f_X12_readTwo
  rw [chk_nI (k := c) (by omega) (by decide), nI_clamp (n := c) (by omega), hk, if_neg (fun z => by rw [nI_eq (by omega) (by omega)] at z; omega), lt_eq, chk_nI (k := c) (by omega) (by decide), hk1, e2, lt_eq]
