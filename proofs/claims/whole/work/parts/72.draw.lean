theorem lcg_lt (A C N s : Nat) (hs : s < N) (h : A * N + C < 2 ^ 63) : A * s + C < 2 ^ 63 := by
  have := Nat.mul_le_mul_left A (Nat.le_of_lt hs)
  exact Nat.lt_of_le_of_lt (Nat.add_le_add_right this C) h
/-- the next SEED -/
def gSd (s : Nat) : Nat := (1103515245 * s + 12345) % 2 ^ 31
def gDw (m s : Nat) : Nat := gSd s / 64 % m
theorem gSd_lt (s : Nat) : gSd s < 2 ^ 31 := Nat.mod_lt _ (Nat.two_pow_pos 31)
theorem sd_e (s : Nat) : (1103515245 : Int64) * lN s + 12345 = lN (1103515245 * s + 12345) := by
  rw [show (1103515245 : Int64) = lN 1103515245 from rfl, show (12345 : Int64) = lN 12345 from rfl, lN_mul, lN_add]
theorem r_draw {m s : Nat} (hm0 : 0 < m) (hm : m < 2 ^ 31) (hs : s < 2 ^ 31) : mX12_draw (nI m) (lN s) = some (nI (gDw m s), lN (gSd s)) := by
  have e2 : lN (1103515245 * s + 12345) - lN (1103515245 * s + 12345) / lN (2 ^ 31) * lN (2 ^ 31) = lN (gSd s) := pk_lRem (lcg_lt 1103515245 12345 (2 ^ 31) s hs (by decide)) (Nat.two_pow_pos 31) (by decide)
  have e3 : lN (gSd s) / lN 64 = lN (gSd s / 64) := pk_lDiv (Nat.lt_trans (gSd_lt s) (by decide)) (by decide) (by decide)
  have l3 : gSd s / 64 < 2 ^ 63 := Nat.lt_of_le_of_lt (Nat.div_le_self _ _) (Nat.lt_trans (gSd_lt s) (by decide))
  have e4 : lN (gSd s / 64) - lN (gSd s / 64) / lN m * lN m = lN (gSd s / 64 % m) := pk_lRem l3 hm0 (Nat.lt_trans hm (by decide))
  unfold mX12_draw
  rw [sd_e, show (2147483648 : Int64) = lN (2 ^ 31) from rfl, e2, show (64 : Int64) = lN 64 from rfl, e3, nI_l hm, e4, lN_i, if_neg]
  · rfl
  · intro q
    have := (lN_eq (a := m) (b := 0) hm (by decide)).mp q
    omega
theorem c_draw {m s : Nat} (hm0 : 0 < m) (hm : m < 2 ^ 31) (hs : s < 2 ^ 31) : mX11_draw (nI m) (nI s) = (nI (gDw m s), nI (gSd s)) := by
  have e2 : lN (1103515245 * s + 12345) &&& lN (2 ^ 31 - 1) = lN (gSd s) := fb_maskL _ 31
  have e3 : nI (gSd s) / nI 64 = nI (gSd s / 64) := pk_div (gSd_lt s) (by decide) (by decide)
  have l3 : gSd s / 64 < 2 ^ 31 := Nat.lt_of_le_of_lt (Nat.div_le_self _ _) (gSd_lt s)
  have e4 : nI (gSd s / 64) - nI (gSd s / 64) / nI m * nI m = nI (gSd s / 64 % m) := pk_rem l3 hm0 hm
  unfold mX11_draw
  rw [nI_l hs, sd_e, show (2147483647 : Int64) = lN (2 ^ 31 - 1) from rfl, e2, lN_i, show (64 : Int32) = nI 64 from rfl, e3, e4, if_pos (show (0 : Int32) < nI m from nI_lt (a := 0) hm0 hm)]
  rfl
theorem gDw_lt {m s : Nat} (h : 0 < m) : gDw m s < m := Nat.mod_lt _ h
