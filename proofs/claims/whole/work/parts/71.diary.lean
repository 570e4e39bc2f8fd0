def cK (K : GK) (cnt : Int32) (rows : Nat → Int32) : Prop := cnt = nI K.1 ∧ K.1 ≤ 40 ∧ ∀ i, i < 3 * K.1 → rows i = nI (K.2 i)
theorem c_add30 {m a b c : Nat} {R : Nat → Nat} {rows : Nat → Int32} (hm : m < 40) (h2 : ∀ i, i < 3 * m → rows i = nI (R i)) :
    ∃ rows', mX1_add_30 (nI a) (nI b) (nI c) (nI m) rows = (nI (m + 1), rows') ∧ cK (m + 1, fun i => if i = 3 * m then a else if i = 3 * m + 1 then b else if i = 3 * m + 2 then c else R i) (nI (m + 1)) rows' := by
  unfold mX1_add_30
  have e0 : nI m * 3 = nI (3 * m) := by rw [show (3 : Int32) = nI 3 from rfl, pk_mul, Nat.mul_comm]
  rw [e0, show nI (3 * m) + 1 = nI (3 * m + 1) from nI_1 _, show nI (3 * m) + 2 = nI (3 * m + 2) from nI_add _ 2, s_put 120 _ (by omega) (by decide), xlet_eq, s_put 120 _ (by omega) (by decide), xlet_eq, s_put 120 _ (by omega) (by decide), xlet_eq, nI_1 m]
  refine ⟨_, rfl, rfl, hm, fun i hi => ?_⟩
  have hi : i < 3 * (m + 1) := hi
  show upd _ _ _ _ = nI (if i = 3 * m then a else if i = 3 * m + 1 then b else if i = 3 * m + 2 then c else R i)
  by_cases z : i = 3 * m + 2
  · subst z
    rw [if_neg (by omega), if_neg (by omega), if_pos rfl, pk_us]
  · rw [pk_un (by omega)]
    by_cases y : i = 3 * m + 1
    · subst y
      rw [if_neg (by omega), if_pos rfl, pk_us]
    · rw [pk_un (by omega)]
      by_cases x : i = 3 * m
      · subst x
        rw [if_pos rfl, pk_us]
      · rw [pk_un (by omega), if_neg x, if_neg y, if_neg z]
        exact h2 i (by omega)
/-- the class writes down -/
theorem c_add {K : GK} {cnt : Int32} {rows : Nat → Int32} (h : cK K cnt rows) (a b c : Nat) : ∃ cnt' rows', mX1_add (nI a) (nI b) (nI c) cnt rows = (cnt', rows') ∧ cK (kAdd K a b c) cnt' rows' := by
  obtain ⟨h1, h2, h3⟩ := h
  unfold mX1_add
  rw [h1]
  unfold kAdd
  by_cases e : K.1 = 40
  · rw [if_neg (show ¬ nI K.1 < 40 from nI_nlt (a := K.1) (b := 40) (by omega) (by omega)), show (39 : Int32) = nI 39 from rfl]
    obtain ⟨rows', p, q⟩ := c_add30 (a := a) (b := b) (c := c) (R := fun i => K.2 (i + 3)) (rows := va_cpy rows rows 3 0 117) (show 39 < 40 by omega) (fun i hi => by
      rw [pk_cpy_in (Nat.zero_le _) (by omega), Nat.sub_zero, Nat.add_comm]
      exact h3 _ (by omega))
    exact ⟨_, rows', p, by simp only [if_pos e]; exact q⟩
  · rw [if_pos (show nI K.1 < 40 from nI_lt (a := K.1) (b := 40) (by omega) (by omega))]
    obtain ⟨rows', p, q⟩ := c_add30 (a := a) (b := b) (c := c) (R := K.2) (rows := rows) (show K.1 < 40 by omega) h3
    exact ⟨_, rows', p, by simp only [if_neg e]; exact q⟩
/-- what was KEPT, told -/
theorem k_told {K : GK} {km kr rows : Nat → Int32} {cnt : Int32} (hr : rK 0 K km kr) (hc : cK K cnt rows) (k w : Int32) : mX12_kept k w km kr = some (mX1_told k w cnt rows) := by
  obtain ⟨r1, r2, r3⟩ := hr
  obtain ⟨c1, c2, c3⟩ := hc
  unfold mX12_kept mX1_told mX1_told_25 mX1_told_26
  have z0 : (0 : Int32).toNatClampNeg = 0 := rfl
  rw [z_is, z_is, z0, r1, c1]
  by_cases h0 : k < 0
  · rw [if_pos h0, decide_eq_true h0, if_neg (show ¬ (!true && !decide (nI K.1 - 1 < k)) = true by rw [Bool.not_true, Bool.false_and]; decide), if_pos rfl]
  · rw [if_neg h0, decide_eq_false h0]
    by_cases h1 : k < nI K.1
    · obtain ⟨j, hj, rfl, -, -, -⟩ := pk_mu h0 (Int32.not_le.mpr h1) (by omega)
      rw [if_pos h1, show nI K.1 - 1 = nI (K.1 - 1) from pk_sub (b := 1) (by omega), decide_eq_false (nI_nlt (show j ≤ K.1 - 1 by omega) (by omega)), if_pos (show (!false && !false) = true from rfl)]
      by_cases w0 : w < 0
      · rw [if_pos w0, decide_eq_true w0, if_neg (show ¬ (!true && !decide (2 < w)) = true by rw [Bool.not_true, Bool.false_and]; decide), if_pos rfl]
      · rw [if_neg w0, decide_eq_false w0]
        by_cases w1 : w < 3
        · obtain ⟨x, hx, rfl, -, -, -⟩ := pk_mu (L := 3) w0 (Int32.not_le.mpr w1) (by omega)
          have e1 : (3 : Int32) * nI j + nI x = nI (3 * j + x) := by rw [show (3 : Int32) = nI 3 from rfl, pk_mul, nI_add]
          have e2 : nI j * 3 + nI x = nI (3 * j + x) := by rw [show (3 : Int32) = nI 3 from rfl, pk_mul, nI_add, Nat.mul_comm]
          have v := r3 (3 * j + x) (by omega)
          rw [Nat.mul_zero, Nat.zero_add] at v
          rw [if_pos w1, decide_eq_false (show ¬ (2 : Int32) < nI x from nI_nlt (a := 2) (b := x) (by omega) (by omega)), if_pos (show (!false && !false) = true from rfl), if_neg (show ¬ (1 : Int32) = 0 by decide), e1, e2, zb _ 2640 (by omega) (by decide), if_pos rfl, zc _ (by omega), s_at 120 _ (by omega) (by decide), v, c3 _ (by omega)]
        · have : (2 : Int32) < w := Int32.lt_of_lt_of_le (show (2 : Int32) < 3 by decide) (Int32.not_lt.mp w1)
          rw [if_neg w1, decide_eq_true this, if_neg (show ¬ (!false && !true) = true by decide), if_pos rfl]
    · have : nI K.1 - 1 < k := by
        by_cases e : K.1 = 0
        · rw [e]
          exact Int32.lt_of_lt_of_le (show nI 0 - 1 < 0 by decide) (Int32.not_lt.mp h0)
        · rw [show nI K.1 - 1 = nI (K.1 - 1) from pk_sub (b := 1) (by omega)]
          exact Int32.lt_of_lt_of_le (nI_lt (show K.1 - 1 < K.1 by omega) (by omega)) (Int32.not_lt.mp h1)
      rw [if_neg h1, decide_eq_true this, if_neg (show ¬ (!false && !true) = true by decide), if_pos rfl]
theorem cK_copy {K : GK} {cnt : Int32} {rows : Nat → Int32} (h : cK K cnt rows) (rows0 : Nat → Int32) : ∃ rows', mX1_copy rows0 cnt rows = (cnt, rows') ∧ cK K cnt rows' := by
  unfold mX1_copy
  refine ⟨_, rfl, h.1, h.2.1, fun i hi => ?_⟩
  have := h.2.1
  rw [pk_cpy_in (Nat.zero_le _) (by omega), Nat.zero_add, Nat.sub_zero]
  exact h.2.2 i hi
