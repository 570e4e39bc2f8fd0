theorem l_shr {a k : Nat} (ha : a < 2 ^ 63) (hk : k < 64) : lN a >>> ((nI k).toInt64 &&& 63) = lN (a / 2 ^ k) := by
  have hs : (((nI k).toInt64 &&& 63).toBitVec.smod 64).toNat = k := by
    rw [wb_c k hk, wb_tb, wb_sm k hk, BitVec.toNat_ofNat, Nat.mod_eq_of_lt (by omega)]
  have hq : a / 2 ^ k ≤ a := Nat.div_le_self _ _
  refine Int64.toInt_inj.mp ?_
  have e : (lN a >>> ((nI k).toInt64 &&& 63)).toInt = ((lN a).toBitVec.sshiftRight (((nI k).toInt64 &&& 63).toBitVec.smod 64).toNat).toInt := rfl
  rw [e, hs, BitVec.toInt_sshiftRight, Int.shiftRight_eq_div_pow, show (lN a).toBitVec.toInt = (lN a).toInt from rfl, pk_lT ha, pk_lT (by omega)]
  rfl
/-- names of both sides -/
def kNm (b m : Nat) (cn : Nat → Int32) (nm : Nat → Int64) : Prop := ∀ t, t < m → ∃ (f : Nat → Nat) (L : Nat), 1 ≤ L ∧ L ≤ 6 ∧ (∀ i, i < L → 97 ≤ f i ∧ f i ≤ 122) ∧ cn t = nI (lQ f L 6) ∧ nm (24 * b + t) = lN (lPk f L)
theorem lPk_b {f : Nat → Nat} {L : Nat} (hf : ∀ i, i < L → 97 ≤ f i ∧ f i ≤ 122) : ∀ k, k ≤ L → lPk f k < 256 ^ k ∧ (0 < k → 0 < lPk f k) := by
  intro k
  induction k with
  | zero => intro _; exact ⟨by show 0 < 1; decide, fun h => absurd h (by decide)⟩
  | succ k ih =>
    intro hk
    have := hf k (by omega)
    have i1 := (ih (by omega)).1
    rw [lPk, Nat.pow_succ]
    exact ⟨by omega, fun _ => by omega⟩
/-- bytes of a name counted -/
theorem r_l51 (x : Int32) (b : Nat) (nm : Nat → Int64) {f : Nat → Nat} {L : Nat} (hL : L ≤ 6) (hf : ∀ i, i < L → 97 ≤ f i ∧ f i ≤ 122) (kI : Int32) : ∀ (m g : Nat), m ≤ L → m < g → mX12_letter_51 x kI (nI b) nm g (nI (L - m)) (lN (lPk f m)) = mX12_letter_51 x kI (nI b) nm (g - m) (nI L) 0 := by
  intro m
  induction m with
  | zero => intro g _ _; rw [Nat.sub_zero]; rfl
  | succ m ih =>
    intro g hm hg
    obtain ⟨g, rfl⟩ : ∃ h, g = h + 1 := ⟨g - 1, by omega⟩
    have b1 := lPk_b hf (m + 1) hm
    have p6 : 256 ^ (m + 1) ≤ 256 ^ 6 := Nat.pow_le_pow_right (by decide) (by omega)
    have p63 : 256 ^ 6 < 2 ^ 63 := by decide
    have fm := hf m (by omega)
    rw [mX12_letter_51, if_pos (show (0 : Int64) < lN (lPk f (m + 1)) from (pk_lLT (a := 0) (by decide) (by omega)).mpr (b1.2 (by omega))), nI_1, show (8 : Int32).toInt64 &&& 63 = (nI 8).toInt64 &&& 63 from rfl, l_shr (by omega) (by decide)]
    rw [show lPk f (m + 1) / 2 ^ 8 = lPk f m by rw [lPk]; omega, show L - (m + 1) + 1 = L - m by omega, ih g (by omega) (by omega), show g + 1 - (m + 1) = g - m by omega]
theorem lPk_byte {f : Nat → Nat} {L : Nat} (hf : ∀ i, i < L → 97 ≤ f i ∧ f i ≤ 122) : ∀ (m k : Nat), k < m → m ≤ L → lPk f m / 2 ^ (8 * (m - 1 - k)) % 256 = f k := by
  intro m
  induction m with
  | zero => intro k h; exact absurd h (Nat.not_lt_zero _)
  | succ m ih =>
    intro k hk hm
    have fm := hf m (by omega)
    rw [lPk]
    by_cases e : k = m
    · subst e
      rw [show 8 * (k + 1 - 1 - k) = 0 by omega]
      omega
    · rw [show 8 * (m + 1 - 1 - k) = 8 + 8 * (m - 1 - k) by omega, Nat.pow_add, ← Nat.div_div_eq_div_mul, show (lPk f m * 256 + f m) / 2 ^ 8 = lPk f m by omega]
      exact ih k (by omega) (by omega)
theorem lQ_digits {f : Nat → Nat} {L : Nat} (hf : ∀ i, i < L → 97 ≤ f i ∧ f i ≤ 122) : (lQ f L 6 % 27 = lDd f L 5 ∧ lQ f L 6 / 27 % 27 = lDd f L 4 ∧ lQ f L 6 / 27 / 27 % 27 = lDd f L 3 ∧ lQ f L 6 / 27 / 27 / 27 % 27 = lDd f L 2 ∧ lQ f L 6 / 27 / 27 / 27 / 27 % 27 = lDd f L 1 ∧ lQ f L 6 / 27 / 27 / 27 / 27 / 27 % 27 = lDd f L 0) ∧ lQ f L 6 < 387420489 := by
  have d : ∀ i, lDd f L i < 27 := fun i => by
    unfold lDd
    by_cases h : i < L
    · rw [if_pos h]; have := hf i h; omega
    · rw [if_neg h]; omega
  have e : lQ f L 6 = ((((((0 * 27 + lDd f L 0) * 27 + lDd f L 1) * 27 + lDd f L 2) * 27 + lDd f L 3) * 27 + lDd f L 4) * 27 + lDd f L 5) := rfl
  have d0 := d 0
  have d1 := d 1
  have d2 := d 2
  have d3 := d 3
  have d4 := d 4
  have d5 := d 5
  rw [e]
  generalize lDd f L 0 = x0 at *
  generalize lDd f L 1 = x1 at *
  generalize lDd f L 2 = x2 at *
  generalize lDd f L 3 = x3 at *
  generalize lDd f L 4 = x4 at *
  generalize lDd f L 5 = x5 at *
  refine ⟨⟨by omega, by omega, by omega, by omega, by omega, by omega⟩, by omega⟩
theorem k_letter {b m : Nat} {cn to : Nat → Int32} {nm : Nat → Int64} (h : kNm b m cn nm) (hb : b < 2) (hm : m ≤ 24) (hto : to b = nI m) (x k : Int32) : mX12_letter x k (nI b) to nm = some (mX11_letter x k (nI m) cn) := by
  unfold mX12_letter mX11_letter
  rw [if_pos (zb _ _ hb (by decide)), zc b (by omega), hto]
  -- out of the names
  have out : ∀ z : Option Int32, mX12_is x 0 (nI m - 1) = false → (if mX12_is x 0 (nI m - 1) = true then z else some (-1)) = some (-1) := fun z e => by rw [e, if_neg (by decide)]
  by_cases m0 : m = 0
  · subst m0
    have e : mX12_is x 0 (nI 0 - 1) = false := by
      unfold mX12_is
      by_cases a : x < 0
      · rw [if_pos a]
      · rw [if_neg a]
        obtain ⟨j, hj, e⟩ := nI_of a
        subst e
        rw [if_pos (show nI 0 - 1 < nI j from (fa_lt _ _).mpr (by rw [nI_toInt hj]; show (-1 : Int) < j; omega))]
    rw [out _ e]
    by_cases a : x < 0
    · rw [if_pos a]
    · rw [if_neg a, if_neg (show ¬ x < nI 0 from a)]
  have em : nI m - 1 = nI (m - 1) := by rw [show m = m - 1 + 1 by omega, nI_pred]; rfl
  rw [em] at out ⊢
  rcases k_range x (N := m) (by omega) (by omega) with ⟨o1, o2⟩ | ⟨t, ht, e, o2⟩
  · rw [out _ o2]
    rcases o1 with a | a
    · rw [if_pos a]
    · by_cases c : x < 0
      · rw [if_pos c]
      · rw [if_neg c, if_neg a]
  · subst e
    rw [o2, if_pos rfl, if_neg (nI_pos (by omega)), if_pos (nI_lt ht (by omega))]
    obtain ⟨f, L, l1, l6, hf, n1, n2⟩ := h t ht
    obtain ⟨dg, qlt⟩ := lQ_digits hf
    rcases k_range k (N := 6) (by decide) (by decide) with ⟨o1, o3⟩ | ⟨j, hj, e, o3⟩
    · rw [show (5 : Int32) = nI (6 - 1) from rfl, o3, if_neg (by decide)]
      rcases o1 with a | a
      · rw [if_pos a]
      · by_cases c : k < 0
        · rw [if_pos c]
        · rw [if_neg c, if_neg (show ¬ k < 6 from a)]
    · subst e
      rw [show mX12_is (nI j) 0 5 = true from o3, if_pos rfl, e24, if_pos (zb _ _ (by omega) (by decide)), zc _ (by omega), n2, if_neg (nI_pos (by omega)), if_pos (show nI j < 6 from nI_lt (b := 6) hj (by decide))]
      have b6 := lPk_b hf L (Nat.le_refl L)
      have p6 : 256 ^ L ≤ 256 ^ 6 := Nat.pow_le_pow_right (by decide) l6
      have p63 : 256 ^ 6 < 2 ^ 63 := by decide
      have run := r_l51 (nI t) b nm (f := f) (L := L) l6 hf (nI j) L xfuel (Nat.le_refl L) (by unfold xfuel; omega)
      rw [Nat.sub_self] at run
      have ref : mX12_letter_51 (nI t) (nI j) (nI b) nm xfuel 0 (lN (lPk f L)) = some (nI (lDd f L j)) := by
        refine Eq.trans run ?_
        obtain ⟨g, hg⟩ : ∃ g, xfuel - L = g + 1 := ⟨xfuel - L - 1, by unfold xfuel; omega⟩
        rw [hg, mX12_letter_51, if_neg (by decide)]
        unfold lDd
        by_cases q : j < L
        · have fj := hf j q
          rw [if_pos (nI_lt q (by omega)), if_pos q, e24, zc _ (by omega), n2]
          have e1 : (8 : Int32) * (nI L - 1 - nI j) = nI (8 * (L - 1 - j)) := by
            rw [show (1 : Int32) = nI 1 from rfl, pk_sub (by omega), pk_sub (by omega), show (8 : Int32) = nI 8 from rfl, pk_mul]
          rw [e1, l_shr (by omega) (by omega)]
          have e2 : lN (lPk f L / 2 ^ (8 * (L - 1 - j))) &&& 255 = lN (lPk f L / 2 ^ (8 * (L - 1 - j)) % 2 ^ 8) := wb_mask (k := 8) (by have := Nat.div_le_self (lPk f L) (2 ^ (8 * (L - 1 - j))); omega) (by decide)
          rw [e2, show (2 : Nat) ^ 8 = 256 from rfl, lPk_byte hf L j q (Nat.le_refl L), lN_i, show (97 : Int32) = nI 97 from rfl, pk_sub (by omega), nI_1]
          congr 2
          omega
        · rw [if_neg (nI_nlt (by omega) (by omega)), if_neg q]
          rfl
      rw [show lN (lPk f L) = lN (lPk f L) from rfl, ref]
      rw [s_at 24 t (by omega) (by decide), n1]
      have dv : ∀ a, a < 387420489 → nI a / 27 = nI (a / 27) := fun a ha => pk_div (d := 27) (by omega) (by decide) (by decide)
      have rm : ∀ a, a < 387420489 → nI a - nI a / 27 * 27 = nI (a % 27) := fun a ha => pk_rem (d := 27) (by omega) (by decide) (by decide)
      generalize hq : lQ f L 6 = q at *
      have q1 : q / 27 < 387420489 := by omega
      have q2 : q / 27 / 27 < 387420489 := by omega
      have q3 : q / 27 / 27 / 27 < 387420489 := by omega
      have q4 : q / 27 / 27 / 27 / 27 < 387420489 := by omega
      have q5 : q / 27 / 27 / 27 / 27 / 27 < 387420489 := by omega
      have jj : j = 0 ∨ j = 1 ∨ j = 2 ∨ j = 3 ∨ j = 4 ∨ j = 5 := by omega
      rcases jj with e | e | e | e | e | e <;> subst e
      · rw [if_pos (show nI 0 < (5 : Int32) by decide), if_pos (show nI 0 < (4 : Int32) by decide), if_pos (show nI 0 < (3 : Int32) by decide), if_pos (show nI 0 < (2 : Int32) by decide), if_pos (show nI 0 < (1 : Int32) by decide), dv q (by omega), dv (q / 27) (by omega), dv (q / 27 / 27) (by omega), dv (q / 27 / 27 / 27) (by omega), dv (q / 27 / 27 / 27 / 27) (by omega), rm (q / 27 / 27 / 27 / 27 / 27) (by omega), dg.2.2.2.2.2]
      · rw [if_pos (show nI 1 < (5 : Int32) by decide), if_pos (show nI 1 < (4 : Int32) by decide), if_pos (show nI 1 < (3 : Int32) by decide), if_pos (show nI 1 < (2 : Int32) by decide), if_neg (show ¬ nI 1 < (1 : Int32) by decide), dv q (by omega), dv (q / 27) (by omega), dv (q / 27 / 27) (by omega), dv (q / 27 / 27 / 27) (by omega), rm (q / 27 / 27 / 27 / 27) (by omega), dg.2.2.2.2.1]
      · rw [if_pos (show nI 2 < (5 : Int32) by decide), if_pos (show nI 2 < (4 : Int32) by decide), if_pos (show nI 2 < (3 : Int32) by decide), if_neg (show ¬ nI 2 < (2 : Int32) by decide), dv q (by omega), dv (q / 27) (by omega), dv (q / 27 / 27) (by omega), rm (q / 27 / 27 / 27) (by omega), dg.2.2.2.1]
      · rw [if_pos (show nI 3 < (5 : Int32) by decide), if_pos (show nI 3 < (4 : Int32) by decide), if_neg (show ¬ nI 3 < (3 : Int32) by decide), dv q (by omega), dv (q / 27) (by omega), rm (q / 27 / 27) (by omega), dg.2.2.1]
      · rw [if_pos (show nI 4 < (5 : Int32) by decide), if_neg (show ¬ nI 4 < (4 : Int32) by decide), dv q (by omega), rm (q / 27) (by omega), dg.2.1]
      · rw [if_neg (show ¬ nI 5 < (5 : Int32) by decide), rm q (by omega), dg.1]
