section IT
variable {tx : Nat → Nat} {n U b : Nat} {tp ut : Nat → Int32}
theorem sh8 {a b : Nat} (ha : a < 256) (hb : b < 256) : (nI a <<< ((8 : Int32) &&& 31)) ||| nI b = nI (256 * a + b) := by
  rw [pk_shlN _ 8 (by decide) (show a * 2 ^ 8 < 2 ^ 32 by omega)]
  apply Int32.toBitVec_inj.mp
  apply BitVec.eq_of_toNat_eq
  rw [Int32.toBitVec_or, BitVec.toNat_or, nI_bn (show a * 2 ^ 8 < 2147483648 by omega), nI_bn (by omega), nI_bn (by omega), ← Nat.shiftLeft_eq, ← Nat.shiftLeft_add_eq_or_of_lt (show b < 2 ^ 8 by omega), Nat.shiftLeft_eq]
  omega
theorem ir_196 (ht : ∀ i, i < n → tp i = nI (tx i)) (hb : ∀ i, i < n → tx i < 256) (hn : n ≤ 1600) (h50 : 50 < n) (sz tr ca pl ag mk lk so km kr : Nat → Int32) (R : rI tx 40 sz tr ca pl ag mk lk) (hv : ∀ t, t < 40 → iV tx 0 t < 256) : ∀ k i (rt : Nat → Int32), i + k = 8 → (∀ j, j < i → rt (8 * 1 + j) = bno (iTo (tx (2 + j)))) → ∃ rt', (∀ i, i < 8 * 1 ∨ 8 * 1 + 8 ≤ i → rt' i = rt i) ∧ (((∀ j, i ≤ j → j < 8 → iAim tx (tx (2 + j)) = true) ∧ (∀ j, j < 8 → rt' (8 * 1 + j) = bno (iTo (tx (2 + j)))) ∧ mX12_comesOn_196 (nI b) tp ut k i so sz tr ca pl ag mk lk rt km kr = mX12_comesOn_269 (nI b) ut 160 0 so sz tr ca pl ag mk lk rt' km kr) ∨ (¬ (∀ j, i ≤ j → j < 8 → iAim tx (tx (2 + j)) = true) ∧ mX12_comesOn_196 (nI b) tp ut k i so sz tr ca pl ag mk lk rt km kr = some (false, so, sz, tr, ca, pl, ag, mk, lk, rt', km, kr))) := by
  intro k
  induction k with
  | zero =>
    intro i rt hi L
    have : i = 8 := by omega
    subst this
    rw [mX12_comesOn_196]
    exact ⟨rt, fun _ _ => rfl, Or.inl ⟨fun j h1 h2 => by omega, L, rfl⟩⟩
  | succ k ih =>
    intro i rt hi L
    have hi8 : i < 8 := by omega
    have b0 := hb (2 + i) (by omega)
    have e8 : (8 : Int32) + nI i = nI (8 * 1 + i) := by rw [show (8 : Int32) = nI 8 from rfl, nI_add]
    have step : ∀ x : Int32, x = bno (iTo (tx (2 + i))) → ∃ rt', (∀ i, i < 8 * 1 ∨ 8 * 1 + 8 ≤ i → rt' i = rt i) ∧ (((∀ j, i ≤ j → j < 8 → iAim tx (tx (2 + j)) = true) ∧ (∀ j, j < 8 → rt' (8 * 1 + j) = bno (iTo (tx (2 + j)))) ∧ mX12_comesOn_240 ag ca km kr lk mk pl rt sz so tr i (fun za_stepOf_196 za_sizeOf_196 za_trainOf_196 za_carOf_196 za_placeOf_196 za_ageOf_196 za_markOf_196 za_linkTo_196 za_rootTo_196 za_keptMany_196 za_keptRow_196 => mX12_comesOn_196 (nI b) tp ut k (i + 1) za_stepOf_196 za_sizeOf_196 za_trainOf_196 za_carOf_196 za_placeOf_196 za_ageOf_196 za_markOf_196 za_linkTo_196 za_rootTo_196 za_keptMany_196 za_keptRow_196) x = mX12_comesOn_269 (nI b) ut 160 0 so sz tr ca pl ag mk lk rt' km kr) ∨ (¬ (∀ j, i ≤ j → j < 8 → iAim tx (tx (2 + j)) = true) ∧ mX12_comesOn_240 ag ca km kr lk mk pl rt sz so tr i (fun za_stepOf_196 za_sizeOf_196 za_trainOf_196 za_carOf_196 za_placeOf_196 za_ageOf_196 za_markOf_196 za_linkTo_196 za_rootTo_196 za_keptMany_196 za_keptRow_196 => mX12_comesOn_196 (nI b) tp ut k (i + 1) za_stepOf_196 za_sizeOf_196 za_trainOf_196 za_carOf_196 za_placeOf_196 za_ageOf_196 za_markOf_196 za_linkTo_196 za_rootTo_196 za_keptMany_196 za_keptRow_196) x = some (false, so, sz, tr, ca, pl, ag, mk, lk, rt', km, kr))) := by
      intro x hx
      unfold mX12_comesOn_240
      rw [e8, zc _ (by omega), pk_us, hx, ir_aim R.1 hv b0, obind]
      cases h : iAim tx (tx (2 + i)) with
      | true =>
        rw [if_pos rfl]
        obtain ⟨rt', f, r⟩ := ih (i + 1) (upd rt (8 * 1 + i) (bno (iTo (tx (2 + i))))) (by omega) (fun j hj => by
          by_cases e : j = i
          · rw [e, pk_us]
          · rw [pk_un (by omega)]; exact L j (by omega))
        have more : (∀ j, i + 1 ≤ j → j < 8 → iAim tx (tx (2 + j)) = true) ↔ (∀ j, i ≤ j → j < 8 → iAim tx (tx (2 + j)) = true) := ⟨fun y j h1 h2 => by
          by_cases e : j = i
          · rw [e]; exact h
          · exact y j (by omega) h2, fun y j h1 h2 => y j (by omega) h2⟩
        rw [more] at r
        exact ⟨rt', fun m hm => by rw [f m hm, pk_un (by omega)], r⟩
      | false =>
        rw [if_neg (by decide)]
        exact ⟨_, fun m hm => pk_un (by omega), Or.inr ⟨fun y => by rw [y i (Nat.le_refl _) hi8] at h; exact absurd h (by decide), rfl⟩⟩
    rw [mX12_comesOn_196, show (2 : Int32) + nI i = nI (2 + i) by rw [show (2 : Int32) = nI 2 from rfl, nI_add], zc _ (by omega), ht _ (by omega)]
    by_cases x255 : tx (2 + i) = 255
    · rw [if_pos (show nI (tx (2 + i)) = 255 by rw [x255]; rfl)]
      exact step _ (by unfold iTo; rw [if_pos x255]; rfl)
    · rw [if_neg (show ¬ nI (tx (2 + i)) = 255 from fun q => x255 ((nI_eq (b := 255) (by omega) (by decide)).mp q))]
      exact step _ (by unfold iTo; rw [if_neg x255, bnoS])
/-- the sign of an image -/
theorem ir_43 (ht : ∀ i, i < n → tp i = nI (tx i)) (hb : ∀ i, i < n → tx i < 256) (hn : n ≤ 1600) (h50 : 50 < n) (so sz tr ca pl ag mk lk rt km kr : Nat → Int32) : ∀ d i f, i + d = n - 1 → d < f → mX12_comesOn_43 (nI n) (nI b) tp ut so sz tr ca pl ag mk lk rt km kr f (nI (ckF tx i)) (nI i) = if nI (tx (n - 1)) = nI (ckF tx (n - 1)) then (mX12_copies (1 : Int32) (0 : Int32) so sz tr ca pl ag mk lk rt km kr).bind (xu fun q8_1 => xu fun q8_2 => xu fun q8_3 => xu fun q8_4 => xu fun q8_5 => xu fun q8_6 => xu fun q8_7 => xu fun q8_8 => xu fun q8_9 => xu fun q8_10 => fun q8_11 =>
            mX12_comesOn_126 (nI n) (nI b) tp ut 40 0 (10 : Int32) (upd q8_1 (1 : Int32).toNatClampNeg (((tp (0 : Int32).toNatClampNeg) <<< (8 &&& 31)) ||| (tp (1 : Int32).toNatClampNeg))) q8_2 q8_3 q8_4 q8_5 q8_6 q8_7 q8_8 q8_9 (upd q8_10 (1 : Int32).toNatClampNeg 0) q8_11) else some (false, so, sz, tr, ca, pl, ag, mk, lk, rt, km, kr) := by
  have n1 : nI n - 1 = nI (n - 1) := pk_sub (b := 1) (by omega)
  intro d
  induction d with
  | zero =>
    intro i f hi hf
    obtain ⟨f, rfl⟩ : ∃ h, f = h + 1 := ⟨f - 1, by omega⟩
    have : i = n - 1 := by omega
    subst this
    rw [mX12_comesOn_43, n1, if_neg (nI_nlt (Nat.le_refl _) (by omega)), if_pos (zb _ _ (by omega) (by decide)), zc _ (by omega), ht _ (by omega)]
  | succ d ih =>
    intro i f hi hf
    obtain ⟨f, rfl⟩ : ∃ h, f = h + 1 := ⟨f - 1, by omega⟩
    have bi := hb i (by omega)
    have c := ckF_lt (tx := tx) i
    rw [mX12_comesOn_43, n1, if_pos (nI_lt (by omega) (by omega)), if_pos (zb _ _ (by omega) (by decide)), zc _ (by omega), ht _ (by omega), show (5 : Int32) * nI (ckF tx i) + nI (tx i) = nI (5 * ckF tx i + tx i) by rw [show (5 : Int32) = nI 5 from rfl, pk_mul, nI_add], show nI (5 * ckF tx i + tx i) - nI (5 * ckF tx i + tx i) / 251 * 251 = nI ((5 * ckF tx i + tx i) % 251) from md_n (d := 251) (by omega) (by decide) (by decide), nI_1]
    exact ih (i + 1) f (by omega) (by omega)
end IT
