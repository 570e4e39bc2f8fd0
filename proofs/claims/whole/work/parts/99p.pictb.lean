/-- links and roots that an image tells -/
def iTo (x : Nat) : Nat := if x = 255 then 0 else x + 1
def iL (tx : Nat → Nat) (j : Nat) : Nat := if tx (iP tx (j / 4)) = 0 then 0 else iTo (tx (iP tx (j / 4) + 6 + j % 4))
def iAim (tx : Nat → Nat) (x : Nat) : Bool := decide (x = 255 ∨ (x < 40 ∧ 0 < iV tx 0 x))
def iLk (tx : Nat → Nat) (j : Nat) : Bool := decide (tx (iP tx (j / 4)) = 0) || iAim tx (tx (iP tx (j / 4) + 6 + j % 4))
def gLm (tx : Nat → Nat) (m : Nat) : GH := fun a j => if a = 6 ∧ j < m then iL tx j else 0
/-- links, and from where they come, when m are read -/
def iCl (tx : Nat → Nat) (m : Nat) (lk : Nat → Int32) (fr : Nat → Int64) : Prop := (∀ j, j < 160 → lk j = bno (gLm tx m 6 j)) ∧ ∀ t, t < 40 → zh (fr t) (fun u => gLk (gLm tx m) u t)
abbrev BR : Type := Bool × (Nat → Int32) × (Nat → Int32) × (Nat → Int64)
section IB
variable {tx : Nat → Nat} {n : Nat} {tc : Nat → Int32} {th : Int64}
theorem gLm_s (m : Nat) : gset (gLm tx m) 6 m (iL tx m) = gLm tx (m + 1) := by
  funext a j
  by_cases h : a = 6 ∧ j = m
  · obtain ⟨h1, h2⟩ := h
    subst h1 h2
    rw [gset_s]
    exact (if_pos ⟨rfl, Nat.lt_succ_self _⟩).symm
  · rw [gset_n _ _ h]
    show (if a = 6 ∧ j < m then iL tx j else 0) = if a = 6 ∧ j < m + 1 then iL tx j else 0
    by_cases w : a = 6 ∧ j < m
    · rw [if_pos w, if_pos ⟨w.1, by omega⟩]
    · rw [if_neg w, if_neg (fun q => by
        by_cases e : j = m
        · exact h ⟨q.1, e⟩
        · exact w ⟨q.1, by omega⟩)]
theorem gLm_ok (m : Nat) (h : ∀ j, j < m → iLk tx j = true) : gok (fun _ => true) (gLm tx m) := by
  refine ⟨fun j hj => ⟨?_, fun _ _ => rfl⟩, fun k hk => ⟨?_, fun _ _ => rfl⟩⟩
  · show (if 6 = 6 ∧ j < m then iL tx j else 0) ≤ 40
    by_cases w : j < m
    · rw [if_pos ⟨rfl, w⟩]
      have q := h j w
      unfold iLk iAim at q
      unfold iL iTo
      by_cases z : tx (iP tx (j / 4)) = 0
      · rw [if_pos z]; exact Nat.zero_le _
      · rw [decide_eq_false z, Bool.false_or, decide_eq_true_eq] at q
        rw [if_neg z]
        split <;> omega
    · rw [if_neg (fun q => w q.2)]; exact Nat.zero_le _
  · show (if 7 = 6 ∧ k < m then iL tx k else 0) ≤ 40
    rw [if_neg (fun q => absurd q.1 (by decide))]; exact Nat.zero_le _
theorem ib_off1 (i : Nat) (x3 : Int32) (rt lk : Nat → Int32) (fr : Nat → Int64) (F : Bool → Int32 → (Nat → Int32) → (Nat → Int32) → (Nat → Int64) → BR) : ∃ y, mX6_readBonds_175 th i x3 rt F false lk fr = F false y lk rt fr := by
  unfold mX6_readBonds_175
  by_cases h : mX10_isThere (nI i) th = true
  · rw [if_pos h]; exact ⟨_, rfl⟩
  · rw [if_neg h]; exact ⟨_, rfl⟩
theorem ib_off4 (i : Nat) (x3 : Int32) (rt : Nat → Int32) (F : Bool → Int32 → (Nat → Int32) → (Nat → Int32) → (Nat → Int64) → BR) (k r : Nat) (lk : Nat → Int32) (fr : Nat → Int64) : ∃ y, mX6_readBonds_88 1600 tc th i x3 rt F k r false lk fr = F false y lk rt fr := by
  cases k with
  | zero => rw [mX6_readBonds_88]; exact ib_off1 i x3 rt lk fr F
  | succ k =>
    rw [mX6_readBonds_88]
    by_cases h : mX10_isThere (nI i) th = true
    · rw [if_pos h, if_neg (by decide)]; exact ib_off1 i x3 rt lk fr F
    · rw [if_neg h]; exact ib_off1 i x3 rt lk fr F
theorem ib_off (k : Nat) : ∀ (i : Nat) (x3 : Int32) (lk rt : Nat → Int32) (fr : Nat → Int64), ∃ s, mX6_readBonds_78 1600 tc th k i false x3 lk rt fr = (false, s) := by
  induction k with
  | zero => intro i x3 lk rt fr; rw [mX6_readBonds_78]; exact ⟨_, rfl⟩
  | succ k ih =>
    intro i x3 lk rt fr
    rw [mX6_readBonds_78]
    obtain ⟨y, e⟩ := ib_off4 (tc := tc) (th := th) i x3 rt (fun zx2_78 zx3_78 zy_a_links_78 zy_a_roots_78 zy_a_from_78 => mX6_readBonds_78 1600 tc th k (i + 1) zx2_78 zx3_78 zy_a_links_78 zy_a_roots_78 zy_a_from_78) 4 0 lk fr
    rw [e]
    exact ih _ _ _ _ _
theorem ib_there (hth : zh th (fun t => decide (t < 40 ∧ 0 < iV tx 0 t))) {x : Nat} (hx : x < 256) : mX10_isThere (nI x) th = decide (x < 40 ∧ 0 < iV tx 0 x) := by
  unfold mX10_isThere
  by_cases h : x < 40
  · rw [zh_in hth h]
  · rw [s_in_out _ _ (Or.inr (nI_nlt (b := 40) (by omega) (by omega))), decide_eq_false (fun q => h q.1)]
/-- the links of a thing -/
theorem ib_4 (ht : ∀ i, i < n → tc i = nI (tx i)) (hb : ∀ i, i < n → tx i < 256) (hn : n ≤ 411) (hth : zh th (fun t => decide (t < 40 ∧ 0 < iV tx 0 t))) {i : Nat} (hi : i < 40) (h : ¬ tx (iP tx i) = 0) (h10 : iP tx i + 10 < n + 1) (rt : Nat → Int32) (F : Bool → Int32 → (Nat → Int32) → (Nat → Int32) → (Nat → Int64) → BR) : ∀ k r (lk : Nat → Int32) (fr : Nat → Int64), r + k = 4 → (∀ j, j < 4 * i + r → iLk tx j = true) → iCl tx (4 * i + r) lk fr → ((∀ j, j < 4 * i + 4 → iLk tx j = true) ∧ ∃ lk' fr', mX6_readBonds_88 1600 tc th i (nI (iP tx i)) rt F k r true lk fr = F true (nI (iP tx (i + 1))) lk' rt fr' ∧ iCl tx (4 * i + 4) lk' fr') ∨ (¬ (∀ j, j < 4 * i + 4 → iLk tx j = true) ∧ ∃ y lk' fr', mX6_readBonds_88 1600 tc th i (nI (iP tx i)) rt F k r true lk fr = F false y lk' rt fr') := by
  have thI : mX10_isThere (nI i) th = true := by
    rw [ib_there hth (by omega)]
    exact decide_eq_true ⟨hi, by rw [iV_1 h]; show 0 < tx (iP tx i); omega⟩
  intro k
  induction k with
  | zero =>
    intro r lk fr hr ok C
    have : r = 4 := by omega
    subst this
    refine Or.inl ⟨ok, lk, fr, ?_, C⟩
    rw [mX6_readBonds_88]
    unfold mX6_readBonds_175
    rw [if_pos thI, show nI (iP tx i) + 10 = nI (iP tx (i + 1)) by rw [show (10 : Int32) = nI 10 from rfl, nI_add, iP, if_neg h]]
  | succ k ih =>
    intro r lk fr hr ok C
    have hr4 : r < 4 := by omega
    have dj : (4 * i + r) / 4 = i := by omega
    have mj : (4 * i + r) % 4 = r := by omega
    have eA : mX11_at 1600 ((nI (iP tx i) + 6) + nI r) tc = nI (tx (iP tx i + 6 + r)) := by
      rw [show nI (iP tx i) + 6 = nI (iP tx i + 6) by rw [show (6 : Int32) = nI 6 from rfl, nI_add], nI_add, s_at 1600 _ (by omega) (by decide), ht _ (by omega)]
    have b0 := hb (iP tx i + 6 + r) (by omega)
    have iLe : iL tx (4 * i + r) = iTo (tx (iP tx i + 6 + r)) := by unfold iL; rw [dj, mj, if_neg h]
    have iKe : iLk tx (4 * i + r) = iAim tx (tx (iP tx i + 6 + r)) := by unfold iLk; rw [dj, mj, decide_eq_false h, Bool.false_or]
    have toC : iTo (tx (iP tx i + 6 + r)) ≤ 40 → ∃ lk' fr', mX10_point (nI i) (nI r) (bno (iTo (tx (iP tx i + 6 + r)))) lk fr = (lk', fr') ∧ iCl tx (4 * i + r + 1) lk' fr' := by
      intro hc
      have g0 := gLm_ok (tx := tx) (4 * i + r) ok
      have g1 : gok (fun _ => true) (gset (gLm tx (4 * i + r)) 6 (4 * i + r) (iTo (tx (iP tx i + 6 + r)))) := gok_s g0 _ hc (fun _ _ => rfl)
      obtain ⟨lk', fr', e, l1, l2⟩ := c_point g0 g1 hi hr4 hc C.1 C.2
      refine ⟨lk', fr', e, ?_, ?_⟩
      · rw [← gLm_s, iLe]; exact l1
      · rw [← gLm_s, iLe]; exact l2
    rw [mX6_readBonds_88, if_pos thI, if_pos rfl, eA]
    have is255 : (nI (tx (iP tx i + 6 + r)) = 255) ↔ tx (iP tx i + 6 + r) = 255 := nI_eq (b := 255) (by omega) (by decide)
    have more : iLk tx (4 * i + r) = true → ∀ j, j < 4 * i + (r + 1) → iLk tx j = true := fun q j hj => by
      by_cases e : j = 4 * i + r
      · rw [e]; exact q
      · exact ok j (by omega)
    unfold mX6_readBonds_137 mX6_readBonds_142
    rw [eA]
    by_cases x255 : tx (iP tx i + 6 + r) = 255
    · obtain ⟨lk', fr', e, C'⟩ := toC (by unfold iTo; rw [if_pos x255]; exact Nat.zero_le _)
      have e' : mX10_point (nI i) (nI r) ((-1) : Int32) lk fr = (lk', fr') := by
        rw [← e]; unfold iTo; rw [if_pos x255]; rfl
      rw [if_pos (is255.mpr x255), if_pos (is255.mpr x255), e', xlet_eq, xu_q]
      exact ih (r + 1) lk' fr' (by omega) (more (by rw [iKe]; exact decide_eq_true (Or.inl x255))) C'
    · rw [if_neg (fun q => x255 (is255.mp q)), ib_there hth b0]
      by_cases aim : tx (iP tx i + 6 + r) < 40 ∧ 0 < iV tx 0 (tx (iP tx i + 6 + r))
      · obtain ⟨lk', fr', e, C'⟩ := toC (by unfold iTo; rw [if_neg x255]; omega)
        have e' : mX10_point (nI i) (nI r) (nI (tx (iP tx i + 6 + r))) lk fr = (lk', fr') := by
          rw [← e]; unfold iTo; rw [if_neg x255, bnoS]
        rw [decide_eq_true aim, if_pos rfl, if_neg (fun q => x255 (is255.mp q)), if_pos rfl, e', xlet_eq, xu_q]
        exact ih (r + 1) lk' fr' (by omega) (more (by rw [iKe]; exact decide_eq_true (Or.inr aim))) C'
      · rw [decide_eq_false aim, if_neg (by decide), if_neg (fun q => x255 (is255.mp q)), if_neg (by decide)]
        refine Or.inr ⟨fun q => ?_, ?_⟩
        · have := q (4 * i + r) (by omega)
          rw [iKe] at this
          rcases of_decide_eq_true this with y | y
          · exact x255 y
          · exact aim y
        · rcases hp : mX10_point (nI i) (nI r) ((-1) : Int32) lk fr with ⟨lk', fr'⟩
          rw [xlet_eq, xu_q]
          obtain ⟨y, e⟩ := ib_off4 (tc := tc) (th := th) i (nI (iP tx i)) rt F k (r + 1) lk' fr'
          exact ⟨y, lk', fr', e⟩
theorem ib_78 (ht : ∀ i, i < n → tc i = nI (tx i)) (hb : ∀ i, i < n → tx i < 256) (hn : n ≤ 411) (hth : zh th (fun t => decide (t < 40 ∧ 0 < iV tx 0 t))) (hend : iP tx 40 ≤ n) (rt : Nat → Int32) : ∀ k i (lk : Nat → Int32) (fr : Nat → Int64), i + k = 40 → (∀ j, j < 4 * i → iLk tx j = true) → iCl tx (4 * i) lk fr → ((∀ j, j < 160 → iLk tx j = true) ∧ ∃ lk' fr', mX6_readBonds_78 1600 tc th k i true (nI (iP tx i)) lk rt fr = (true, lk', rt, fr') ∧ iCl tx 160 lk' fr') ∨ (¬ (∀ j, j < 160 → iLk tx j = true) ∧ ∃ s, mX6_readBonds_78 1600 tc th k i true (nI (iP tx i)) lk rt fr = (false, s)) := by
  intro k
  induction k with
  | zero =>
    intro i lk fr hi ok C
    have : i = 40 := by omega
    subst this
    rw [mX6_readBonds_78]
    exact Or.inl ⟨ok, lk, fr, rfl, C⟩
  | succ k ih =>
    intro i lk fr hi ok C
    have hi40 : i < 40 := by omega
    rw [mX6_readBonds_78]
    by_cases z : tx (iP tx i) = 0
    · have no : ¬ mX10_isThere (nI i) th = true := by
        rw [ib_there hth (by omega), decide_eq_true_eq, iV_0 z]
        omega
      rw [mX6_readBonds_88, if_neg no]
      unfold mX6_readBonds_175
      rw [if_neg no, nI_1, show iP tx i + 1 = iP tx (i + 1) by rw [iP, if_pos z]]
      have e0 : ∀ q, q < 4 → iL tx (4 * i + q) = 0 := fun q hq => by
        unfold iL; rw [show (4 * i + q) / 4 = i by omega, if_pos z]
      refine ih (i + 1) lk fr (by omega) (fun j hj => ?_) ?_
      · by_cases w : j < 4 * i
        · exact ok j w
        · unfold iLk
          rw [show j / 4 = i by omega, decide_eq_true z, Bool.true_or]
      · have : gLm tx (4 * (i + 1)) = gLm tx (4 * i) := by
          funext a j
          show (if a = 6 ∧ j < 4 * (i + 1) then iL tx j else 0) = if a = 6 ∧ j < 4 * i then iL tx j else 0
          by_cases w : a = 6 ∧ j < 4 * i
          · rw [if_pos w, if_pos ⟨w.1, by omega⟩]
          · rw [if_neg w]
            by_cases v : a = 6 ∧ j < 4 * (i + 1)
            · rw [if_pos v]
              have hj : ¬ j < 4 * i := fun q => w ⟨v.1, q⟩
              have := e0 (j - 4 * i) (by omega)
              rw [show 4 * i + (j - 4 * i) = j by omega] at this
              exact this
            · rw [if_neg v]
        unfold iCl
        rw [this]
        exact C
    · have up : iP tx (i + 1) ≤ iP tx 40 := by have := iP_up (tx := tx) (i + 1) k; rw [show i + 1 + k = 40 by omega] at this; exact this
      have e10 : iP tx (i + 1) = iP tx i + 10 := by rw [iP, if_neg z]
      rcases ib_4 ht hb hn hth hi40 z (by omega) rt (fun zx2_78 zx3_78 zy_a_links_78 zy_a_roots_78 zy_a_from_78 => mX6_readBonds_78 1600 tc th k (i + 1) zx2_78 zx3_78 zy_a_links_78 zy_a_roots_78 zy_a_from_78) 4 0 lk fr rfl ok C with ⟨a, lk', fr', e, C'⟩ | ⟨a, y, lk', fr', e⟩
      · rw [e]
        exact ih (i + 1) lk' fr' (by omega) a C'
      · rw [e]
        exact Or.inr ⟨fun q => a (fun j hj => q j (by omega)), ib_off k _ _ _ _ _⟩
/-- roots -/
theorem ib_roots (ht : ∀ i, i < n → tc i = nI (tx i)) (hb : ∀ i, i < n → tx i < 256) (hn : n ≤ 411) (h50 : 50 < n) (hth : zh th (fun t => decide (t < 40 ∧ 0 < iV tx 0 t))) (hend : iP tx 40 ≤ n) (lk : Nat → Int32) (fr : Nat → Int64) (C : iCl tx 0 lk fr) : ∀ k i (rt : Nat → Int32), i + k = 8 → (∀ j, j < i → iAim tx (tx (2 + j)) = true) → (∀ j, j < i → rt j = bno (iTo (tx (2 + j)))) → (((∀ j, j < 8 → iAim tx (tx (2 + j)) = true) ∧ ∀ j, j < 160 → iLk tx j = true) ∧ ∃ lk' rt' fr', mX6_readBonds_4 1600 tc th lk fr k i true rt = (true, lk', rt', fr') ∧ iCl tx 160 lk' fr' ∧ ∀ j, j < 8 → rt' j = bno (iTo (tx (2 + j)))) ∨ (¬ ((∀ j, j < 8 → iAim tx (tx (2 + j)) = true) ∧ ∀ j, j < 160 → iLk tx j = true) ∧ ∃ s, mX6_readBonds_4 1600 tc th lk fr k i true rt = (false, s)) := by
  have off : ∀ k i (rt : Nat → Int32), ∃ s, mX6_readBonds_4 1600 tc th lk fr k i false rt = (false, s) := by
    intro k
    induction k with
    | zero => intro i rt; rw [mX6_readBonds_4]; exact ib_off 40 0 _ _ _ _
    | succ k ih =>
      intro i rt
      rw [mX6_readBonds_4, if_neg (by decide)]
      unfold mX6_readBonds_44 mX6_readBonds_45
      split
      · exact ih _ _
      · exact ih _ _
  intro k
  induction k with
  | zero =>
    intro i rt hi ok R
    have : i = 8 := by omega
    subst this
    rw [mX6_readBonds_4]
    rcases ib_78 ht hb hn hth hend rt 40 0 lk fr rfl (fun j hj => absurd hj (Nat.not_lt_zero _)) C with ⟨a, lk', fr', e, C'⟩ | ⟨a, s, e⟩
    · exact Or.inl ⟨⟨ok, a⟩, lk', rt, fr', e, C', R⟩
    · exact Or.inr ⟨fun q => a q.2, s, e⟩
  | succ k ih =>
    intro i rt hi ok R
    have hi8 : i < 8 := by omega
    have eA : mX11_at 1600 (2 + nI i) tc = nI (tx (2 + i)) := by
      rw [show (2 : Int32) + nI i = nI (2 + i) by rw [show (2 : Int32) = nI 2 from rfl, nI_add], s_at 1600 _ (by omega) (by decide), ht _ (by omega)]
    have b0 := hb (2 + i) (by omega)
    have is255 : (nI (tx (2 + i)) = 255) ↔ tx (2 + i) = 255 := nI_eq (b := 255) (by omega) (by decide)
    have more : iAim tx (tx (2 + i)) = true → ∀ j, j < i + 1 → iAim tx (tx (2 + j)) = true := fun q j hj => by
      by_cases e : j = i
      · rw [e]; exact q
      · exact ok j (by omega)
    have put : ∀ x : Int32, x = bno (iTo (tx (2 + i))) → ∀ j, j < i + 1 → upd rt i x j = bno (iTo (tx (2 + j))) := fun x hx j hj => by
      by_cases e : j = i
      · subst e; rw [pk_us]; exact hx
      · rw [pk_un e]; exact R j (by omega)
    rw [mX6_readBonds_4, if_pos rfl]
    unfold mX6_readBonds_40 mX6_readBonds_44 mX6_readBonds_45
    rw [eA, zc i (by omega)]
    by_cases x255 : tx (2 + i) = 255
    · rw [if_pos (is255.mpr x255), if_pos (is255.mpr x255)]
      exact ih (i + 1) _ (by omega) (more (decide_eq_true (Or.inl x255))) (put _ (by unfold iTo; rw [if_pos x255]; rfl))
    · rw [if_neg (fun q => x255 (is255.mp q)), if_neg (fun q => x255 (is255.mp q)), ib_there hth b0]
      by_cases aim : tx (2 + i) < 40 ∧ 0 < iV tx 0 (tx (2 + i))
      · rw [decide_eq_true aim, if_pos rfl]
        exact ih (i + 1) _ (by omega) (more (decide_eq_true (Or.inr aim))) (put _ (by unfold iTo; rw [if_neg x255, bnoS]))
      · rw [decide_eq_false aim, if_neg (by decide), if_neg (fun q => x255 (is255.mp q))]
        refine Or.inr ⟨fun q => ?_, off _ _ _⟩
        rcases of_decide_eq_true (q.1 i hi8) with y | y
        · exact x255 y
        · exact aim y
end IB
