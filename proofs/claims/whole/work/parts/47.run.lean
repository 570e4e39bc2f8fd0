section RU
variable (S V : Nat → Nat) (N : Nat) (D : Nat → Nat) (T : Nat → Nat → Bool) (code cf cl : Nat → Int32) (F F2 w b : Nat) (fa asked : Nat → Int32) (sf sb so va : Nat → Int32)
theorem e_run (hok : cok S V N D T) (hw : w < 3) (hb : b < 2) (hN : F + N ≤ 1600) (hN2 : F2 + N ≤ 1600) (hcl : cl w = nI N) (hcf : cf w = nI F) (hcode : ∀ c, c < N → code (F + c) = ecl (S c) (V c))
    (hsb : sb (3 * b + w) = nI (F2 + N)) (hso : ∀ c, c < N → so (1600 * b + F2 + c) = nI (S c)) (hva : ∀ c, c < N → S c = 0 → va (1600 * b + F2 + c) = nI (V c))
    (hfa : ∀ c, c < N → 1 ≤ S c → S c ≤ 7 → asked (S c) = fa (fxi (S c))) (hfb : ∀ j, j < 4 → kB (fa j)) :
    ∀ (k c f : Nat) (cs : Nat → Int32) (rs : Nat → Int64), c + k = N → k < f → kS (D c) (T c) cs rs → ∃ (r tp : Int32) (cs' : Nat → Int32) (rs' : Nat → Int64),
      mX9_run_38 (nI w) fa code cf cl (1600 - c) c (nI (D c)) cs = (r, tp, cs') ∧ mX12_reckons_25 (nI w) (nI b) sb so va asked f (nI (D c)) (nI (1600 * b + F2 + c)) rs = some (r.toInt64, rs') ∧ kB r ∧ (T N 0 = true → kT r) := by
  intro k
  have eB : (1600 : Int32) * nI b + sb ((3 * nI b + nI w).toNatClampNeg) = nI (1600 * b + (F2 + N)) := by
    rw [show (3 : Int32) = nI 3 from rfl, pk_mul, nI_add, zc _ (by omega), hsb, show (1600 : Int32) = nI 1600 from rfl, pk_mul, nI_add]
  have eL : mX11_at 3 (nI w) cl = nI N := by rw [s_at 3 w hw (by decide), hcl]
  have eF : mX11_at 3 (nI w) cf = nI F := by rw [s_at 3 w hw (by decide), hcf]
  induction k with
  | zero =>
    intro c f cs rs hc hf hS
    obtain ⟨f, rfl⟩ : ∃ q, f = q + 1 := ⟨f - 1, by omega⟩
    have ec : c = N := by omega
    subst ec
    have hD := hok.2.1
    rw [hD] at hS ⊢
    obtain ⟨h1, h2, h3⟩ := hS 0 (by omega)
    refine ⟨cs 0, nI 0, cs, rs, ?_, ?_, h2, h3⟩
    · cases hq : 1600 - c with
      | zero => rw [mX9_run_38, eL, if_neg (nI_nlt (Nat.le_refl _) (by omega)), p_pop 0 (by decide), xlet_eq, xu_r]
      | succ q => rw [mX9_run_38, eL, if_neg (nI_nlt (Nat.le_refl _) (by omega)), p_pop 0 (by decide), xlet_eq, xu_r]
    · rw [mX12_reckons_25, eB, if_neg (nI_nlt (by omega) (by omega)), ← h1]
      rfl
  | succ k ih =>
    intro c f cs rs hc hf hS
    obtain ⟨f, rfl⟩ : ∃ q, f = q + 1 := ⟨f - 1, by omega⟩
    have hcN : c < N := by omega
    obtain ⟨hd100, hst⟩ := hok.2.2 c hcN
    have e16 : 1600 - c = (1600 - (c + 1)) + 1 := by omega
    have eC : mX11_at 1600 (nI F + nI c) code = ecl (S c) (V c) := by rw [nI_add, s_at 1600 (F + c) (by omega) (by decide), hcode c hcN]
    have hlt : nI (1600 * b + F2 + c) < nI (1600 * b + (F2 + N)) := nI_lt (by omega) (by omega)
    have eX : xinb (nI (1600 * b + F2 + c)) 3200 = true := zb _ _ (by omega) (by decide)
    have eN : (nI (1600 * b + F2 + c)).toNatClampNeg = 1600 * b + F2 + c := zc _ (by omega)
    have next := ih (c + 1) f
    have e1 : nI (1600 * b + F2 + c) + 1 = nI (1600 * b + F2 + (c + 1)) := by rw [nI_1]; congr 1
    rw [e16, mX9_run_38, eL, eF, eC, if_pos (nI_lt hcN (by omega)), mX12_reckons_25, eB, if_pos hlt, eX, if_pos rfl, eN, hso c hcN, e1]
    have s43 : ∀ x y : Nat, x < 1000 → y < 1000 → (nI x = nI y ↔ x = y) := fun x y hx hy => nI_eq (by omega) (by omega)
    have l30 : ∀ x, x < 1000 → ((30 : Int32) < nI x ↔ 30 < x) := fun x hx => nI_ltI (a := 30) (by decide) (by omega)
    rcases hst with ⟨h1, h2, h3, h4⟩ | ⟨h1, h3, h4⟩ | ⟨h1, h2, h3, h5, h6⟩ | ⟨h1, h3, h4, h5, h6, h7⟩ | ⟨h1, h3, h4, h5, h6⟩ | ⟨h1, h3, h4, h5, h6⟩
    · -- a number or a fact
      have n30 : ¬ (30 : Int32) < nI (S c) := fun q => by have := (l30 _ (by omega)).mp q; omega
      rw [if_neg n30]
      have hd : D c < 100 := by omega
      by_cases hz : S c = 0
      · rw [hz, ecl_0, if_neg (zn0 (by have := h2 hz; omega)), if_pos (show nI 0 = 0 from rfl), p_push _ _ (by omega), xlet_eq, xu_r, zb (D c) 500 (by omega) (by decide), if_pos rfl, zc (D c) (by omega), hva c hcN hz, nI_1]
        have hv := h2 hz
        rw [← h3]
        refine next _ _ (by omega) (by omega) ?_
        rw [h4, h3]
        exact kS_put hS rfl ⟨by rw [nI_toInt (by omega)]; omega, by rw [nI_toInt (by omega)]; omega⟩ (fun q => absurd q (by decide)) (Nat.le_refl _) (Nat.le_refl _)
      · obtain ⟨p1, p2, p3, p4⟩ := ecl_fact (S c) (V c) (by omega) h1
        have q0 : ¬ nI (S c) = 0 := fun q => hz ((s43 _ 0 (by omega) (by decide)).mp q)
        have q30 : ¬ nI (S c) = 30 := fun q => by have := (s43 _ 30 (by omega) (by decide)).mp q; omega
        rw [if_pos p1, if_pos p2, p3, s_at 4 _ p4 (by decide), p_push _ _ (by omega), xlet_eq, xu_r, if_neg q0, if_neg q30, zb (S c) 12 (by omega) (by decide), if_pos rfl, zb (D c) 500 (by omega) (by decide), if_pos rfl, zc (D c) (by omega), zc (S c) (by omega), hfa c hcN (by omega) h1, nI_1]
        rw [← h3]
        refine next _ _ (by omega) (by omega) ?_
        rw [h4, h3]
        exact kS_put hS rfl (hfb _ p4) (fun q => absurd q (by decide)) (Nat.le_refl _) (Nat.le_refl _)
    · -- all
      have hd : D c < 100 := by omega
      rw [h1, show ecl 30 (V c) = 1 from rfl, if_neg (by decide), p_push _ _ (by omega), xlet_eq, xu_r, if_neg (by decide), if_neg (by decide), if_pos (show nI 30 = 30 from rfl), zb (D c) 500 (by omega) (by decide), if_pos rfl, zc (D c) (by omega), nI_1]
      rw [← h3]
      refine next _ _ (by omega) (by omega) ?_
      rw [h4, h3]
      exact kS_put hS rfl (kT_B (Or.inr rfl)) (fun _ => Or.inr rfl) (Nat.le_refl _) (Nat.le_refl _)
    · -- + - * / % min max < > =
      obtain ⟨p1, p2, p3, p4⟩ := ecl_big (S c) h1 (by omega)
      obtain ⟨d, hd⟩ : ∃ d, D c = d + 2 := ⟨D c - 2, by omega⟩
      rw [hd] at hS h5 h6
      obtain ⟨a1, a2, a3⟩ := hS d (by omega)
      obtain ⟨b1, b2, b3⟩ := hS (d + 1) (by omega)
      obtain ⟨j1, j2, j3⟩ := k_two a2 b2 (S c) h1 (by omega) (Or.inl h2)
      have hd2 : d + 2 < 128 := by omega
      rw [ecl_j _ _ h1, hd, if_pos p1, if_neg p2, if_neg (fun q => by have := p3.mp q; omega), if_neg (fun q => by have := p4.mp q; omega), p_pop (d + 1) (by omega), xlet_eq, xu_r, p_pop d (by omega), xlet_eq, xu_r, p_push _ _ (by omega), xlet_eq, xu_r]
      rw [if_pos ((l30 (S c) (by omega)).mpr (by omega)), if_neg (fun q => by have := (s43 (S c) 43 (by omega) (by decide)).mp q; omega), if_neg (fun q => by have := (s43 (S c) 44 (by omega) (by decide)).mp q; omega)]
      have m1 : nI (d + 2) + (-1) = nI (d + 1) := pk_m1 (d + 1)
      rw [m1, nI_pred, zb d 500 (by omega) (by decide), if_pos rfl, zb (d + 1) 500 (by omega) (by decide), if_pos rfl, zc d (by omega), zc (d + 1) (by omega), a1, b1, j1, obind]
      have e5 : D (c + 1) = d + 1 := by omega
      rw [← e5]
      refine next _ _ (by omega) (by omega) ?_
      rw [h6, e5]
      exact kS_put hS rfl j2 (fun q => j3 (of_decide_eq_true q)) (by omega) (by omega)
    · -- and or
      have hs : 31 ≤ S c ∧ S c ≤ 42 := by omega
      obtain ⟨p1, p2, p3, p4⟩ := ecl_big (S c) hs.1 (by omega)
      obtain ⟨d, hd⟩ : ∃ d, D c = d + 2 := ⟨D c - 2, by omega⟩
      rw [hd] at hS h4 h5 h6 h7
      obtain ⟨a1, a2, a3⟩ := hS d (by omega)
      obtain ⟨b1, b2, b3⟩ := hS (d + 1) (by omega)
      have ta := a3 h5
      have tb := b3 h4
      obtain ⟨j1, j2, j3⟩ := k_two a2 b2 (S c) hs.1 hs.2 (Or.inr ⟨ta, tb⟩)
      have hd2 : d + 2 < 128 := by omega
      rw [ecl_j _ _ hs.1, hd, if_pos p1, if_neg p2, if_neg (fun q => by have := p3.mp q; omega), if_neg (fun q => by have := p4.mp q; omega), p_pop (d + 1) (by omega), xlet_eq, xu_r, p_pop d (by omega), xlet_eq, xu_r, p_push _ _ (by omega), xlet_eq, xu_r]
      rw [if_pos ((l30 (S c) (by omega)).mpr (by omega)), if_neg (fun q => by have := (s43 (S c) 43 (by omega) (by decide)).mp q; omega), if_neg (fun q => by have := (s43 (S c) 44 (by omega) (by decide)).mp q; omega)]
      have m1 : nI (d + 2) + (-1) = nI (d + 1) := pk_m1 (d + 1)
      rw [m1, nI_pred, zb d 500 (by omega) (by decide), if_pos rfl, zb (d + 1) 500 (by omega) (by decide), if_pos rfl, zc d (by omega), zc (d + 1) (by omega), a1, b1, j1, obind]
      have e5 : D (c + 1) = d + 1 := by omega
      rw [← e5]
      refine next _ _ (by omega) (by omega) ?_
      rw [h7, e5]
      exact kS_put hS rfl j2 (fun _ => j3 (by omega)) (by omega) (by omega)
    · -- not
      obtain ⟨p1, p2, p3, p4⟩ := ecl_big (S c) (by omega) (by omega)
      obtain ⟨d, hd⟩ : ∃ d, D c = d + 1 := ⟨D c - 1, by omega⟩
      rw [hd] at hS h4 h5
      obtain ⟨a1, a2, a3⟩ := hS d (by omega)
      have ta := a3 h4
      have l3 : (30 : Int32) < nI (S c) := (l30 (S c) (by omega)).mpr (by omega)
      have q43 : nI (S c) = 43 := (s43 (S c) 43 (by omega) (by decide)).mpr h1
      rw [ecl_j _ _ (by omega), hd, if_pos p1, if_neg p2, if_pos (p3.mpr h1), p_pop d (by omega), xlet_eq, xu_r, p_push _ _ (by omega), xlet_eq, xu_r]
      rw [if_pos l3, if_pos q43, nI_pred, zb d 500 (by omega) (by decide), if_pos rfl, zc d (by omega), a1]
      have tn : kT (1 - cs d) ∧ (1 : Int64) - (cs d).toInt64 = (1 - cs d).toInt64 := by
        rcases ta with q | q <;> rw [q]
        · exact ⟨Or.inr (by decide), by decide⟩
        · exact ⟨Or.inl (by decide), by decide⟩
      rw [← h5]
      refine next _ _ (by omega) (by omega) ?_
      rw [h6, h5]
      have e7 : updB (T c) d true = T c := by
        funext j
        by_cases z : j = d
        · subst z; simp [updB]; exact h4
        · simp [updB, z]
      rw [← e7]
      exact kS_put hS tn.2 (kT_B tn.1) (fun _ => tn.1) (by omega) (by omega)
    · -- if
      obtain ⟨p1, p2, p3, p4⟩ := ecl_big (S c) (by omega) (by omega)
      obtain ⟨d, hd⟩ : ∃ d, D c = d + 3 := ⟨D c - 3, by omega⟩
      rw [hd] at hS h4 h5 h6
      obtain ⟨a1, a2, a3⟩ := hS d (by omega)
      obtain ⟨b1, b2, b3⟩ := hS (d + 1) (by omega)
      obtain ⟨c1, c2, c3⟩ := hS (d + 2) (by omega)
      have ta := a3 h4
      have l3 : (30 : Int32) < nI (S c) := (l30 (S c) (by omega)).mpr (by omega)
      have q43 : ¬ nI (S c) = 43 := fun q => by have := (s43 (S c) 43 (by omega) (by decide)).mp q; omega
      have q44 : nI (S c) = 44 := (s43 (S c) 44 (by omega) (by decide)).mpr h1
      have hd2 : d + 3 < 128 := by
        have := hok.2.2
        rcases Nat.eq_zero_or_pos c with z | z
        · subst z; have := hok.1; omega
        · have := (this (c - 1) (by omega)).1
          rw [show c - 1 + 1 = c by omega] at this
          omega
      rw [ecl_j _ _ (by omega), hd, if_pos p1, if_neg p2, if_neg (fun q => by have := p3.mp q; omega), if_pos (p4.mpr h1), p_pop (d + 2) (by omega), xlet_eq, xu_r, p_pop (d + 1) (by omega), xlet_eq, xu_r, p_pop d (by omega), xlet_eq, xu_r]
      rw [if_pos l3, if_neg q43, if_pos q44]
      have m2 : nI (d + 3) + (-2) = nI (d + 1) := by
        rw [show ((-2) : Int32) = (-1) + (-1) by decide, ← Int32.add_assoc, pk_m1 (d + 2), pk_m1 (d + 1)]
      have e5 : D (c + 1) = d + 1 := by omega
      rw [m2, nI_pred, nI_1, zb d 500 (by omega) (by decide), if_pos rfl, zc d (by omega), zb (d + 1) 500 (by omega) (by decide), zc (d + 1) (by omega), zb (d + 2) 500 (by omega) (by decide), zc (d + 2) (by omega), a1]
      rcases ta with q | q
      · rw [q, if_pos rfl, p_push _ _ (by omega), xlet_eq, xu_r, if_neg (by decide), if_pos rfl, ← e5]
        refine next _ _ (by omega) (by omega) ?_
        rw [h6, e5]
        exact kS_put hS c1 c2 (fun q => absurd q (by decide)) (by omega) (by omega)
      · rw [q, if_neg (by decide), p_push _ _ (by omega), xlet_eq, xu_r, if_pos (by decide), if_pos rfl, ← e5]
        refine next _ _ (by omega) (by omega) ?_
        rw [h6, e5]
        exact kS_put hS b1 b2 (fun q => absurd q (by decide)) (by omega) (by omega)
/-- the whole sum or test -/
theorem e_reckons (hok : cok S V N D T) (hw : w < 3) (hb : b < 2) (h0 : 0 < N) (hN : F + N ≤ 1600) (hN2 : F2 + N ≤ 1600) (hcl : cl w = nI N) (hcf : cf w = nI F) (hcode : ∀ c, c < N → code (F + c) = ecl (S c) (V c))
    (hsf : sf (3 * b + w) = nI F2) (hsb : sb (3 * b + w) = nI (F2 + N)) (hso : ∀ c, c < N → so (1600 * b + F2 + c) = nI (S c)) (hva : ∀ c, c < N → S c = 0 → va (1600 * b + F2 + c) = nI (V c))
    (hfa : ∀ c, c < N → 1 ≤ S c → S c ≤ 7 → asked (S c) = fa (fxi (S c))) (hfb : ∀ j, j < 4 → kB (fa j)) (tp0 : Int32) (cs : Nat → Int32) (rs : Nat → Int64) :
    ∃ (r tp : Int32) (cs' : Nat → Int32) (rs' : Nat → Int64), mX9_run (nI w) tp0 fa cs code cf cl = (r, tp, cs') ∧ mX12_reckons (nI w) (nI b) sf sb so va rs asked = some (r.toInt64, rs') ∧ kB r ∧ (T N 0 = true → kT r) := by
  obtain ⟨r, tp, cs', rs', a, b', c, d⟩ := e_run S V N D T code cf cl F F2 w b fa asked sb so va hok hw hb hN hN2 hcl hcf hcode hsb hso hva hfa hfb N 0 xfuel cs rs (Nat.zero_add _) (by unfold xfuel; omega) (fun j hj => by rw [hok.1] at hj; omega)
  rw [hok.1] at a b'
  refine ⟨r, tp, cs', rs', ?_, ?_, c, d⟩
  · unfold mX9_run
    rw [s_at 3 w hw (by decide), hcl, if_pos (show 0 < nI N from nI_lt (a := 0) h0 (by omega))]
    exact a
  · unfold mX12_reckons
    have e : (3 : Int32) * nI b + nI w = nI (3 * b + w) := by rw [show (3 : Int32) = nI 3 from rfl, pk_mul, nI_add]
    have e2 : (1600 : Int32) * nI b + nI F2 = nI (1600 * b + F2 + 0) := by rw [show (1600 : Int32) = nI 1600 from rfl, pk_mul, nI_add]; rfl
    rw [e, zb _ 6 (by omega) (by decide), if_pos rfl, zc _ (by omega), hsf, e2]
    exact b'
end RU
