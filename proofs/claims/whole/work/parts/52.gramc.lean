section GC
variable (K V St : Nat → Nat) (lw B T' : Nat) (ks ss vs : Nat → Int32)
/-- the signs as the class holds them -/
def gTok : Prop := B ≤ 1600 ∧ B < T' ∧ T' ≤ 1602 ∧ (∀ k, k ≤ B → ks k = nI (K k) ∧ ss k = nI (St k) ∧ vs k = nI (V k) ∧ K k < 6 ∧ V k < 1000000000 ∧ St k < 100000) ∧ (∀ k, k < B → 2 ≤ K k) ∧ K B < 2
variable {K V St lw B T' ks ss vs}
theorem t_next (h : gTok K V St B T' ks ss vs) {k : Nat} (hk : k < B) (st : Int32) : mX8_next (nI T') (nI k) st ks ss vs = (nI (k + 1), nI (K (k + 1)), nI (St (k + 1)), nI (V (k + 1))) := by
  obtain ⟨h1, h2, h3, h4, _⟩ := h
  obtain ⟨a, b, c, _⟩ := h4 (k + 1) (by omega)
  unfold mX8_next
  rw [nI_1, if_neg (zn0 (by omega)), if_pos (nI_lt (by omega) (by omega)), if_neg (show ¬ 1600 < nI (k + 1) from nI_nlt (a := 1600) (by omega) (by decide)), zc (k + 1) (by omega), a, b, c]
theorem t_own (h : gTok K V St B T' ks ss vs) {k : Nat} (hk : k ≤ B) (w : Nat) (hw : w < 1000) : mX8_ownNow (nI (K k)) (nI (V k)) = nI w ↔ gOw K V k w = true := by
  obtain ⟨_, _, _, a, b, _⟩ := h.2.2.2.1 k hk
  unfold mX8_ownNow gOw
  rw [Bool.and_eq_true, decide_eq_true_iff, decide_eq_true_iff]
  by_cases e : K k = 4
  · rw [if_pos (show nI (K k) = 4 by rw [e]; rfl), nI_eq (by omega) (by omega)]
    exact ⟨fun q => ⟨e, q⟩, fun q => q.2⟩
  · rw [if_neg (show ¬ nI (K k) = 4 from fun q => e ((nI_eq (b := 4) (by omega) (by decide)).mp q))]
    exact ⟨fun q => absurd q.symm (nI_m1 (by omega)), fun q => absurd q.1 e⟩
theorem t_sgn (h : gTok K V St B T' ks ss vs) {k : Nat} (hk : k ≤ B) (w : Nat) (hw : w < 1000) : mX8_signNow (nI (K k)) (nI (V k)) = nI w ↔ gSg K V k w = true := by
  obtain ⟨_, _, _, a, b, _⟩ := h.2.2.2.1 k hk
  unfold mX8_signNow gSg
  rw [Bool.and_eq_true, decide_eq_true_iff, decide_eq_true_iff]
  by_cases e : K k = 5
  · rw [if_pos (show nI (K k) = 5 by rw [e]; rfl), nI_eq (by omega) (by omega)]
    exact ⟨fun q => ⟨e, q⟩, fun q => q.2⟩
  · rw [if_neg (show ¬ nI (K k) = 5 from fun q => e ((nI_eq (b := 5) (by omega) (by decide)).mp q))]
    exact ⟨fun q => absurd q.symm (nI_m1 (by omega)), fun q => absurd q.1 e⟩
theorem t_where (h : gTok K V St B T' ks ss vs) {k : Nat} (hk : k ≤ B) : mX8_where (nI (K k)) (nI (St k)) (nI (V k)) = nI (gWh K V St k) := by
  obtain ⟨_, _, _, a, b, _⟩ := h.2.2.2.1 k hk
  unfold mX8_where gWh
  by_cases e : K k = 1
  · rw [if_pos (show nI (K k) = 1 by rw [e]; rfl), if_pos e]
  · rw [if_neg (show ¬ nI (K k) = 1 from fun q => e ((nI_eq (b := 1) (by omega) (by decide)).mp q)), if_neg e]
theorem t_lt (h : gTok K V St B T' ks ss vs) {k : Nat} (hk : k ≤ B) (h2 : 2 ≤ K k) : k < B := by
  rcases Nat.lt_or_ge k B with q | q
  · exact q
  · have : k = B := by omega
    subst this
    have := h.2.2.2.2.2
    omega
theorem t_owlt (h : gTok K V St B T' ks ss vs) {k w : Nat} (hk : k ≤ B) (q : gOw K V k w = true) : k < B := by
  unfold gOw at q
  rw [Bool.and_eq_true, decide_eq_true_iff] at q
  exact t_lt h hk (by omega)
theorem t_sglt (h : gTok K V St B T' ks ss vs) {k w : Nat} (hk : k ≤ B) (q : gSg K V k w = true) : k < B := by
  unfold gSg at q
  rw [Bool.and_eq_true, decide_eq_true_iff] at q
  exact t_lt h hk (by omega)
theorem gSg_one {k a b : Nat} (h : gSg K V k a = true) (hab : a ≠ b) : gSg K V k b = false := by
  unfold gSg at h ⊢
  rw [Bool.and_eq_true, decide_eq_true_iff, decide_eq_true_iff] at h
  rw [decide_eq_false (p := V k = b) (by omega), Bool.and_false]
theorem gOw_one {k a b : Nat} (h : gOw K V k a = true) (hab : a ≠ b) : gOw K V k b = false := by
  unfold gOw at h ⊢
  rw [Bool.and_eq_true, decide_eq_true_iff, decide_eq_true_iff] at h
  rw [decide_eq_false (p := V k = b) (by omega), Bool.and_false]
/-- what is owed, as the class holds it -/
def eow (w : Nat) : Int32 := if w = 0 then 0 else ecl w 0
theorem t_prod (h : gTok K V St B T' ks ss vs) {k : Nat} (hk : k ≤ B) : mX8_productNow (nI (K k)) (nI (V k)) = eow (gSt K V k) := by
  unfold mX8_productNow gSt
  have a : mX8_signNow (nI (K k)) (nI (V k)) = 37 ↔ gSg K V k 37 = true := t_sgn h hk 37 (by decide)
  have b : mX8_signNow (nI (K k)) (nI (V k)) = 42 ↔ gSg K V k 42 = true := t_sgn h hk 42 (by decide)
  have c : mX8_signNow (nI (K k)) (nI (V k)) = 47 ↔ gSg K V k 47 = true := t_sgn h hk 47 (by decide)
  by_cases p : gSg K V k 37 = true
  · rw [if_pos (a.mpr p), gSg_one p (by decide), gSg_one p (by decide), p]; rfl
  · rw [if_neg (fun q => p (a.mp q)), Bool.eq_false_iff.mpr p]
    by_cases p2 : gSg K V k 42 = true
    · rw [if_pos (b.mpr p2), if_pos p2]; rfl
    · rw [if_neg (fun q => p2 (b.mp q)), Bool.eq_false_iff.mpr p2]
      by_cases p3 : gSg K V k 47 = true
      · rw [if_pos (c.mpr p3), p3]; rfl
      · rw [if_neg (fun q => p3 (c.mp q)), Bool.eq_false_iff.mpr p3]; rfl
theorem t_cmp (h : gTok K V St B T' ks ss vs) {k : Nat} (hk : k ≤ B) : mX8_compareNow (nI (K k)) (nI (V k)) = eow (gCm K V k) := by
  unfold mX8_compareNow gCm
  have a : mX8_signNow (nI (K k)) (nI (V k)) = 60 ↔ gSg K V k 60 = true := t_sgn h hk 60 (by decide)
  have b : mX8_signNow (nI (K k)) (nI (V k)) = 61 ↔ gSg K V k 61 = true := t_sgn h hk 61 (by decide)
  have c : mX8_signNow (nI (K k)) (nI (V k)) = 62 ↔ gSg K V k 62 = true := t_sgn h hk 62 (by decide)
  by_cases p : gSg K V k 60 = true
  · rw [if_pos (a.mpr p), if_pos p]; rfl
  · rw [if_neg (fun q => p (a.mp q)), Bool.eq_false_iff.mpr p]
    by_cases p2 : gSg K V k 61 = true
    · rw [if_pos (b.mpr p2), gSg_one p2 (by decide), p2]; rfl
    · rw [if_neg (fun q => p2 (b.mp q)), Bool.eq_false_iff.mpr p2]
      by_cases p3 : gSg K V k 62 = true
      · rw [if_pos (c.mpr p3), p3]; rfl
      · rw [if_neg (fun q => p3 (c.mp q)), Bool.eq_false_iff.mpr p3]; rfl
theorem t_fact (h : gTok K V St B T' ks ss vs) {k : Nat} (hk : k ≤ B) (hl : lw < 3) : mX8_factNow (nI (K k)) (nI (V k)) (nI lw) = if gFt K V lw k = 0 then -1 else nI (fxi (gFt K V lw k)) := by
  have o11 : mX8_ownNow (nI (K k)) (nI (V k)) = 11 ↔ gOw K V k 11 = true := t_own h hk 11 (by decide)
  have o2 : mX8_ownNow (nI (K k)) (nI (V k)) = 2 ↔ gOw K V k 2 = true := t_own h hk 2 (by decide)
  have o12 : mX8_ownNow (nI (K k)) (nI (V k)) = 12 ↔ gOw K V k 12 = true := t_own h hk 12 (by decide)
  have o13 : mX8_ownNow (nI (K k)) (nI (V k)) = 13 ↔ gOw K V k 13 = true := t_own h hk 13 (by decide)
  have lt : ∀ w, gOw K V k w = true → mX8_ownNow (nI (K k)) (nI (V k)) = nI (V k) ∧ V k = w ∧ V k < 1000000000 := by
    intro w q
    unfold gOw at q
    rw [Bool.and_eq_true, decide_eq_true_iff, decide_eq_true_iff] at q
    have := (h.2.2.2.1 k hk).2.2.2.2.1
    refine ⟨?_, q.2, this⟩
    unfold mX8_ownNow
    rw [if_pos (show nI (K k) = 4 by rw [q.1]; rfl)]
  unfold mX8_factNow mX8_factNow_28 mX8_factNow_44 gFt
  by_cases p11 : gOw K V k 11 = true
  · rw [if_pos (o11.mpr p11), if_pos p11]; rfl
  · rw [if_neg (fun q => p11 (o11.mp q)), if_neg p11]
    by_cases l1 : lw = 1
    · subst l1
      rw [if_pos (show nI 1 = 1 from rfl), if_pos (show nI 1 = 1 from rfl), if_pos (show nI 1 = 1 from rfl), if_pos rfl]
      by_cases p14 : gOw K V k 14 = true
      · obtain ⟨e1, e2, _⟩ := lt 14 p14
        rw [e1, e2, p14]; rfl
      · by_cases p15 : gOw K V k 15 = true
        · obtain ⟨e1, e2, _⟩ := lt 15 p15
          rw [e1, e2, Bool.eq_false_iff.mpr p14, p15]; rfl
        · by_cases p16 : gOw K V k 16 = true
          · obtain ⟨e1, e2, _⟩ := lt 16 p16
            rw [e1, e2, Bool.eq_false_iff.mpr p14, Bool.eq_false_iff.mpr p15, p16]; rfl
          · rw [Bool.eq_false_iff.mpr p14, Bool.eq_false_iff.mpr p15, Bool.eq_false_iff.mpr p16]
            by_cases k4 : K k = 4
            · have hV := (h.2.2.2.1 k hk).2.2.2.2.1
              have e1 : mX8_ownNow (nI (K k)) (nI (V k)) = nI (V k) := by unfold mX8_ownNow; rw [if_pos (show nI (K k) = 4 by rw [k4]; rfl)]
              have ne : ∀ w, gOw K V k w ≠ true → V k ≠ w := fun w q e => q (by unfold gOw; rw [decide_eq_true k4, decide_eq_true e]; rfl)
              have n14 := ne 14 p14
              have n15 := ne 15 p15
              have n16 := ne 16 p16
              rw [e1]
              by_cases q1 : V k < 14
              · rw [if_pos (show nI (V k) < 14 from nI_lt (b := 14) q1 (by decide))]; rfl
              · rw [if_neg (show ¬ nI (V k) < 14 from nI_nlt (b := 14) (by omega) (by omega)), if_pos (show 16 < nI (V k) from nI_lt (a := 16) (by omega) (by omega))]; rfl
            · have hK := (h.2.2.2.1 k hk).2.2.2.1
              have e1 : mX8_ownNow (nI (K k)) (nI (V k)) = -1 := by unfold mX8_ownNow; rw [if_neg (show ¬ nI (K k) = 4 from fun q => k4 ((nI_eq (b := 4) (by omega) (by decide)).mp q))]
              rw [e1, if_pos (by decide)]; rfl
    · have nl : ¬ nI lw = 1 := fun q => l1 ((nI_eq (b := 1) (by omega) (by decide)).mp q)
      rw [if_neg nl, if_neg nl, if_neg nl, if_neg l1]
      by_cases p2 : gOw K V k 2 = true
      · rw [if_pos (o2.mpr p2), if_pos p2]; rfl
      · rw [if_neg (fun q => p2 (o2.mp q)), if_neg p2]
        by_cases p12 : gOw K V k 12 = true
        · obtain ⟨e1, e2, _⟩ := lt 12 p12
          rw [if_pos (o12.mpr p12), if_pos p12, e1, e2]; rfl
        · rw [if_neg (fun q => p12 (o12.mp q)), if_neg p12]
          by_cases p13 : gOw K V k 13 = true
          · obtain ⟨e1, e2, _⟩ := lt 13 p13
            rw [if_pos (o13.mpr p13), if_pos p13, e1, e2]; rfl
          · rw [if_neg (fun q => p13 (o13.mp q)), if_neg p13]; rfl
end GC
