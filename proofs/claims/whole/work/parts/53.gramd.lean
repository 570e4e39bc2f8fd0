section GD
variable (K V St : Nat → Nat) (lw B T' : Nat) (ks ss vs : Nat → Int32)
/-- the class's answer to a piece that began at sign k with c codes: as the grammar's -/
def cG (r : NR) (p : Int32) (k o c : Nat) (A : Nat → Int32) (res : Option (Int32 × Int32 × Int32 × Int32 × Int32 × Int32 × Int32 × Int32 × (Nat → Int32))) : Prop :=
  (r.1 = 0 ∧ k < r.2.2.1 ∧ r.2.2.1 ≤ B ∧ r.2.2.2.length + k ≤ r.2.2.1 ∧ res = some (0, p, nI r.2.2.1, nI (K r.2.2.1), nI (St r.2.2.1), nI (V r.2.2.1), nI o, nI (c + r.2.2.2.length), gput A c r.2.2.2)) ∨
  (r.1 ≠ 0 ∧ r.1 < 10 ∧ ∃ s, res = some (nI r.1, nI r.2.1, s))
def cLive (R : CO) (Rn : Nat → Nat → Nat → Nat → NR) (j o : Nat) : Prop := ∀ (w k c : Nat) (p : Int32) (A : Nat → Int32), k ≤ B → (j = 4 → k < B) → w < 1000 → c + B ≤ 1600 + k →
  cG K V St B (Rn j w k o) p k o c A (R j (nI w) 0 p (nI T') (nI k) (nI (K k)) (nI (St k)) (nI (V k)) (nI o) (nI lw) ks ss vs (nI c) A)
variable {K V St lw B T' ks ss vs}
theorem cG_bad {p : Int32} {k o c : Nat} {A : Nat → Int32} {f q : Nat} (hf : f ≠ 0) (hf2 : f < 10) {res : Option (Int32 × Int32 × Int32 × Int32 × Int32 × Int32 × Int32 × Int32 × (Nat → Int32))} (h : ∃ s, res = some (nI f, nI q, s)) : cG K V St B (nBad f q) p k o c A res := Or.inr ⟨hf, hf2, h⟩
theorem cG_bind {r : NR} {f : Nat → List (Nat × Nat) → NR} {p p' : Int32} {k o c k0 o0 c0 : Nat} {A A0 : Nat → Int32} {res : Option (Int32 × Int32 × Int32 × Int32 × Int32 × Int32 × Int32 × Int32 × (Nat → Int32))} {C : (Int32 × Int32 × Int32 × Int32 × Int32 × Int32 × Int32 × Int32 × (Nat → Int32)) → Option (Int32 × Int32 × Int32 × Int32 × Int32 × Int32 × Int32 × Int32 × (Nat → Int32))} (h : cG K V St B r p k o c A res)
    (hok : ∀ k' L, k < k' → k' ≤ B → L.length + k ≤ k' → cG K V St B (f k' L) p' k0 o0 c0 A0 (C (0, p, nI k', nI (K k'), nI (St k'), nI (V k'), nI o, nI (c + L.length), gput A c L)))
    (hbad : ∀ (F P : Int32) s, ¬ F = 0 → ∃ s', C (F, P, s) = some (F, P, s')) : cG K V St B (nB r f) p' k0 o0 c0 A0 (res.bind C) := by
  rcases h with ⟨h1, h2, h3, h4, h5⟩ | ⟨h1, h2, s, h5⟩
  · rw [h5, obind]
    unfold nB
    rw [if_pos h1]
    exact hok _ _ h2 h3 h4
  · rw [h5, obind]
    unfold nB
    rw [if_neg h1]
    exact Or.inr ⟨h1, h2, hbad _ _ s (nI_ne0 (by omega) (by omega))⟩
theorem t_fail (n : Nat) (x p : Int32) : mX8_fail (nI n) x 0 p = (nI n, x) := by
  unfold mX8_fail; rw [if_pos rfl]
theorem t_sign (h : gTok K V St B T' ks ss vs) {k : Nat} (hk : k ≤ B) (c : Nat) (hc : c < 1000) (p : Int32) :
    (gSg K V k c = true → mX8_sign (nI c) 0 p (nI T') (nI k) (nI (K k)) (nI (St k)) (nI (V k)) ks ss vs = (0, p, nI (k + 1), nI (K (k + 1)), nI (St (k + 1)), nI (V (k + 1)))) ∧
    (¬ gSg K V k c = true → ∃ s, mX8_sign (nI c) 0 p (nI T') (nI k) (nI (K k)) (nI (St k)) (nI (V k)) ks ss vs = (1, nI (gWh K V St k), s)) := by
  unfold mX8_sign
  constructor
  · intro q
    rw [if_pos ((t_sgn h hk c hc).mpr q), t_next h (t_sglt h hk q), xlet_eq]
    rfl
  · intro q
    rw [if_neg (fun z => q ((t_sgn h hk c hc).mp z)), t_where h hk, show (1 : Int32) = nI 1 from rfl, t_fail, xlet_eq, xu_r]
    rcases mX8_next (nI T') (nI k) (nI (St k)) ks ss vs with ⟨q1, q2, q3, q4⟩
    exact ⟨_, rfl⟩
/-- behind a sign that must be -/
theorem cG_must (h : gTok K V St B T' ks ss vs) {k : Nat} (hk : k ≤ B) (c : Nat) (hc : c < 1000) {r : NR} {p p' : Int32} {k0 o0 c0 : Nat} {A0 : Nat → Int32} {C : (Int32 × Int32 × Int32 × Int32 × Int32 × Int32) → Option (Int32 × Int32 × Int32 × Int32 × Int32 × Int32 × Int32 × Int32 × (Nat → Int32))}
    (hok : k < B → gSg K V k c = true → cG K V St B r p' k0 o0 c0 A0 (C (0, p, nI (k + 1), nI (K (k + 1)), nI (St (k + 1)), nI (V (k + 1)))))
    (hbad : ∀ (F P : Int32) s, ¬ F = 0 → ∃ s', C (F, P, s) = some (F, P, s')) : cG K V St B (gMust K V St k c r) p' k0 o0 c0 A0 (xlet (mX8_sign (nI c) 0 p (nI T') (nI k) (nI (K k)) (nI (St k)) (nI (V k)) ks ss vs) C) := by
  obtain ⟨a, b⟩ := t_sign h hk c hc p
  unfold gMust
  by_cases q : gSg K V k c = true
  · rw [a q, xlet_eq, if_pos q]
    exact hok (t_sglt h hk q) q
  · obtain ⟨s, e⟩ := b q
    rw [e, xlet_eq, if_neg q]
    exact cG_bad (by decide) (by decide) (hbad _ _ s (by decide))
/-- behind one more that is open -/
theorem cG_open (h : gTok K V St B T' ks ss vs) {k o : Nat} (hk : k < B) (ho : o < 1000) {r : NR} {p p' : Int32} {k0 o0 c0 : Nat} {A0 : Nat → Int32} {C : (Int32 × Int32 × Int32 × Int32 × Int32 × Int32 × Int32) → Option (Int32 × Int32 × Int32 × Int32 × Int32 × Int32 × Int32 × Int32 × (Nat → Int32))}
    (hok : o < 7 → cG K V St B r p' k0 o0 c0 A0 (C (0, p, nI (k + 1), nI (K (k + 1)), nI (St (k + 1)), nI (V (k + 1)), nI (o + 1))))
    (hbad : ∀ (F P : Int32) s, ¬ F = 0 → ∃ s', C (F, P, s) = some (F, P, s')) : cG K V St B (gOpen St k o r) p' k0 o0 c0 A0 (xlet (mX8_openOne 0 p (nI T') (nI k) (nI (St k)) (nI o) ks ss vs) C) := by
  unfold gOpen mX8_openOne mX8_openOne_18
  by_cases q : o < 7
  · rw [if_pos (show nI o < 7 from nI_lt (b := 7) q (by decide)), if_neg (by omega), t_next h hk, xlet_eq, xlet_eq, nI_1]
    exact hok q
  · rw [if_neg (show ¬ nI o < 7 from nI_nlt (b := 7) (by omega) (by omega)), if_pos (by omega), show (5 : Int32) = nI 5 from rfl, t_fail, xlet_eq, xlet_eq, xu_r, t_next h hk, xlet_eq]
    exact cG_bad (by decide) (by decide) (hbad _ _ _ (by decide))
theorem fxi_eow : ∀ s, s ≠ 0 → s ≤ 7 → (-1) - nI (fxi s) = ecl s 0 := by
  intro s h1 h2
  have : s = 1 ∨ s = 2 ∨ s = 3 ∨ s = 4 ∨ s = 5 ∨ s = 6 ∨ s = 7 := by omega
  rcases this with e | e | e | e | e | e | e <;> subst e <;> decide
theorem gFt_le (k : Nat) : gFt K V lw k ≤ 7 := by
  unfold gFt
  repeat' split
  all_goals decide
theorem fxi_le : ∀ s, s ≤ 7 → fxi s < 1000 := by
  intro s h
  unfold fxi
  split <;> omega
theorem gFt_own (k : Nat) (hq : gFt K V lw k ≠ 0) : K k = 4 := by
  have own : ∀ w, gOw K V k w = true → K k = 4 := by
    intro w q
    unfold gOw at q
    rw [Bool.and_eq_true, decide_eq_true_iff] at q
    exact q.1
  unfold gFt at hq
  split at hq
  · rename_i q; exact own _ q
  · split at hq
    · split at hq
      · rename_i q; exact own _ q
      · split at hq
        · rename_i q; exact own _ q
        · split at hq
          · rename_i q; exact own _ q
          · exact absurd rfl hq
    · split at hq
      · rename_i q; exact own _ q
      · split at hq
        · rename_i q; exact own _ q
        · split at hq
          · rename_i q; exact own _ q
          · exact absurd rfl hq
variable {R : CO} {Rn : Nat → Nat → Nat → Nat → NR}
theorem g_part (h : gTok K V St B T' ks ss vs) (hlw : lw < 3) (hd : ∀ j, cDead R (nI T') (nI lw) ks ss vs j) (o : Nat) (ho : o ≤ 7) (hs : o < 7 → cLive K V St lw B T' ks ss vs R Rn 2 (o + 1)) (hc : cLive K V St lw B T' ks ss vs R Rn 4 o)
    (k c : Nat) (p : Int32) (A : Nat → Int32) (hk : k ≤ B) (hcB : c + B ≤ 1600 + k) : cG K V St B (gPart K V St lw Rn k o) p k o c A (mX8_part R 0 p (nI T') (nI k) (nI (K k)) (nI (St k)) (nI (V k)) (nI o) (nI lw) ks ss vs (nI c) A) := by
  obtain ⟨b1, b2, b3, b4, b5, b6⟩ := h.2.2.2.1 k hk
  have hB := h.1
  unfold mX8_part gPart
  rw [if_pos rfl]
  by_cases k2 : K k = 2
  · have hkB := t_lt h hk (by omega)
    rw [if_pos (show nI (K k) = 2 by rw [k2]; rfl), if_pos k2, s_emit c (by omega), xlet_eq, xu_r, t_next h hkB, xlet_eq]
    exact Or.inl ⟨rfl, Nat.lt_succ_self k, hkB, Nat.le_of_eq (Nat.add_comm 1 k), rfl⟩
  · have n2 : ¬ nI (K k) = 2 := fun q => k2 ((nI_eq (b := 2) (by omega) (by decide)).mp q)
    rw [if_neg n2, if_neg k2, t_fact h hk hlw]
    by_cases kf : gFt K V lw k = 0
    · rw [if_pos kf, if_pos rfl, if_neg (fun q => q kf)]
      have o40 : mX8_signNow (nI (K k)) (nI (V k)) = 40 ↔ gSg K V k 40 = true := t_sgn h hk 40 (by decide)
      have o22 : mX8_ownNow (nI (K k)) (nI (V k)) = 22 ↔ gOw K V k 22 = true := t_own h hk 22 (by decide)
      have o23 : mX8_ownNow (nI (K k)) (nI (V k)) = 23 ↔ gOw K V k 23 = true := t_own h hk 23 (by decide)
      have o17 : mX8_ownNow (nI (K k)) (nI (V k)) = 17 ↔ gOw K V k 17 = true := t_own h hk 17 (by decide)
      by_cases q40 : gSg K V k 40 = true
      · have hkB := t_sglt h hk q40
        rw [if_pos (o40.mpr q40), if_pos q40]
        refine cG_open h hkB (by omega) (fun ho7 => ?_) (fun F P s hF => ?_)
        · refine cG_bind (hs ho7 0 (k + 1) c p A hkB (by omega) (by decide) (by omega)) (fun k' L h1 h2 h3 => ?_) (fun F P s hF => ?_)
          · refine cG_must h h2 41 (by decide) (fun hkB' q => ?_) (fun F P s hF => ⟨_, rfl⟩)
            refine Or.inl ⟨rfl, by show k < k' + 1; omega, hkB', by show L.length + k ≤ k' + 1; omega, ?_⟩
            show some (0, p, nI (k' + 1), nI (K (k' + 1)), nI (St (k' + 1)), nI (V (k' + 1)), nI (o + 1) - 1, nI (c + L.length), gput A c L) = _
            rw [nI_pred]
            rfl
          · obtain ⟨s1, s2, s3, s4, s5, s6, s7⟩ := s
            simp only [xu]
            obtain ⟨⟨d1, d2, d3, d4⟩, e⟩ := s_sign_dead (nI T') ks ss vs 41 F P s1 s2 s3 s4 hF
            rw [e, xlet_eq]
            exact ⟨_, rfl⟩
        · obtain ⟨s1, s2, s3, s4, s5⟩ := s
          simp only [xu]
          obtain ⟨⟨a1, a2, a3, a4, a5, a6, a7⟩, e⟩ := hd 2 0 F P s1 s2 s3 s4 s5 (nI c) A hF
          rw [e, obind]
          simp only [xu]
          obtain ⟨⟨d1, d2, d3, d4⟩, e⟩ := s_sign_dead (nI T') ks ss vs 41 F P a1 a2 a3 a4 hF
          rw [e, xlet_eq]
          exact ⟨_, rfl⟩
      · rw [if_neg (fun z => q40 (o40.mp z)), if_neg q40]
        have idb : ∀ w, w < 1000 → k < B → cG K V St B (Rn 4 w k o) p k o c A ((R 4 (nI w) 0 p (nI T') (nI k) (nI (K k)) (nI (St k)) (nI (V k)) (nI o) (nI lw) ks ss vs (nI c) A).bind (xu fun q11_1 => xu fun q11_2 => xu fun q11_3 => xu fun q11_4 => xu fun q11_5 => xu fun q11_6 => xu fun q11_7 => xu fun q11_8 => fun q11_9 => some (q11_1, q11_2, q11_3, q11_4, q11_5, q11_6, q11_7, q11_8, q11_9))) := by
          intro w hw hkB
          rcases hc w k c p A hk (fun _ => hkB) hw hcB with ⟨h1, h2, h3, h4, h5⟩ | ⟨h1, h2, s, h5⟩
          · rw [h5, obind]; exact Or.inl ⟨h1, h2, h3, h4, rfl⟩
          · rw [h5, obind]; exact Or.inr ⟨h1, h2, s, rfl⟩
        by_cases q22 : gOw K V k 22 = true
        · rw [if_pos (o22.mpr q22), if_pos q22, o22.mpr q22]
          exact idb 22 (by decide) (t_owlt h hk q22)
        · rw [if_neg (fun z => q22 (o22.mp z)), if_neg q22]
          by_cases q23 : gOw K V k 23 = true
          · rw [if_pos (o23.mpr q23), if_pos q23, o23.mpr q23]
            exact idb 23 (by decide) (t_owlt h hk q23)
          · rw [if_neg (fun z => q23 (o23.mp z)), if_neg q23]
            by_cases q17 : gOw K V k 17 = true
            · rw [if_pos (o17.mpr q17), if_pos q17, o17.mpr q17]
              exact idb 17 (by decide) (t_owlt h hk q17)
            · rw [if_neg (fun z => q17 (o17.mp z)), if_neg q17, t_where h hk, show (1 : Int32) = nI 1 from rfl, t_fail, xlet_eq]
              exact cG_bad (by decide) (by decide) ⟨_, rfl⟩
    · have k4 := gFt_own k kf
      have hkB := t_lt h hk (by omega)
      have fle := gFt_le (K := K) (V := V) (lw := lw) k
      have ff := fxi_le _ fle
      rw [if_neg kf, if_neg (nI_m1 (by omega)), if_pos kf, fxi_eow _ kf fle, s_emit c (by omega), xlet_eq, xu_r, t_next h hkB, xlet_eq]
      exact Or.inl ⟨rfl, Nat.lt_succ_self k, hkB, Nat.le_of_eq (Nat.add_comm 1 k), rfl⟩
end GD
