section GF
variable {K V St : Nat → Nat} {lw B T' : Nat} {ks ss vs : Nat → Int32} {R : CO} {Rn : Nat → Nat → Nat → Nat → NR}
/-- what a test owes: `or`, or nothing -/
theorem g_test89 {k0 k c o w : Nat} {x : Int32} {p : Int32} {A : Nat → Int32} {L : List (Nat × Nat)} (hw : (w = 0 ∧ x = 0) ∨ (w = 42 ∧ x = 1)) (hk0 : k0 < k) (hk : k ≤ B) (hL : L.length + (if w = 0 then 0 else 1) + k0 ≤ k) (hc : c + B ≤ 1600 + k0) :
    cG K V St B (nOk k (L ++ gOwe w)) p k0 o c A (mX8_test_89 x 0 p (nI k) (nI (K k)) (nI (St k)) (nI (V k)) (nI o) (nI (c + L.length)) (gput A c L)) := by
  unfold mX8_test_89
  rcases hw with ⟨e, ex⟩ | ⟨e, ex⟩
  · subst e; subst ex
    rw [if_pos rfl, show gOwe 0 = [] from rfl, List.append_nil]
    rw [if_pos rfl] at hL
    exact Or.inl ⟨rfl, hk0, hk, by show L.length + k0 ≤ k; omega, rfl⟩
  · subst e; subst ex
    rw [if_neg (by decide)] at hL
    rw [if_neg (by decide), s_emit _ (by omega), xlet_eq]
    have eo : gOwe 42 = [(42, 0)] := rfl
    rw [eo]
    refine Or.inl ⟨rfl, hk0, hk, ?_, ?_⟩
    · show (L ++ [(42, 0)]).length + k0 ≤ k
      rw [List.length_append]
      show L.length + 1 + k0 ≤ k
      omega
    · show some ((0 : Int32), p, nI k, nI (K k), nI (St k), nI (V k), nI o, nI (c + L.length + 1), upd (gput A c L) (c + L.length) (-21)) = some ((0 : Int32), p, nI k, nI (K k), nI (St k), nI (V k), nI o, nI (c + (L ++ [(42, 0)]).length), gput A c (L ++ [(42, 0)]))
      rw [gput_1, List.length_append]
      rfl
theorem g_test8 (h : gTok K V St B T' ks ss vs) (o : Nat) (h0 : cLive K V St lw B T' ks ss vs R Rn 0 o) (k0 c : Nat) (p : Int32) (A : Nat → Int32) (hcB : c + B ≤ 1600 + k0) : ∀ (f i k w : Nat) (x : Int32) (L : List (Nat × Nat)), ((w = 0 ∧ x = 0) ∨ (w = 42 ∧ x = 1)) → k0 < k → k ≤ B → L.length + (if w = 0 then 0 else 1) + k0 ≤ k →
    cG K V St B (gTestL K V Rn o f k w L) p k0 o c A (mX8_test_8 R (nI T') (nI lw) ks ss vs f i x 0 p (nI k) (nI (K k)) (nI (St k)) (nI (V k)) (nI o) (nI (c + L.length)) (gput A c L)) := by
  have hB := h.1
  intro f
  induction f with
  | zero =>
    intro i k w x L hw hk0 hk hL
    rw [mX8_test_8, gTestL]
    exact g_test89 hw hk0 hk hL hcB
  | succ f ih =>
    intro i k w x L hw hk0 hk hL
    rw [mX8_test_8, gTestL, if_pos rfl]
    have o19 : mX8_ownNow (nI (K k)) (nI (V k)) = 19 ↔ gOw K V k 19 = true := t_own h hk 19 (by decide)
    have o18 : mX8_ownNow (nI (K k)) (nI (V k)) = 18 ↔ gOw K V k 18 = true := t_own h hk 18 (by decide)
    by_cases q19 : gOw K V k 19 = true
    · have hkB := t_owlt h hk q19
      rw [if_pos (o19.mpr q19), if_pos q19, t_next h hkB, xlet_eq]
      simp only [xu]
      have hL2 : L.length + k0 ≤ k := by omega
      refine cG_bind (h0 0 (k + 1) (c + L.length) p _ hkB (by omega) (by decide) (by omega)) (fun k' L' d1 d2 d3 => ?_) (fun F P s hF => ?_)
      · show cG _ _ _ _ _ _ _ _ _ _ (xlet (mX7_emit (-20) (nI (c + L.length + L'.length)) (gput (gput A c L) (c + L.length) L')) _)
        have hL3 : c + L.length + L'.length < 1600 := by omega
        rw [s_emit _ hL3, xlet_eq]
        have len : (L ++ L' ++ [(41, 0)]).length = L.length + L'.length + 1 := by rw [List.length_append, List.length_append]; rfl
        have key := ih (i + 1) k' w x (L ++ L' ++ [(41, 0)]) hw (by omega) d2 (by rw [len]; omega)
        rw [len] at key
        have lay : gput A c (L ++ L' ++ [(41, 0)]) = upd (gput (gput A c L) (c + L.length) L') (c + L.length + L'.length) (-20) := by
          rw [gput_1, ← gput_len, List.length_append]
          rw [show c + (L.length + L'.length) = c + L.length + L'.length by omega]
          rfl
        rw [lay, show c + (L.length + L'.length + 1) = c + L.length + L'.length + 1 by omega] at key
        exact key
      · obtain ⟨a1, a2, a3, a4, a5, a6, a7⟩ := s
        simp only [xu]
        rcases mX7_emit (-20) a6 a7 with ⟨p1, p2⟩
        rw [xlet_eq]
        exact d_test8 R (nI T') (nI lw) ks ss vs f (i + 1) _ F P a1 a2 a3 a4 a5 p1 p2 hF
    · rw [if_neg (fun z => q19 (o19.mp z)), if_neg q19]
      by_cases q18 : gOw K V k 18 = true
      · have hkB := t_owlt h hk q18
        rw [if_pos (o18.mpr q18), if_pos q18, t_next h hkB, xlet_eq]
        simp only [xu]
        have ol := gOwe_len w
        rcases hw with ⟨e, ex⟩ | ⟨e, ex⟩
        · subst e; subst ex
          rw [if_pos rfl] at hL ol
          rw [if_pos rfl]
          refine cG_bind (h0 0 (k + 1) (c + L.length) p _ hkB (by omega) (by decide) (by omega)) (fun k' L' d1 d2 d3 => ?_) (fun F P s hF => ?_)
          · have len : (L ++ gOwe 0 ++ L').length = L.length + L'.length := by rw [List.length_append, List.length_append, ol, Nat.add_zero]
            have key := ih (i + 1) k' 42 1 (L ++ gOwe 0 ++ L') (Or.inr ⟨rfl, rfl⟩) (by omega) d2 (by rw [len, if_neg (by decide)]; omega)
            rw [len] at key
            have lay : gput A c (L ++ gOwe 0 ++ L') = gput (gput A c L) (c + L.length) L' := by rw [show gOwe 0 = [] from rfl, List.append_nil, gput_app]
            rw [lay, show c + (L.length + L'.length) = c + L.length + L'.length by omega] at key
            exact key
          · obtain ⟨a1, a2, a3, a4, a5, a6, a7⟩ := s
            exact d_test8 R (nI T') (nI lw) ks ss vs f (i + 1) _ F P a1 a2 a3 a4 a5 a6 a7 hF
        · subst e; subst ex
          rw [if_neg (by decide)] at hL ol
          rw [if_neg (by decide), s_emit _ (by omega), xlet_eq]
          simp only [xu]
          have eo : gOwe 42 = [(42, 0)] := rfl
          refine cG_bind (h0 0 (k + 1) (c + L.length + 1) p _ hkB (by omega) (by decide) (by omega)) (fun k' L' d1 d2 d3 => ?_) (fun F P s hF => ?_)
          · have len : (L ++ gOwe 42 ++ L').length = L.length + 1 + L'.length := by rw [List.length_append, List.length_append, ol]
            have key := ih (i + 1) k' 42 1 (L ++ gOwe 42 ++ L') (Or.inr ⟨rfl, rfl⟩) (by omega) d2 (by rw [len, if_neg (by decide)]; omega)
            rw [len] at key
            have lay : gput A c (L ++ gOwe 42 ++ L') = gput (upd (gput A c L) (c + L.length) (-21)) (c + L.length + 1) L' := by
              rw [gput_app, eo, gput_1, List.length_append]; rfl
            rw [lay, show c + (L.length + 1 + L'.length) = c + L.length + 1 + L'.length by omega] at key
            exact key
          · obtain ⟨a1, a2, a3, a4, a5, a6, a7⟩ := s
            exact d_test8 R (nI T') (nI lw) ks ss vs f (i + 1) _ F P a1 a2 a3 a4 a5 a6 a7 hF
      · rw [if_neg (fun z => q18 (o18.mp z)), if_neg q18]
        exact g_test89 hw hk0 hk hL hcB
theorem g_test (h : gTok K V St B T' ks ss vs) (o : Nat) (h0 : cLive K V St lw B T' ks ss vs R Rn 0 o) (k c : Nat) (p : Int32) (A : Nat → Int32) (hk : k ≤ B) (hcB : c + B ≤ 1600 + k) :
    cG K V St B (gTest K V Rn k o) p k o c A (mX8_test R 0 p (nI T') (nI k) (nI (K k)) (nI (St k)) (nI (V k)) (nI o) (nI lw) ks ss vs (nI c) A) := by
  unfold mX8_test gTest
  refine cG_bind (h0 0 k c p A hk (by omega) (by decide) hcB) (fun k' L d1 d2 d3 => ?_) (fun F P s hF => ?_)
  · exact g_test8 h o h0 k c p A hcB 1600 0 k' 0 0 L (Or.inl ⟨rfl, rfl⟩) d1 d2 (by rw [if_pos rfl]; omega)
  · obtain ⟨a1, a2, a3, a4, a5, a6, a7⟩ := s
    exact d_test8 R (nI T') (nI lw) ks ss vs 1600 0 0 F P a1 a2 a3 a4 a5 a6 a7 hF
theorem d_fact129 (hd : ∀ j, cDead R (nI T') (nI lw) ks ss vs j) (x F P now kd st v op c : Int32) (A : Nat → Int32) (h : ¬ F = 0) : ∃ s, mX8_fact_129 R (nI T') (nI lw) ks ss vs x F P now kd st v op c A = some (F, P, s) := by
  unfold mX8_fact_129
  rcases mX8_next (nI T') now st ks ss vs with ⟨q1, q2, q3, q4⟩
  rw [xlet_eq]
  simp only [xu]
  obtain ⟨⟨a1, a2, a3, a4, a5, a6, a7⟩, e⟩ := hd 2 0 F P q1 q2 q3 q4 op c A h
  rw [e, obind]
  simp only [xu]
  rcases mX7_emit x a6 a7 with ⟨p1, p2⟩
  exact ⟨_, rfl⟩
theorem g_fact (h : gTok K V St B T' ks ss vs) (hd : ∀ j, cDead R (nI T') (nI lw) ks ss vs j) (o : Nat) (ho : o ≤ 7) (h0 : o < 7 → cLive K V St lw B T' ks ss vs R Rn 0 (o + 1)) (h1 : o < 7 → cLive K V St lw B T' ks ss vs R Rn 1 (o + 1)) (h2 : cLive K V St lw B T' ks ss vs R Rn 2 o)
    (k c : Nat) (p : Int32) (A : Nat → Int32) (hk : k ≤ B) (hcB : c + B ≤ 1600 + k) :
    cG K V St B (gFact K V St Rn k o) p k o c A (mX8_fact R 0 p (nI T') (nI k) (nI (K k)) (nI (St k)) (nI (V k)) (nI o) (nI lw) ks ss vs (nI c) A) := by
  have hB := h.1
  unfold mX8_fact gFact
  rw [if_pos rfl]
  have o20 : mX8_ownNow (nI (K k)) (nI (V k)) = 20 ↔ gOw K V k 20 = true := t_own h hk 20 (by decide)
  have o21 : mX8_ownNow (nI (K k)) (nI (V k)) = 21 ↔ gOw K V k 21 = true := t_own h hk 21 (by decide)
  have o91 : mX8_signNow (nI (K k)) (nI (V k)) = 91 ↔ gSg K V k 91 = true := t_sgn h hk 91 (by decide)
  by_cases q20 : gOw K V k 20 = true
  · have hkB := t_owlt h hk q20
    rw [if_pos (o20.mpr q20), if_pos q20]
    refine cG_open h hkB (by omega) (fun ho7 => ?_) (fun F P s hF => ?_)
    · refine cG_bind (h0 ho7 0 (k + 1) c p A hkB (by omega) (by decide) (by omega)) (fun k' L d1 d2 d3 => ?_) (fun F P s hF => ?_)
      · show cG _ _ _ _ _ _ _ _ _ _ (xlet (mX7_emit (-22) (nI (c + L.length)) (gput A c L)) _)
        rw [s_emit _ (by omega), xlet_eq]
        refine Or.inl ⟨rfl, by show k < k'; omega, d2, ?_, ?_⟩
        · show (L ++ [(43, 0)]).length + k ≤ k'
          rw [List.length_append]
          show L.length + 1 + k ≤ k'
          omega
        · show some ((0 : Int32), p, nI k', nI (K k'), nI (St k'), nI (V k'), nI (o + 1) - 1, nI (c + L.length + 1), upd (gput A c L) (c + L.length) (-22)) = some ((0 : Int32), p, nI k', nI (K k'), nI (St k'), nI (V k'), nI o, nI (c + (L ++ [(43, 0)]).length), gput A c (L ++ [(43, 0)]))
          rw [gput_1, List.length_append, nI_pred]
          rfl
      · obtain ⟨a1, a2, a3, a4, a5, a6, a7⟩ := s
        simp only [xu]
        rcases mX7_emit (-22) a6 a7 with ⟨p1, p2⟩
        exact ⟨_, rfl⟩
    · obtain ⟨a1, a2, a3, a4, a5⟩ := s
      simp only [xu]
      obtain ⟨⟨b1, b2, b3, b4, b5, b6, b7⟩, e⟩ := hd 0 0 F P a1 a2 a3 a4 a5 (nI c) A hF
      rw [e, obind]
      simp only [xu]
      rcases mX7_emit (-22) b6 b7 with ⟨p1, p2⟩
      exact ⟨_, rfl⟩
  · rw [if_neg (fun z => q20 (o20.mp z)), if_neg q20]
    by_cases q91 : gSg K V k 91 = true
    · have hkB := t_sglt h hk q91
      rw [if_pos (o91.mpr q91), if_pos q91]
      refine cG_open h hkB (by omega) (fun ho7 => ?_) (fun F P s hF => ?_)
      · refine cG_bind (h1 ho7 0 (k + 1) c p A hkB (by omega) (by decide) (by omega)) (fun k' L d1 d2 d3 => ?_) (fun F P s hF => ?_)
        · refine cG_must h d2 93 (by decide) (fun hkB' q => ?_) (fun F P s hF => ⟨_, rfl⟩)
          refine Or.inl ⟨rfl, by show k < k' + 1; omega, hkB', by show L.length + k ≤ k' + 1; omega, ?_⟩
          show some ((0 : Int32), p, nI (k' + 1), nI (K (k' + 1)), nI (St (k' + 1)), nI (V (k' + 1)), nI (o + 1) - 1, nI (c + L.length), gput A c L) = _
          rw [nI_pred]
          rfl
        · obtain ⟨s1, s2, s3, s4, s5, s6, s7⟩ := s
          simp only [xu]
          obtain ⟨⟨d1, d2, d3, d4⟩, e⟩ := s_sign_dead (nI T') ks ss vs 93 F P s1 s2 s3 s4 hF
          rw [e, xlet_eq]
          exact ⟨_, rfl⟩
      · obtain ⟨s1, s2, s3, s4, s5⟩ := s
        simp only [xu]
        obtain ⟨⟨a1, a2, a3, a4, a5, a6, a7⟩, e⟩ := hd 1 0 F P s1 s2 s3 s4 s5 (nI c) A hF
        rw [e, obind]
        simp only [xu]
        obtain ⟨⟨d1, d2, d3, d4⟩, e⟩ := s_sign_dead (nI T') ks ss vs 93 F P a1 a2 a3 a4 hF
        rw [e, xlet_eq]
        exact ⟨_, rfl⟩
    · rw [if_neg (fun z => q91 (o91.mp z)), if_neg q91]
      by_cases q21 : gOw K V k 21 = true
      · have hkB := t_owlt h hk q21
        rw [if_pos (o21.mpr q21), if_pos q21, t_next h hkB, xlet_eq]
        simp only [xu]
        rw [s_emit c (by omega), xlet_eq]
        exact Or.inl ⟨rfl, Nat.lt_succ_self k, hkB, Nat.le_of_eq (Nat.add_comm 1 k), rfl⟩
      · rw [if_neg (fun z => q21 (o21.mp z)), if_neg q21]
        refine cG_bind (h2 0 k c p A hk (by omega) (by decide) hcB) (fun k' L d1 d2 d3 => ?_) (fun F P s hF => ?_)
        · show cG _ _ _ _ _ _ _ _ _ _ (if mX8_compareNow (nI (K k')) (nI (V k')) = 0 then xlet (mX8_fail 1 (mX8_where (nI (K k')) (nI (St k')) (nI (V k'))) 0 p) _ else mX8_fact_129 R (nI T') (nI lw) ks ss vs (mX8_compareNow (nI (K k')) (nI (V k'))) 0 p (nI k') (nI (K k')) (nI (St k')) (nI (V k')) (nI o) (nI (c + L.length)) (gput A c L))
          rw [t_cmp h d2]
          by_cases qc : gCm K V k' = 0
          · rw [qc, if_pos (show eow 0 = 0 from rfl), if_pos rfl, t_where h d2, show (1 : Int32) = nI 1 from rfl, t_fail, xlet_eq]
            exact cG_bad (by decide) (by decide) (d_fact129 hd (eow 0) (nI 1) (nI (gWh K V St k')) (nI k') (nI (K k')) (nI (St k')) (nI (V k')) (nI o) (nI (c + L.length)) (gput A c L) (by decide))
          · have hkB := gCm_lt h d2 qc
            have rng := (gCm_rng (K := K) (V := V) k').resolve_left qc
            obtain ⟨w1, w2⟩ := eow_ne rng.1 rng.2
            rw [if_neg w2, if_neg qc]
            unfold mX8_fact_129
            rw [t_next h hkB, xlet_eq]
            simp only [xu]
            refine cG_bind (h2 0 (k' + 1) (c + L.length) p _ hkB (by omega) (by decide) (by omega)) (fun k2 L2 d4 d5 d6 => ?_) (fun F P s hF => ?_)
            · show cG _ _ _ _ _ _ _ _ _ _ (xlet (mX7_emit (eow (gCm K V k')) (nI (c + L.length + L2.length)) (gput (gput A c L) (c + L.length) L2)) _)
              rw [w1, s_emit _ (by omega), xlet_eq]
              have len : (L ++ L2 ++ [(gCm K V k', 0)]).length = L.length + L2.length + 1 := by rw [List.length_append, List.length_append]; rfl
              refine Or.inl ⟨rfl, by show k < k2; omega, d5, ?_, ?_⟩
              · show (L ++ L2 ++ [(gCm K V k', 0)]).length + k ≤ k2
                rw [len]; omega
              · show some ((0 : Int32), p, nI k2, nI (K k2), nI (St k2), nI (V k2), nI o, nI (c + L.length + L2.length + 1), upd (gput (gput A c L) (c + L.length) L2) (c + L.length + L2.length) (ecl (gCm K V k') 0)) = some ((0 : Int32), p, nI k2, nI (K k2), nI (St k2), nI (V k2), nI o, nI (c + (L ++ L2 ++ [(gCm K V k', 0)]).length), gput A c (L ++ L2 ++ [(gCm K V k', 0)]))
                rw [gput_1, len, gput_len, List.length_append]
                rw [show c + L.length + L2.length = c + (L.length + L2.length) by omega]
                rfl
            · obtain ⟨a1, a2, a3, a4, a5, a6, a7⟩ := s
              simp only [xu]
              rcases mX7_emit (eow (gCm K V k')) a6 a7 with ⟨p1, p2⟩
              exact ⟨_, rfl⟩
        · obtain ⟨a1, a2, a3, a4, a5, a6, a7⟩ := s
          simp only [xu]
          split
          · rw [s_fail0 _ _ F P hF, xlet_eq]
            exact d_fact129 hd _ F P a1 a2 a3 a4 a5 a6 a7 hF
          · exact d_fact129 hd _ F P a1 a2 a3 a4 a5 a6 a7 hF
/-- how deep the class must be able to go for a piece -/
def gNeed (j o : Nat) : Nat := 5 * (8 - o) + (if j = 0 then 4 else if j = 1 then 5 else if j = 2 then 3 else if j = 3 then 2 else 1)
theorem rec0 (n : Nat) (w F P tok now kd st v op tp : Int32) (ks ss vs : Nat → Int32) (c : Int32) (A : Nat → Int32) : mX8_rec (n + 1) 0 w F P tok now kd st v op tp ks ss vs c A = mX8_fact (mX8_rec n) F P tok now kd st v op tp ks ss vs c A := rfl
theorem rec1 (n : Nat) (w F P tok now kd st v op tp : Int32) (ks ss vs : Nat → Int32) (c : Int32) (A : Nat → Int32) : mX8_rec (n + 1) 1 w F P tok now kd st v op tp ks ss vs c A = mX8_test (mX8_rec n) F P tok now kd st v op tp ks ss vs c A := rfl
theorem rec2 (n : Nat) (w F P tok now kd st v op tp : Int32) (ks ss vs : Nat → Int32) (c : Int32) (A : Nat → Int32) : mX8_rec (n + 1) 2 w F P tok now kd st v op tp ks ss vs c A = mX8_sum (mX8_rec n) F P tok now kd st v op tp ks ss vs c A := rfl
theorem rec3 (n : Nat) (w F P tok now kd st v op tp : Int32) (ks ss vs : Nat → Int32) (c : Int32) (A : Nat → Int32) : mX8_rec (n + 1) 3 w F P tok now kd st v op tp ks ss vs c A = mX8_part (mX8_rec n) F P tok now kd st v op tp ks ss vs c A := rfl
theorem gRec0 (K V St : Nat → Nat) (lw n w k o : Nat) : gRec K V St lw (n + 1) 0 w k o = gFact K V St (gRec K V St lw n) k o := rfl
theorem gRec1 (K V St : Nat → Nat) (lw n w k o : Nat) : gRec K V St lw (n + 1) 1 w k o = gTest K V (gRec K V St lw n) k o := rfl
theorem gRec2 (K V St : Nat → Nat) (lw n w k o : Nat) : gRec K V St lw (n + 1) 2 w k o = gSum K V (gRec K V St lw n) k o := rfl
theorem gRec3 (K V St : Nat → Nat) (lw n w k o : Nat) : gRec K V St lw (n + 1) 3 w k o = gPart K V St lw (gRec K V St lw n) k o := rfl
theorem rec4 (n : Nat) (w F P tok now kd st v op tp : Int32) (ks ss vs : Nat → Int32) (c : Int32) (A : Nat → Int32) : mX8_rec (n + 1) 4 w F P tok now kd st v op tp ks ss vs c A = mX8_call (mX8_rec n) w F P tok now st op tp ks ss vs c A := rfl
theorem gRec4 (K V St : Nat → Nat) (lw n w k o : Nat) : gRec K V St lw (n + 1) 4 w k o = gCall K V St (gRec K V St lw n) w k o := rfl
theorem ar1 {o n x y : Nat} (h : 5 * (8 - o) + x ≤ n + 1) (ho : o < 7) (hxy : y ≤ x + 4) : 5 * (8 - (o + 1)) + y ≤ n := by omega
theorem ar2 {o n x y : Nat} (h : 5 * (8 - o) + x ≤ n + 1) (hxy : y + 1 ≤ x) : 5 * (8 - o) + y ≤ n := by omega
theorem ar3 {o n x : Nat} (h : 5 * (8 - o) + x ≤ n + 1) (ho : o ≤ 7) : 3 ≤ n := by omega
theorem gNd (o : Nat) : gNeed 0 o = 5 * (8 - o) + 4 ∧ gNeed 1 o = 5 * (8 - o) + 5 ∧ gNeed 2 o = 5 * (8 - o) + 3 ∧ gNeed 3 o = 5 * (8 - o) + 2 ∧ gNeed 4 o = 5 * (8 - o) + 1 := ⟨rfl, rfl, rfl, rfl, rfl⟩
theorem g_rec (h : gTok K V St B T' ks ss vs) (hlw : lw < 3) : ∀ n o, o ≤ 7 → (gNeed 0 o ≤ n → cLive K V St lw B T' ks ss vs (mX8_rec n) (gRec K V St lw n) 0 o) ∧ (gNeed 1 o ≤ n → cLive K V St lw B T' ks ss vs (mX8_rec n) (gRec K V St lw n) 1 o) ∧ (gNeed 2 o ≤ n → cLive K V St lw B T' ks ss vs (mX8_rec n) (gRec K V St lw n) 2 o) ∧ (gNeed 3 o ≤ n → cLive K V St lw B T' ks ss vs (mX8_rec n) (gRec K V St lw n) 3 o) ∧ (gNeed 4 o ≤ n → cLive K V St lw B T' ks ss vs (mX8_rec n) (gRec K V St lw n) 4 o) := by
  intro n
  induction n with
  | zero =>
    intro o ho
    obtain ⟨e0, e1, e2, e3, e4⟩ := gNd o
    rw [e0, e1, e2, e3, e4]
    exact ⟨fun q => by omega, fun q => by omega, fun q => by omega, fun q => by omega, fun q => by omega⟩
  | succ n ih =>
    intro o ho
    obtain ⟨e0, e1, e2, e3, e4⟩ := gNd o
    obtain ⟨f0, f1, f2, f3, f4⟩ := gNd (o + 1)
    have hd : 3 ≤ n → ∀ j, cDead (mX8_rec n) (nI T') (nI lw) ks ss vs j := by
      intro h3
      obtain ⟨m, rfl⟩ : ∃ m, n = m + 3 := ⟨n - 3, by omega⟩
      exact (d_rec (nI T') (nI lw) ks ss vs m).2.2
    have up := ih (o + 1)
    have here := ih o ho
    rw [e0, e1, e2, e3, e4]
    rw [e0, e1, e2, e3, e4] at here
    rw [f0, f1, f2, f3, f4] at up
    clear ih
    refine ⟨fun q => ?_, fun q => ?_, fun q => ?_, fun q => ?_, fun q => ?_⟩
    · have u0 := fun (z : o < 7) => (up z).1 (ar1 q z (by decide))
      have u1 := fun (z : o < 7) => (up z).2.1 (ar1 q z (by decide))
      have u2 := here.2.2.1 (ar2 q (by decide))
      have hD := hd (ar3 q ho)
      clear up here hd
      intro w k c p A hk h4 hw hc
      rw [rec0, gRec0]
      exact g_fact h hD o ho u0 u1 u2 k c p A hk hc
    · have u0 := here.1 (ar2 q (by decide))
      clear up here hd
      intro w k c p A hk h4 hw hc
      rw [rec1, gRec1]
      exact g_test h o u0 k c p A hk hc
    · have u3 := here.2.2.2.1 (ar2 q (by decide))
      clear up here hd
      intro w k c p A hk h4 hw hc
      rw [rec2, gRec2]
      exact g_sum h o u3 k c p A hk hc
    · have u2 := fun (z : o < 7) => (up z).2.2.1 (ar1 q z (by decide))
      have u4 := here.2.2.2.2 (ar2 q (by decide))
      have hD := hd (ar3 q ho)
      clear up here hd
      intro w k c p A hk h4 hw hc
      rw [rec3, gRec3]
      exact g_part h hlw hD o ho u2 u4 k c p A hk hc
    · have u2 := fun (z : o < 7) => (up z).2.2.1 (ar1 q z (by decide))
      have u1 := fun (z : o < 7) => (up z).2.1 (ar1 q z (by decide))
      have hD := hd (ar3 q ho)
      clear up here hd
      intro w k c p A hk h4 hw hc
      rw [rec4, gRec4]
      exact g_call h hD o ho u2 u1 w hw k c p A (h4 rfl) hc
end GF
