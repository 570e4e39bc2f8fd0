section SF
variable {K V St : Nat → Nat} {lw B : Nat} {Rn : Nat → Nat → Nat → Nat → NR} {o : Nat}
theorem mCt_app : ∀ p q : List Nat, mCt (p ++ q) = mCt p + mCt q
  | [], q => by simp [mCt]
  | x :: p, q => by rw [List.cons_append, mCt, mCt, mCt_app p q]; omega
theorem gCm_ne {k : Nat} (h : gCm K V k ≠ 0) : K k = 5 ∧ mRk (gCm K V k) = 4 := by
  unfold gCm at h ⊢
  by_cases h1 : gSg K V k 60 = true
  · rw [if_pos h1]; exact ⟨(gSg_K h1).1, rfl⟩
  · rw [if_neg h1] at h ⊢
    by_cases h2 : gSg K V k 62 = true
    · rw [if_pos h2]; exact ⟨(gSg_K h2).1, rfl⟩
    · rw [if_neg h2] at h ⊢
      by_cases h3 : gSg K V k 61 = true
      · rw [if_pos h3]; exact ⟨(gSg_K h3).1, rfl⟩
      · rw [if_neg h3] at h; exact absurd rfl h
theorem m_fact (hB : mOk K B) (ho : o ≤ 7) (h0 : o < 7 → m0 K V St lw B Rn (o + 1)) (h1 : o < 7 → m1 K V St lw B Rn (o + 1)) (h2 : m2 K V St lw B Rn o) (k : Nat) (L : List (Nat × Nat)) (F : Fr) (R : List Fr) (hk : k ≤ B) (hts : mTs F.1 = true) (hbg : F.2.2.1 = true) (hph : F.2.1 = 0) (hp0 : ∀ x, x ∈ F.2.2.2.2.head? → mRk x < 4) : mRs K V St lw B (gFact K V St Rn k o) k (false, k, o, L, F :: R) (q0 K V o L F R) := by
  have fst : (mTs F.1 && F.2.2.1) = true := by rw [hts, hbg]; rfl
  unfold gFact
  by_cases w20 : gOw K V k 20 = true
  · have e4 := (gOw_K w20).1
    have hkB := hB k hk (by omega)
    have st : mStep K V St lw (false, k, o, L, F :: R) = if o = 7 then .inr (nBad 5 (St k)) else .inl (false, k + 1, o + 1, L, (F.1, F.2.1, F.2.2.1, F.2.2.2.1, 43 :: F.2.2.2.2) :: R) := by
      show mOp K V St lw (false, k, o, L, F :: R) F R = _
      unfold mOp
      dsimp only
      rw [fst, w20, if_neg (by omega), if_pos (show (true && true) = true from rfl)]
    rw [if_pos w20]
    unfold gOpen
    by_cases o7 : 7 ≤ o
    · rw [if_pos o7]
      rw [if_pos (by omega)] at st
      exact mRs_bad (by decide) hk st
    · rw [if_neg o7]
      rw [if_neg (by omega)] at st
      refine mRs_to (mTo_1 st (Nat.le_refl _)) (Nat.le_refl k) ?_
      refine mRs_bindB (h0 (by omega) (k + 1) L (F.1, F.2.1, F.2.2.1, F.2.2.2.1, 43 :: F.2.2.2.2) R hkB hts hbg hph (fun x hx => by simp at hx; rw [← hx]; decide)) ?_
      intro k' L' Y hk1 hk2 hY hQ
      obtain ⟨p, M, ph, hp, hM, hph2, hw, e⟩ := hQ
      subst e
      refine mRs_here (by omega) hk2 rfl ⟨p ++ [43], M, ph, fun x hx => ?_, ?_, hph2, hw, ?_⟩
      · rcases List.mem_append.mp hx with q | q
        · exact hp x q
        · rw [List.mem_singleton.mp q]; decide
      · rw [mEm_app, ← List.append_assoc, hM, List.append_assoc]; rfl
      · show (true, k', o + 1 + mCt p, M, (F.1, ph, false, F.2.2.2.1, p ++ 43 :: F.2.2.2.2) :: R) = _
        rw [mCt_app, List.append_assoc]
        have : o + 1 + mCt p = o + (mCt p + mCt [43]) := by simp [mCt]; omega
        rw [this]
        rfl
  rw [if_neg w20]
  by_cases s91 : gSg K V k 91 = true
  · have e5 := (gSg_K s91).1
    have hkB := hB k hk (by omega)
    have st : mStep K V St lw (false, k, o, L, F :: R) = if o = 7 then .inr (nBad 5 (St k)) else .inl (false, k + 1, o + 1, L, (5, 0, true, 0, []) :: mCl F [] :: R) := by
      show mOp K V St lw (false, k, o, L, F :: R) F R = _
      unfold mOp
      dsimp only
      rw [fst, s91, gOw_no (by omega), if_neg (by omega), if_neg (show ¬ (true && false) = true by decide), if_pos (show (true && true) = true from rfl)]
      rfl
    rw [if_pos s91]
    unfold gOpen
    by_cases o7 : 7 ≤ o
    · rw [if_pos o7]
      rw [if_pos (by omega)] at st
      exact mRs_bad (by decide) hk st
    · rw [if_neg o7]
      rw [if_neg (by omega)] at st
      refine mRs_to (mTo_1 st (Nat.le_refl _)) (Nat.le_refl k) ?_
      refine mRs_bindB (h1 (by omega) (k + 1) L (5, 0, true, 0, []) (mCl F [] :: R) hkB rfl rfl rfl rfl) ?_
      intro k' L' Y hk1 hk2 hY hQ
      obtain ⟨p, M, ph, hp, hM, hph2, hw, n19, n18, e⟩ := hQ
      subst e
      have hj := mJn_all 1 p [] (o + 1) M hp (fun x hx => by cases hx)
      rw [hM] at hj
      refine mRs_lo (m_mustE hB hk2 rfl (fun e1 => mGo_lex e1) (fun e1 => ?_) (Y := (true, k' + 1, o, L ++ L', (F.1, 2, false, F.2.2.2.1, F.2.2.2.2) :: R)) rfl ?_) (show k ≤ k' by omega)
      · have cl := mGo_close (St := St) (lw := lw) (c := 93) (o := o + 1 + mCt p) (d := 0) (M := M) (p := p) (F := (5, ph, false, 0, p ++ [])) (R := mCl F [] :: R) e1 hw (fun _ => ⟨hph2, n19, n18⟩) (show ¬ (5 : Nat) < 2 by decide) (show ¬ ((5 : Nat) = 3 ∨ (5 : Nat) = 6) by decide) rfl
        refine Eq.trans cl ?_
        show (if gSg K V k' 93 = true then Sum.inl (true, k' + 1, (mJn 1 (p ++ []) (o + 1 + mCt p) M).2.1 - 1, (mJn 1 (p ++ []) (o + 1 + mCt p) M).2.2 ++ [], (F.1, 2, false, F.2.2.2.1, [] ++ F.2.2.2.2) :: R) else _) = _
        rw [hj, List.append_nil]
        rfl
      · exact ⟨[], L ++ L', 2, fun x hx => absurd hx List.not_mem_nil, by simp [mEm], by decide, fun q => absurd q (by decide), rfl⟩
  rw [if_neg s91]
  by_cases w21 : gOw K V k 21 = true
  · have e4 := (gOw_K w21).1
    have hkB := hB k hk (by omega)
    have st : mStep K V St lw (false, k, o, L, F :: R) = .inl (true, k + 1, o, L ++ [(30, 0)], (F.1, 2, false, F.2.2.2.1, F.2.2.2.2) :: R) := by
      show mOp K V St lw (false, k, o, L, F :: R) F R = _
      unfold mOp
      dsimp only
      rw [fst, w21, gOw_one w21 (by decide), gSg_no (by omega), if_neg (by omega), if_neg (show ¬ (true && false) = true by decide), if_neg (show ¬ (true && false) = true by decide), if_pos (show (true && true) = true from rfl)]
    rw [if_pos w21]
    exact mRs_ok (Nat.lt_succ_self k) hkB (Nat.le_refl _) rfl st ⟨[], L ++ [(30, 0)], 2, fun x hx => absurd hx List.not_mem_nil, by simp [mEm], by decide, fun q => absurd q (by decide), rfl⟩
  rw [if_neg w21]
  have hF : mHF K V F k := fun _ => ⟨Bool.eq_false_iff.mpr w20, Bool.eq_false_iff.mpr s91, Bool.eq_false_iff.mpr w21⟩
  refine mRs_bindB (h2 k L F R hk hF (by omega) (fun x hx => by have := hp0 x hx; omega)) ?_
  intro k' L' Y hk1 hk2 hY hQ
  obtain ⟨p, M, hp, hM, n1, n2, e⟩ := hQ
  subst e
  by_cases c0 : gCm K V k' = 0
  · rw [if_pos c0]
    by_cases e1 : K k' = 1
    · rw [gWh_1 e1]; exact mRs_bad (by decide) hk2 (mGo_lex e1)
    · rw [gWh_n e1]
      refine mRs_bad (by decide) hk2 ?_
      show mGo K V St (true, k', o, M, mCl F p :: R) (mCl F p) R = _
      unfold mGo
      dsimp only
      rw [if_neg e1, if_neg (fun q => q.2 n1), if_neg (fun q => q.2 n2), if_neg (fun q => q.2.2 c0), if_pos (show mTs (mCl F p).1 = true ∧ (mCl F p).2.1 = 0 from ⟨hts, hph⟩)]
  · rw [if_neg c0]
    obtain ⟨e5, r4⟩ := gCm_ne c0
    have hkB := hB k' hk2 (by omega)
    have hj := mJn_all 5 p F.2.2.2.2 o M hp (fun x hx => by have := hp0 x hx; omega)
    rw [mCt0 p (fun x hx => by have := hp x hx; omega), hM, Nat.add_zero] at hj
    have st : mStep K V St lw (true, k', o, M, mCl F p :: R) = .inl (false, k' + 1, o, L ++ L', (F.1, 1, false, F.2.2.2.1, gCm K V k' :: F.2.2.2.2) :: R) := by
      show mGo K V St (true, k', o, M, mCl F p :: R) (mCl F p) R = _
      unfold mGo
      dsimp only
      rw [if_neg (by omega), if_neg (fun q => q.2 n1), if_neg (fun q => q.2 n2), if_pos (show mTs (mCl F p).1 = true ∧ (mCl F p).2.1 = 0 ∧ gCm K V k' ≠ 0 from ⟨hts, hph, c0⟩)]
      show Sum.inl (false, k' + 1, (mJn 5 (p ++ F.2.2.2.2) o M).2.1, (mJn 5 (p ++ F.2.2.2.2) o M).2.2, (F.1, 1, false, F.2.2.2.1, gCm K V k' :: (mJn 5 (p ++ F.2.2.2.2) o M).1) :: R) = _
      rw [hj]
    refine mRs_to (mTo_1 st (Nat.le_refl _)) (Nat.le_refl k) ?_
    refine mRs_bindB (h2 (k' + 1) (L ++ L') (F.1, 1, false, F.2.2.2.1, gCm K V k' :: F.2.2.2.2) R hkB (fun q => by rw [Bool.and_false] at q; exact Bool.noConfusion q) (show 1 < 2 by decide) (fun x hx => by simp at hx; rw [← hx, r4]; decide)) ?_
    intro k2 L2 Y hk3 hk4 hY2 hQ2
    obtain ⟨p2, M2, hp2, hM2, n3, n4, e⟩ := hQ2
    subst e
    refine mRs_here (by omega) hk4 rfl ⟨p2 ++ [gCm K V k'], M2, 1, fun x hx => ?_, ?_, by decide, fun _ => ⟨n3, n4⟩, ?_⟩
    · rcases List.mem_append.mp hx with q | q
      · have := hp2 x q; omega
      · rw [List.mem_singleton.mp q, r4]; decide
    · rw [mEm_app, ← List.append_assoc, hM2]; simp [mEm]
    · rw [mCt_app, mCt0 p2 (fun x hx => by have := hp2 x hx; omega), mCt0 [gCm K V k'] (fun x hx => by rw [List.mem_singleton.mp hx, r4]; decide)]
      show (true, k2, o, M2, (F.1, 1, false, F.2.2.2.1, p2 ++ gCm K V k' :: F.2.2.2.2) :: R) = _
      rw [List.append_assoc]
      rfl
end SF
