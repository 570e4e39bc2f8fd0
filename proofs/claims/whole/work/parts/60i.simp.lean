section SJ
variable {K V St : Nat → Nat} {lw B : Nat} {Rn : Nat → Nat → Nat → Nat → NR} {o : Nat}
theorem mCt0 : ∀ p : List Nat, (∀ x, x ∈ p → 4 ≤ mRk x) → mCt p = 0
  | [], _ => rfl
  | x :: p, h => by
    have a := h x List.mem_cons_self
    have e : ¬ x = 43 := fun q => by rw [q] at a; exact absurd a (by decide)
    rw [mCt, if_neg e, mCt0 p (fun y hy => h y (List.mem_cons_of_mem _ hy))]
theorem mGo_lex {k o : Nat} {M : List (Nat × Nat)} {F : Fr} {R : List Fr} (hk : K k = 1) : mStep K V St lw (true, k, o, M, F :: R) = .inr (nBad 1 (V k)) := by
  show mGo K V St (true, k, o, M, F :: R) F R = _
  unfold mGo
  dsimp only
  rw [if_pos hk]
theorem gWh_1 {k : Nat} (h : K k = 1) : gWh K V St k = V k := by unfold gWh; rw [if_pos h]
theorem gWh_n {k : Nat} (h : K k ≠ 1) : gWh K V St k = St k := by unfold gWh; rw [if_neg h]
theorem m_mustE (hB : mOk K B) {k c : Nat} {X Y : MS} {L' : List (Nat × Nat)} {Q : Nat → List (Nat × Nat) → MS → Prop} (hk : k ≤ B) (hX : X.2.1 = k) (h1 : K k = 1 → mStep K V St lw X = .inr (nBad 1 (V k))) (h2 : K k ≠ 1 → mStep K V St lw X = if gSg K V k c = true then .inl Y else .inr (nBad 1 (St k))) (hY : Y.2.1 = k + 1) (q : Q (k + 1) L' Y) : mRs K V St lw B (gMust K V St k c (nOk (k + 1) L')) k X Q := by
  unfold gMust
  by_cases sg : gSg K V k c = true
  · have e5 := (gSg_K sg).1
    rw [if_pos sg]
    refine mRs_ok (Nat.lt_succ_self k) (hB k hk (by omega)) (by omega) hY ?_ q
    rw [h2 (by omega), if_pos sg]
  · rw [if_neg sg]
    by_cases e1 : K k = 1
    · rw [gWh_1 e1]; exact mRs_bad (by decide) (by omega) (h1 e1)
    · rw [gWh_n e1]
      refine mRs_bad (by decide) (by omega) ?_
      rw [h2 e1, if_neg sg]
theorem m_mustC (hB : mOk K B) {k c : Nat} {X Y : MS} {r : NR} {Q : Nat → List (Nat × Nat) → MS → Prop} (hk : k ≤ B) (hX : X.2.1 = k) (h1 : K k = 1 → mStep K V St lw X = .inr (nBad 1 (V k))) (h2 : K k ≠ 1 → mStep K V St lw X = if gSg K V k c = true then .inl Y else .inr (nBad 1 (St k))) (hY : Y.2.1 = k + 1) (q : k < B → mRs K V St lw B r (k + 1) Y Q) : mRs K V St lw B (gMust K V St k c r) k X Q := by
  unfold gMust
  by_cases sg : gSg K V k c = true
  · have e5 := (gSg_K sg).1
    rw [if_pos sg]
    refine mRs_to (mTo_1 (Y := Y) ?_ (by omega)) (Nat.le_succ k) (q (hB k hk (by omega)))
    rw [h2 (by omega), if_pos sg]
  · rw [if_neg sg]
    by_cases e1 : K k = 1
    · rw [gWh_1 e1]; exact mRs_bad (by decide) (by omega) (h1 e1)
    · rw [gWh_n e1]
      refine mRs_bad (by decide) (by omega) ?_
      rw [h2 e1, if_neg sg]
theorem mOp_st {k o : Nat} {L : List (Nat × Nat)} {F : Fr} {R : List Fr} (hF : mHF K V F k) : mStep K V St lw (false, k, o, L, F :: R) =
    if K k = 1 then .inr (nBad 1 (V k))
    else if gSg K V k 40 = true then (if o = 7 then .inr (nBad 5 (St k)) else .inl (false, k + 1, o + 1, L, (2, 0, true, 0, []) :: mCl F [] :: R))
    else if gOw K V k 22 = true ∨ gOw K V k 23 = true ∨ gOw K V k 17 = true then
      (if gSg K V (k + 1) 40 = true then (if o = 7 then .inr (nBad 5 (St (k + 1))) else .inl (false, k + 2, o + 1, L, (if gOw K V k 17 = true then 6 else 3, 0, true, if gOw K V k 17 = true then 44 else if gOw K V k 22 = true then 36 else 37, []) :: mCl F [] :: R)) else .inr (nBad 1 (gWh K V St (k + 1))))
    else if K k = 2 then .inl (true, k + 1, o, L ++ [(0, V k)], mCl F [] :: R)
    else if gFt K V lw k ≠ 0 then .inl (true, k + 1, o, L ++ [(gFt K V lw k, 0)], mCl F [] :: R)
    else .inr (nBad 1 (St k)) := by
  have f1 : (mTs F.1 && F.2.2.1 && gOw K V k 20) = false := by
    cases h : (mTs F.1 && F.2.2.1) with
    | true => rw [(hF h).1]; rfl
    | false => rfl
  have f2 : (mTs F.1 && F.2.2.1 && gSg K V k 91) = false := by
    cases h : (mTs F.1 && F.2.2.1) with
    | true => rw [(hF h).2.1]; rfl
    | false => rfl
  have f3 : (mTs F.1 && F.2.2.1 && gOw K V k 21) = false := by
    cases h : (mTs F.1 && F.2.2.1) with
    | true => rw [(hF h).2.2]; rfl
    | false => rfl
  show mOp K V St lw (false, k, o, L, F :: R) F R = _
  unfold mOp
  dsimp only
  rw [f1, f2, f3, if_neg (show ¬ (false = true) by decide), if_neg (show ¬ (false = true) by decide), if_neg (show ¬ (false = true) by decide)]
  rfl
theorem mFt_no {k w : Nat} (h : gOw K V k w = true) (hw : w = 22 ∨ w = 23 ∨ w = 17) : gFt K V lw k = 0 := by
  have no : ∀ b, w ≠ b → gOw K V k b = false := fun b q => gOw_one h q
  unfold gFt
  rw [no 11 (by omega), no 14 (by omega), no 15 (by omega), no 16 (by omega), no 2 (by omega), no 12 (by omega), no 13 (by omega)]
  by_cases e : lw = 1
  · simp [e]
  · simp [e]
theorem m_part (hB : mOk K B) (ho : o ≤ 7) (h2 : o < 7 → m2 K V St lw B Rn (o + 1)) (h4 : m4 K V St lw B Rn o) (k : Nat) (L : List (Nat × Nat)) (F : Fr) (R : List Fr) (hk : k ≤ B) (hF : mHF K V F k) : mRs K V St lw B (gPart K V St lw Rn k o) k (false, k, o, L, F :: R) (q3 o L F R) := by
  have st := mOp_st (St := St) (lw := lw) (o := o) (L := L) (R := R) hF
  unfold gPart
  by_cases k2 : K k = 2
  · rw [if_pos k2]
    rw [if_neg (by omega), gSg_no (by omega), if_neg (by decide), gOw_no (by omega), gOw_no (by omega), gOw_no (by omega), if_neg (by decide), if_pos k2] at st
    exact mRs_ok (Nat.lt_succ_self k) (hB k hk (by omega)) (Nat.le_refl _) rfl st rfl
  rw [if_neg k2]
  by_cases ft : gFt K V lw k ≠ 0
  · have e4 := mFt_K ft
    have no : ∀ w, (w = 22 ∨ w = 23 ∨ w = 17) → ¬ gOw K V k w = true := fun w hw q => ft (mFt_no q hw)
    rw [if_pos ft]
    rw [if_neg (by omega), gSg_no (by omega), if_neg (by decide), if_neg (fun q => q.elim (no 22 (by decide)) (fun q => q.elim (no 23 (by decide)) (no 17 (by decide)))), if_neg k2, if_pos ft] at st
    exact mRs_ok (Nat.lt_succ_self k) (hB k hk (by omega)) (Nat.le_refl _) rfl st rfl
  rw [if_neg ft]
  by_cases sg : gSg K V k 40 = true
  · have e5 := (gSg_K sg).1
    have hkB := hB k hk (by omega)
    rw [if_pos sg]
    rw [if_neg (by omega), if_pos sg] at st
    unfold gOpen
    by_cases o7 : 7 ≤ o
    · rw [if_pos o7]
      rw [if_pos (by omega)] at st
      exact mRs_bad (by decide) hk st
    · rw [if_neg o7]
      rw [if_neg (by omega)] at st
      refine mRs_to (mTo_1 st (Nat.le_refl _)) (Nat.le_succ k) ?_
      refine mRs_bind (h2 (by omega) (k + 1) L (2, 0, true, 0, []) (mCl F [] :: R) hkB (fun q => absurd q (by decide)) (by decide) (fun x hx => by cases hx)) ?_
      intro k' L' Y hk1 hk2 hY hQ
      obtain ⟨p, M, hp, hM, w1, w2, e⟩ := hQ
      subst e
      have hj := mJn_all 1 p [] (o + 1) M (fun x hx => by have := hp x hx; omega) (fun x hx => by cases hx)
      rw [mCt0 p (fun x hx => by have := hp x hx; omega), hM] at hj
      refine m_mustE hB hk2 rfl (fun e1 => mGo_lex e1) (fun e1 => ?_) (Y := (true, k' + 1, o, L ++ L', mCl F [] :: R)) rfl rfl
      have cl := mGo_close (St := St) (lw := lw) (c := 41) (o := o + 1) (d := 0) (M := M) (p := p) (F := mCl (2, 0, true, 0, []) p) (R := mCl F [] :: R) e1 (fun _ => ⟨w1, w2⟩) (fun q => absurd q (show ¬ mTs 2 = true by decide)) (show ¬ (2 : Nat) < 2 by decide) (show ¬ ((2 : Nat) = 3 ∨ (2 : Nat) = 6) by decide) rfl
      rw [cl]
      show (if gSg K V k' 41 = true then Sum.inl (true, k' + 1, (mJn 1 (p ++ []) (o + 1 + 0) M).2.1 - 1, (mJn 1 (p ++ []) (o + 1 + 0) M).2.2 ++ [], mCl F [] :: R) else _) = _
      rw [hj, List.append_nil]
      rfl
  rw [if_neg sg]
  have call : ∀ w, (w = 22 ∨ w = 23 ∨ w = 17) → gOw K V k w = true → mRs K V St lw B (Rn 4 w k o) k (false, k, o, L, F :: R) (q3 o L F R) := fun w hw q => h4 w k L F R hk hw q
  by_cases w22 : gOw K V k 22 = true
  · rw [if_pos w22]; exact call 22 (by decide) w22
  rw [if_neg w22]
  by_cases w23 : gOw K V k 23 = true
  · rw [if_pos w23]; exact call 23 (by decide) w23
  rw [if_neg w23]
  by_cases w17 : gOw K V k 17 = true
  · rw [if_pos w17]; exact call 17 (by decide) w17
  rw [if_neg w17]
  by_cases e1 : K k = 1
  · rw [gWh_1 e1]
    rw [if_pos e1] at st
    exact mRs_bad (by decide) hk st
  · rw [gWh_n e1]
    rw [if_neg e1, if_neg sg, if_neg (fun q => q.elim w22 (fun q => q.elim w23 w17)), if_neg k2, if_neg ft] at st
    exact mRs_bad (by decide) hk st
end SJ
