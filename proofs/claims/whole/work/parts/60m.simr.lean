section SC
variable {K V St : Nat → Nat} {lw B : Nat} {Rn : Nat → Nat → Nat → Nat → NR} {o : Nat}
theorem mGo_comma {k o kd ph pr : Nat} {bg : Bool} {M : List (Nat × Nat)} {pd : List Nat} {R : List Fr} (hk : K k ≠ 1) (hw : ph < 2 → gWk K V k = 0 ∧ gSt K V k = 0) (hts : mTs kd = true → ph ≠ 0 ∧ gOw K V k 19 = false ∧ gOw K V k 18 = false) (h3 : kd = 3 ∨ kd = 6) :
    mStep K V St lw (true, k, o, M, (kd, ph, bg, pr, pd) :: R) = if gSg K V k 44 = true then
      .inl (false, k + 1, (mJn 1 pd o M).2.1, (mJn 1 pd o M).2.2, (if kd = 3 then 4 else 3, 0, bg, pr, (mJn 1 pd o M).1) :: R) else .inr (nBad 1 (St k)) := by
  show mGo K V St (true, k, o, M, (kd, ph, bg, pr, pd) :: R) (kd, ph, bg, pr, pd) R = _
  unfold mGo
  dsimp only
  rw [if_neg hk, if_neg (fun q => q.2 (hw q.1).1), if_neg (fun q => q.2 (hw q.1).2), if_neg (fun q => (hts q.1).1 q.2.1), if_neg (fun q => (hts q.1).1 q.2), if_neg (fun q => by have := (hts q.1).2.1; rw [q.2] at this; exact Bool.noConfusion this), if_neg (fun q => by have := (hts q.1).2.2; rw [q.2] at this; exact Bool.noConfusion this), if_neg (by omega), if_pos h3]
theorem m_call2 (hB : mOk K B) (h2 : m2 K V St lw B Rn (o + 1)) (L : List (Nat × Nat)) (F : Fr) (R : List Fr) (w k c : Nat) (bg : Bool) (L0 : List (Nat × Nat)) (hk : k ≤ B) (hc : (if w = 17 then 44 else if w = 22 then 36 else 37) = c) : mRs K V St lw B (gCall2 K V St Rn w k (o + 1) L0) k (false, k, o + 1, L ++ L0, (3, 0, bg, c, []) :: mCl F [] :: R) (q3 o L F R) := by
  unfold gCall2
  rw [hc]
  refine mRs_bind (h2 k (L ++ L0) (3, 0, bg, c, []) (mCl F [] :: R) hk (fun q => absurd q (show ¬ (mTs 3 && bg) = true by cases bg <;> decide)) (show 0 < 2 by decide) (fun x hx => by cases hx)) ?_
  intro k1 L1 Y hk1 hk2 hY hQ
  obtain ⟨p, M, hp, hM, n1, n2, e⟩ := hQ
  subst e
  have hj := mJn_all 1 p [] (o + 1) M (fun x hx => by have := hp x hx; omega) (fun x hx => by cases hx)
  rw [mCt0 p (fun x hx => by have := hp x hx; omega), hM, Nat.add_zero] at hj
  refine m_mustC hB hk2 rfl (fun e1 => mGo_lex e1) (fun e1 => ?_) (Y := (false, k1 + 1, o + 1, L ++ L0 ++ L1, (4, 0, false, c, []) :: mCl F [] :: R)) rfl (fun hkB => ?_)
  · have cm := mGo_comma (St := St) (lw := lw) (k := k1) (o := o + 1) (kd := 3) (ph := 0) (pr := c) (bg := false) (M := M) (pd := p ++ []) (R := mCl F [] :: R) e1 (fun _ => ⟨n1, n2⟩) (fun q => absurd q (by decide)) (Or.inl rfl)
    refine Eq.trans cm ?_
    rw [hj]
    rfl
  · refine mRs_bind (h2 (k1 + 1) (L ++ L0 ++ L1) (4, 0, false, c, []) (mCl F [] :: R) hkB (fun q => absurd q (show ¬ (mTs 4 && false) = true by decide)) (show 0 < 2 by decide) (fun x hx => by cases hx)) ?_
    intro k2 L2 Y hk3 hk4 hY2 hQ2
    obtain ⟨p2, M2, hp2, hM2, n3, n4, e⟩ := hQ2
    subst e
    have hj2 := mJn_all 1 p2 [] (o + 1) M2 (fun x hx => by have := hp2 x hx; omega) (fun x hx => by cases hx)
    rw [mCt0 p2 (fun x hx => by have := hp2 x hx; omega), hM2, Nat.add_zero] at hj2
    refine m_mustE hB hk4 rfl (fun e1 => mGo_lex e1) (fun e1 => ?_) (Y := (true, k2 + 1, o, L ++ L0 ++ L1 ++ L2 ++ [(c, 0)], mCl F [] :: R)) rfl ?_
    · have cl := mGo_close (St := St) (lw := lw) (c := 41) (o := o + 1) (d := 0) (M := M2) (p := p2) (F := (4, 0, false, c, p2 ++ [])) (R := mCl F [] :: R) e1 (fun _ => ⟨n3, n4⟩) (fun q => absurd q (show ¬ mTs 4 = true by decide)) (show ¬ (4 : Nat) < 2 by decide) (show ¬ ((4 : Nat) = 3 ∨ (4 : Nat) = 6) by decide) rfl
      refine Eq.trans cl ?_
      show (if gSg K V k2 41 = true then Sum.inl (true, k2 + 1, (mJn 1 (p2 ++ []) (o + 1) M2).2.1 - 1, (mJn 1 (p2 ++ []) (o + 1) M2).2.2 ++ [(c, 0)], mCl F [] :: R) else _) = _
      rw [hj2]
      rfl
    · show _ = (true, k2 + 1, o, L ++ (L0 ++ L1 ++ L2 ++ [(c, 0)]), mCl F [] :: R)
      simp
theorem m_call (hB : mOk K B) (ho : o ≤ 7) (h1 : o < 7 → m1 K V St lw B Rn (o + 1)) (h2 : o < 7 → m2 K V St lw B Rn (o + 1)) (w k : Nat) (L : List (Nat × Nat)) (F : Fr) (R : List Fr) (hk : k ≤ B) (hw : w = 22 ∨ w = 23 ∨ w = 17) (hg : gOw K V k w = true) : mRs K V St lw B (gCall K V St Rn w k o) k (false, k, o, L, F :: R) (q3 o L F R) := by
  have e4 := (gOw_K hg).1
  have hkB := hB k hk (by omega)
  have hF : mHF K V F k := fun _ => ⟨gOw_one hg (by omega), gSg_no (by omega) 91, gOw_one hg (by omega)⟩
  have st := mOp_st (St := St) (lw := lw) (o := o) (L := L) (R := R) hF
  have any : gOw K V k 22 = true ∨ gOw K V k 23 = true ∨ gOw K V k 17 = true := by
    rcases hw with q | q | q
    · rw [q] at hg; exact Or.inl hg
    · rw [q] at hg; exact Or.inr (Or.inl hg)
    · rw [q] at hg; exact Or.inr (Or.inr hg)
  rw [if_neg (by omega), gSg_no (by omega), if_neg (by decide), if_pos any] at st
  unfold gCall gMust gOpen
  by_cases sg : gSg K V (k + 1) 40 = true
  · have e5 := (gSg_K sg).1
    have hkB2 := hB (k + 1) hkB (by omega)
    rw [if_pos sg] at st ⊢
    by_cases o7 : 7 ≤ o
    · rw [if_pos o7]
      rw [if_pos (by omega)] at st
      exact mRs_bad (by decide) hk st
    · rw [if_neg o7]
      rw [if_neg (by omega)] at st
      refine mRs_to (mTo_1 st (by show k + 1 ≤ k + 2; omega)) (Nat.le_refl k) ?_
      by_cases w17 : w = 17
      · rw [if_pos w17]
        rw [w17] at hg
        rw [if_pos hg, if_pos hg]
        refine mRs_bindB (h1 (by omega) (k + 2) L (6, 0, true, 44, []) (mCl F [] :: R) hkB2 rfl rfl rfl rfl) ?_
        intro k0 L0 Y hk1 hk2 hY hQ
        obtain ⟨p, M, ph, hp, hM, hph, hna, n19, n18, e⟩ := hQ
        subst e
        have hj := mJn_all 1 p [] (o + 1) M hp (fun x hx => by cases hx)
        rw [hM] at hj
        refine mRs_lo (m_mustC hB hk2 rfl (fun e1 => mGo_lex e1) (fun e1 => ?_) (Y := (false, k0 + 1, o + 1, L ++ L0, (3, 0, false, 44, []) :: mCl F [] :: R)) rfl (fun hkB3 => ?_)) (show k ≤ k0 by omega)
        · have cm := mGo_comma (St := St) (lw := lw) (k := k0) (o := o + 1 + mCt p) (kd := 6) (ph := ph) (pr := 44) (bg := false) (M := M) (pd := p ++ []) (R := mCl F [] :: R) e1 hna (fun _ => ⟨hph, n19, n18⟩) (Or.inr rfl)
          refine Eq.trans cm ?_
          rw [hj]
          rfl
        · exact mRs_lo (m_call2 hB (h2 (by omega)) L F R w (k0 + 1) 44 false L0 hkB3 (by rw [if_pos w17])) (by omega)
      · rw [if_neg w17]
        have n17 : ¬ gOw K V k 17 = true := fun q => by rw [gOw_one hg w17] at q; exact Bool.noConfusion q
        rw [if_neg n17, if_neg n17]
        have hc : (if w = 17 then 44 else if w = 22 then 36 else 37) = (if gOw K V k 22 = true then 36 else 37) := by
          rw [if_neg w17]
          by_cases w22 : w = 22
          · rw [w22] at hg; rw [if_pos w22, if_pos hg]
          · rw [if_neg w22, if_neg (fun q => by rw [gOw_one hg w22] at q; exact Bool.noConfusion q)]
        have g := m_call2 hB (h2 (by omega)) L F R w (k + 2) _ true [] hkB2 hc
        rw [List.append_nil] at g
        exact mRs_lo g (by omega)
  · rw [if_neg sg] at st ⊢
    exact mRs_bad (by decide) hk st
/-- the machine reads what the grammar says -/
theorem m_rec (hB : mOk K B) (hB2 : B ≤ 1600) : ∀ n o, o ≤ 7 → (gNeed 0 o ≤ n → m0 K V St lw B (gRec K V St lw n) o) ∧ (gNeed 1 o ≤ n → m1 K V St lw B (gRec K V St lw n) o) ∧ (gNeed 2 o ≤ n → m2 K V St lw B (gRec K V St lw n) o) ∧ (gNeed 3 o ≤ n → m3 K V St lw B (gRec K V St lw n) o) ∧ (gNeed 4 o ≤ n → m4 K V St lw B (gRec K V St lw n) o) := by
  intro n
  induction n with
  | zero =>
    intro o ho
    obtain ⟨e0, e1, e2, e3, e4⟩ := gNd o
    rw [e0, e1, e2, e3, e4]
    exact ⟨fun q => by omega, fun q => by omega, fun q => by omega, fun q => by omega, fun q => by omega⟩
  | succ n ih =>
    intro o ho
    obtain ⟨e0, e1, e2, e3, e4⟩ := gNd o
    obtain ⟨f0, f1, f2, f3, f4⟩ := gNd (o + 1)
    have up := ih (o + 1)
    have here := ih o ho
    rw [e0, e1, e2, e3, e4]
    rw [e0, e1, e2, e3, e4] at here
    rw [f0, f1, f2, f3, f4] at up
    clear ih
    refine ⟨fun q => ?_, fun q => ?_, fun q => ?_, fun q => ?_, fun q => ?_⟩
    · have u0 := fun (z : o < 7) => (up z).1 (ar1 q z (by decide))
      have u1 := fun (z : o < 7) => (up z).2.1 (ar1 q z (by decide))
      have u2 := here.2.2.1 (ar2 q (by decide))
      clear up here
      intro k L F R hk a b c d
      rw [gRec0]
      exact m_fact hB ho u0 u1 u2 k L F R hk a b c d
    · have u0 := here.1 (ar2 q (by decide))
      clear up here
      intro k L F R hk a b c d
      rw [gRec1]
      exact m_test hB hB2 u0 k L F R hk a b c d
    · have u3 := here.2.2.2.1 (ar2 q (by decide))
      clear up here
      intro k L F R hk a b c
      rw [gRec2]
      exact m_sum hB hB2 u3 k L F R hk a b c
    · have u2 := fun (z : o < 7) => (up z).2.2.1 (ar1 q z (by decide))
      have u4 := here.2.2.2.2 (ar2 q (by decide))
      clear up here
      intro k L F R hk a
      rw [gRec3]
      exact m_part hB ho u2 u4 k L F R hk a
    · have u1 := fun (z : o < 7) => (up z).2.1 (ar1 q z (by decide))
      have u2 := fun (z : o < 7) => (up z).2.2.1 (ar1 q z (by decide))
      clear up here
      intro w k L F R hk a b
      rw [gRec4]
      exact m_call hB ho u1 u2 w k L F R hk a b
end SC
