section OQ
variable {tx : Nat → Nat} {n : Nat} {tp : Nat → Int32} {i lw c0 B k o : Nat} {CS0 CV0 : Nat → Int32} {sg sa se v : Int32} {w : Int64} {lx : Int32} {M : List (Nat × Nat)} {kd ph : Nat} {bg : Bool} {pr : Nat} {pd : List Nat} {R : List Fr} {fr pH be pa ba op : Nat → Int32}
theorem blame_1 (a b P : Int32) : mX12_blame a b 1 P = (1, P) := by
  unfold mX12_blame; rw [if_pos (by decide)]
/-- a fault that is told goes out of all that follows -/
theorem r_422b (hI : oI c0 B (true, k, o, M, (kd, ph, bg, pr, pd) :: R)) (hA : oA fr pH be pa ba op ((kd, ph, bg, pr, pd) :: R)) (hB2 : B ≤ 1600) (q : Nat) : oEg tx n i c0 B CS0 CV0 (.inr (nBad 1 q)) pa ba (mX12_goesOn_422 (nI n) sg sa se v w lx (nI (c0 + M.length)) (nI i) (nI (R.length + 1)) (nI o) (nI (oC R + pd.length)) true tp (rput CS0 (1600 * i + c0) (oSo M)) (rput CV0 (1600 * i + c0) (oVa M)) fr pH be pa ba op 1 (nI q)) := by
  have nu := oI_num hI
  have f470 : oEg tx n i c0 B CS0 CV0 (.inr (nBad 1 q)) pa ba (mX12_goesOn_470 (nI n) sg sa se v w lx (nI (c0 + M.length)) (nI i) (nI (R.length + 1)) (nI o) (nI (oC R + pd.length)) true tp (rput CS0 (1600 * i + c0) (oSo M)) (rput CV0 (1600 * i + c0) (oVa M)) fr pH be ba op 1 (nI q)) := by
    unfold mX12_goesOn_470
    rw [if_pos (by decide)]
    exact oEg_bad (by decide) (by decide) rfl rfl (by omega)
  have f452 : oEg tx n i c0 B CS0 CV0 (.inr (nBad 1 q)) pa ba (mX12_goesOn_452 (nI n) sg sa se v w lx (nI (c0 + M.length)) (nI i) (nI (R.length + 1)) (nI o) (nI (oC R + pd.length)) true tp (rput CS0 (1600 * i + c0) (oSo M)) (rput CV0 (1600 * i + c0) (oVa M)) fr pH be ba op 1 (nI q)) := by
    unfold mX12_goesOn_452
    rw [blame_1, xlet_eq, xu_q]
    exact ite_ex _ f470 f470
  have f546 : oEg tx n i c0 B CS0 CV0 (.inr (nBad 1 q)) pa ba (mX12_goesOn_546 (nI n) sg sa se v w lx (nI (c0 + M.length)) (nI i) (nI (R.length + 1)) (nI o) (nI (oC R + pd.length)) true tp (rput CS0 (1600 * i + c0) (oSo M)) (rput CV0 (1600 * i + c0) (oVa M)) fr pH be pa ba op 1 (nI q)) := by
    unfold mX12_goesOn_546
    rw [if_pos (by decide)]
    exact oEg_bad (by decide) (by decide) rfl rfl (by omega)
  have f531 : ∀ c, oEg tx n i c0 B CS0 CV0 (.inr (nBad 1 q)) pa ba (mX12_goesOn_531 (nI n) sg sa se v w lx (nI (c0 + M.length)) (nI i) (nI (R.length + 1)) (nI o) (nI (oC R + pd.length)) true tp (rput CS0 (1600 * i + c0) (oSo M)) (rput CV0 (1600 * i + c0) (oVa M)) fr pH be pa ba op c 1 (nI q)) := fun c => by
    unfold mX12_goesOn_531
    rw [blame_1, xlet_eq, xu_q]
    exact ite_ex _ f546 f546
  unfold mX12_goesOn_422
  rw [if_neg (show ¬ (1 : Int32) = 0 by decide)]
  refine ite_ex _ ?_ (ite_ex _ f452 (ite_ex _ f452 (ite_ex _ (f531 _) (f531 _))))
  exact oEg_bad (by decide) (by decide) rfl rfl (by omega)
/-- the end of what a frame holds -/
theorem r_422 (hn : n ≤ 1600) (ht : ∀ i, i < n → tp i = nI (tx i)) (hb : ∀ i, i < n → tx i < 256) (hB : mOk (tK tx n) B) (hB2 : B ≤ 1600) (hi : i < 2) (hG : oG tx n k sg sa se v w lx) (hI : oI c0 B (true, k, o, M, (kd, ph, bg, pr, pd) :: R)) (hA : oA fr pH be pa ba op ((kd, ph, bg, pr, pd) :: R)) (hk1 : tK tx n k ≠ 1) : oEg tx n i c0 B CS0 CV0 (if kd < 2 then .inr (nOk k (mJn 1 pd o M).2.2)
  else if kd = 3 ∨ kd = 6 then (if gSg (tK tx n) (tV tx n) k 44 = true then .inl (false, k + 1, (mJn 1 pd o M).2.1, (mJn 1 pd o M).2.2, (if kd = 3 then 4 else 3, 0, bg, pr, (mJn 1 pd o M).1) :: R) else .inr (nBad 1 (tS tx n k)))
  else if gSg (tK tx n) (tV tx n) k (if kd = 5 then 93 else 41) = true then
    (match (generalizing := false) R with
     | [] => .inr (nBad 9 0)
     | G :: R' => .inl (true, k + 1, (mJn 1 pd o M).2.1 - 1, (mJn 1 pd o M).2.2 ++ (if kd = 4 then [(pr, 0)] else []), (G.1, if kd = 5 then 2 else G.2.1, G.2.2.1, G.2.2.2.1, G.2.2.2.2) :: R'))
  else .inr (nBad 1 (tS tx n k))) pa ba (mX12_goesOn_422 (nI n) sg sa se v w lx (nI (c0 + M.length)) (nI i) (nI (R.length + 1)) (nI o) (nI (oC R + pd.length)) true tp (rput CS0 (1600 * i + c0) (oSo M)) (rput CV0 (1600 * i + c0) (oVa M)) fr pH be pa ba op 0 oP) := by
  have nu := oI_num hI
  have h6 : kd ≤ 6 := hI.1.1
  obtain ⟨j1, j2, j3⟩ := oJ1 hI
  have hl : (mJn 1 pd o M).2.2.length = M.length + pd.length := by rw [j2, List.length_append]; unfold mEm; rw [List.length_map]
  have hcm : c0 + M.length + (oC R + pd.length) ≤ k := nu.2.2.1
  have hkB := nu.2.2.2.1
  have e1 : (nI (R.length + 1) - 1).toNatClampNeg = R.length := by rw [(dpred R.length (by omega)).1]; exact (dpred R.length (by omega)).2.2
  have ef : fr R.length = nI kd := hA.1
  have fe : ∀ y, y < 100 → (nI kd = nI y ↔ kd = y) := fun y hy => nI_eq (by omega) (by omega)
  have jo : mX12_joins (1 : Int32) (nI (c0 + M.length)) (nI i) (nI (R.length + 1)) (nI o) (nI (oC R + pd.length)) (rput CS0 (1600 * i + c0) (oSo M)) (rput CV0 (1600 * i + c0) (oVa M)) ba op = some (nI (c0 + (mJn 1 pd o M).2.2.length), nI (mJn 1 pd o M).2.1, nI (oC R + (mJn 1 pd o M).1.length), rput CS0 (1600 * i + c0) (oSo (mJn 1 pd o M).2.2), rput CV0 (1600 * i + c0) (oVa (mJn 1 pd o M).2.2)) := r_jo hB2 hi hI hA 1 (by decide)
  have sa' := oG_at hG
  have ws : ∀ c, c < 1000 → mX12_isSign (nI c) sg v = gSg (tK tx n) (tV tx n) k c := fun c hc => oG_sign tx n hb hG hk1 hc
  have kB : ∀ c, gSg (tK tx n) (tV tx n) k c = true → k < B := fun c h => hB k hkB (by have := (gSg_K h).1; omega)
  unfold mX12_goesOn_422
  rw [e1, ef]
  by_cases h2 : kd < 2
  · rw [if_pos h2, if_pos (show nI kd < (2 : Int32) from nI_lt (b := 2) h2 (by decide)), if_pos rfl, jo, obind]
    simp only [xu_q]
    refine ⟨false, true, sg, sa, se, v, w, 0, oP, lx, _, _, _, _, _, _, fr, pH, be, op, rfl, Or.inl ⟨rfl, ⟨rfl, rfl⟩, hG, rfl, rfl, rfl, ?_, hkB⟩, fun _ => rfl⟩
    show c0 + (mJn 1 pd o M).2.2.length ≤ k
    omega
  rw [if_neg h2, if_neg (show ¬ nI kd < (2 : Int32) from nI_nlt (b := 2) (by omega) (by omega))]
  have comma : ∀ (kd' : Nat), (kd = 3 ∧ kd' = 4) ∨ (kd = 6 ∧ kd' = 3) → oEg tx n i c0 B CS0 CV0 (if gSg (tK tx n) (tV tx n) k 44 = true then .inl (false, k + 1, (mJn 1 pd o M).2.1, (mJn 1 pd o M).2.2, (kd', 0, bg, pr, (mJn 1 pd o M).1) :: R) else .inr (nBad 1 (tS tx n k))) pa ba (mX12_goesOn_452 (nI n) sg sa se v w lx (nI (c0 + M.length)) (nI i) (nI (R.length + 1)) (nI o) (nI (oC R + pd.length)) true tp (rput CS0 (1600 * i + c0) (oSo M)) (rput CV0 (1600 * i + c0) (oVa M)) fr pH be ba op 0 oP) := by
    intro kd' hkd
    unfold mX12_goesOn_452
    rw [show mX12_isSign (44 : Int32) sg v = _ from ws 44 (by decide)]
    by_cases s44 : gSg (tK tx n) (tV tx n) k 44 = true
    · rw [if_pos s44, if_pos s44]
      unfold mX12_goesOn_470
      rw [if_neg (show ¬ (0 : Int32) < 0 by decide), jo, obind]
      simp only [xu_q]
      rw [e1, ef]
      have fin := r_499 (CS0 := CS0) (CV0 := CV0) hn ht hb hB hB2 hi hG hI hA hk1 (kB 44 s44) kd' hkd
      rcases hkd with ⟨a, b⟩ | ⟨a, b⟩
      · rw [if_pos (show nI kd = 3 from (fe 3 (by decide)).mpr a)]; rw [b] at fin ⊢; exact fin
      · rw [if_neg (show ¬ nI kd = 3 from fun z => by have := (fe 3 (by decide)).mp z; omega)]; rw [b] at fin ⊢; exact fin
    · rw [if_neg s44, if_neg s44, blame_0, xlet_eq, xu_q, sa']
      unfold mX12_goesOn_470
      rw [if_pos (by decide)]
      exact oEg_bad (by decide) (by decide) rfl rfl (by omega)
  by_cases h3 : kd = 3
  · rw [if_pos (Or.inl h3), if_pos h3, if_pos (show nI kd = 3 from (fe 3 (by decide)).mpr h3)]
    exact comma 4 (Or.inl ⟨h3, rfl⟩)
  rw [if_neg (show ¬ nI kd = 3 from fun z => h3 ((fe 3 (by decide)).mp z))]
  by_cases h6 : kd = 6
  · rw [if_pos (Or.inr h6), if_neg h3, if_pos (show nI kd = 6 from (fe 6 (by decide)).mpr h6)]
    exact comma 3 (Or.inr ⟨h6, rfl⟩)
  rw [if_neg (show ¬ (kd = 3 ∨ kd = 6) by omega), if_neg (show ¬ nI kd = 6 from fun z => h6 ((fe 6 (by decide)).mp z))]
  have close : ∀ c, c < 1000 → c = (if kd = 5 then 93 else 41) → oEg tx n i c0 B CS0 CV0 (if gSg (tK tx n) (tV tx n) k (if kd = 5 then 93 else 41) = true then
    (match (generalizing := false) R with
     | [] => .inr (nBad 9 0)
     | G :: R' => .inl (true, k + 1, (mJn 1 pd o M).2.1 - 1, (mJn 1 pd o M).2.2 ++ (if kd = 4 then [(pr, 0)] else []), (G.1, if kd = 5 then 2 else G.2.1, G.2.2.1, G.2.2.2.1, G.2.2.2.2) :: R'))
    else .inr (nBad 1 (tS tx n k))) pa ba (mX12_goesOn_531 (nI n) sg sa se v w lx (nI (c0 + M.length)) (nI i) (nI (R.length + 1)) (nI o) (nI (oC R + pd.length)) true tp (rput CS0 (1600 * i + c0) (oSo M)) (rput CV0 (1600 * i + c0) (oVa M)) fr pH be pa ba op (nI c) 0 oP) := by
    intro c hc hcc
    unfold mX12_goesOn_531
    rw [ws c hc, ← hcc]
    by_cases sc : gSg (tK tx n) (tV tx n) k c = true
    · rw [if_pos sc, if_pos sc]
      cases R with
      | nil => exact absurd (hI.2.2.1 rfl) h2
      | cons G R' =>
        obtain ⟨gd, gh, gb, gp, gq⟩ := G
        obtain ⟨i1, i2, i3, i4, i5, i6, i7, i8⟩ := id hI
        have len : ((gd, gh, gb, gp, gq) :: R' : List Fr).length = R'.length + 1 := rfl
        dsimp only at i5
        rw [len] at i5
        have jo1 : 1 ≤ (mJn 1 pd o M).2.1 := by omega
        have ss := r_596 (i := i) (CS0 := CS0) (CV0 := CV0) hn ht hb hG hI hA (kB c sc)
        unfold mX12_goesOn_546
        rw [if_neg (show ¬ (0 : Int32) < 0 by decide), jo, obind]
        simp only [xu_q]
        rw [e1, ef]
        have e4 : nI (mJn 1 pd o M).2.1 - 1 = nI ((mJn 1 pd o M).2.1 - 1) := pk_sub (b := 1) jo1
        rw [e4]
        by_cases h4 : kd = 4
        · rw [if_pos (show nI kd = 4 from (fe 4 (by decide)).mpr h4), if_pos h4]
          have hp : pa ((gd, gh, gb, gp, gq) :: R' : List Fr).length = nI pr := hA.2.2.2.1 (Or.inr (Or.inl h4))
          have kb := kB c sc
          have ca : mX12_add (nI pr) (0 : Int32) (nI (c0 + (mJn 1 pd o M).2.2.length)) (nI i) (rput CS0 (1600 * i + c0) (oSo (mJn 1 pd o M).2.2)) (rput CV0 (1600 * i + c0) (oVa (mJn 1 pd o M).2.2)) = _ := s_codeAdd i _ pr 0 hi (by omega) _ _
          rw [hp, ca, obind]
          simp only [xu_q]
          have fin := ss [(pr, 0)] (Nat.le_refl 1)
          rw [rput_S (mJn 1 pd o M).2.2 pr 0, rput_V (mJn 1 pd o M).2.2 pr 0]
          rw [List.length_append, List.length_cons, List.length_nil, ← Nat.add_assoc] at fin
          exact fin
        · rw [if_neg (show ¬ nI kd = 4 from fun z => h4 ((fe 4 (by decide)).mp z)), if_neg h4]
          have fin := ss [] (Nat.zero_le 1)
          rw [List.append_nil] at fin ⊢
          exact fin
    · rw [if_neg sc, if_neg sc, blame_0, xlet_eq, xu_q, sa']
      unfold mX12_goesOn_546
      rw [if_pos (by decide)]
      exact oEg_bad (by decide) (by decide) rfl rfl (by omega)
  by_cases h5 : kd = 5
  · rw [if_pos (show nI kd = 5 from (fe 5 (by decide)).mpr h5)]
    exact close 93 (by decide) (by rw [if_pos h5])
  · rw [if_neg (show ¬ nI kd = 5 from fun z => h5 ((fe 5 (by decide)).mp z))]
    exact close 41 (by decide) (by rw [if_neg h5])
end OQ
