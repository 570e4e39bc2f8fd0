section OQ
variable {tx : Nat → Nat} {n : Nat} {tp : Nat → Int32} {i lw c0 B k o : Nat} {CS0 CV0 : Nat → Int32} {sg sa se v : Int32} {w : Int64} {lx : Int32} {M : List (Nat × Nat)} {kd ph : Nat} {bg : Bool} {pr : Nat} {pd : List Nat} {R : List Fr} {fr pH be pa ba op : Nat → Int32}
theorem wk_of (h5 : tK tx n k = 5) : gWk (tK tx n) (tV tx n) k = (if tV tx n k = 43 then 31 else if tV tx n k = 45 then 32 else 0) ∧ gSt (tK tx n) (tV tx n) k = (if tV tx n k = 42 then 33 else if tV tx n k = 47 then 34 else if tV tx n k = 37 then 35 else 0) ∧ gCm (tK tx n) (tV tx n) k = (if tV tx n k = 60 then 38 else if tV tx n k = 62 then 39 else if tV tx n k = 61 then 40 else 0) := by
  unfold gWk gSt gCm
  simp only [sg_of h5, decide_eq_true_eq, and_self]
theorem wk_no (h5 : tK tx n k ≠ 5) : gWk (tK tx n) (tV tx n) k = 0 ∧ gSt (tK tx n) (tV tx n) k = 0 ∧ gCm (tK tx n) (tV tx n) k = 0 := by
  unfold gWk gSt gCm
  simp [gSg_no h5]
/-- it goes on -/
theorem r_goes (hn : n ≤ 1600) (ht : ∀ i, i < n → tp i = nI (tx i)) (hb : ∀ i, i < n → tx i < 256) (hB : mOk (tK tx n) B) (hB2 : B ≤ 1600) (hi : i < 2) (hG : oG tx n k sg sa se v w lx) (hI : oI c0 B (true, k, o, M, (kd, ph, bg, pr, pd) :: R)) (hA : oA fr pH be pa ba op ((kd, ph, bg, pr, pd) :: R)) :
    oEg tx n i c0 B CS0 CV0 (mGo (tK tx n) (tV tx n) (tS tx n) (true, k, o, M, (kd, ph, bg, pr, pd) :: R) (kd, ph, bg, pr, pd) R) pa ba (mX12_goesOn (nI n) sg sa se v w 0 oP lx (nI (c0 + M.length)) (nI i) (nI (R.length + 1)) (nI o) (nI (oC R + pd.length)) true tp (rput CS0 (1600 * i + c0) (oSo M)) (rput CV0 (1600 * i + c0) (oVa M)) fr pH be pa ba op) := by
  have nu := oI_num hI
  have hkd : kd ≤ 6 := hI.1.1
  have hph : ph ≤ 2 := hI.1.2.1
  obtain ⟨a1, a2, a3, a4, a5, a6, a7⟩ := id hA
  unfold mX12_goesOn
  rw [oG_lex tx n hn hG]
  by_cases hk1 : tK tx n k = 1
  · have e : mGo (tK tx n) (tV tx n) (tS tx n) (true, k, o, M, (kd, ph, bg, pr, pd) :: R) (kd, ph, bg, pr, pd) R = .inr (nBad 1 (tV tx n k)) := by
      unfold mGo
      dsimp only
      rw [if_pos hk1]
    refine oEg_cg e ?_
    rw [if_pos hk1, xlet_eq, xu_q, if_pos (show (0 : Int32) < 1 by decide)]
    exact oEg_bad (by decide) (by decide) rfl rfl (by omega)
  rw [if_neg hk1, xlet_eq, xu_q, if_neg (show ¬ (0 : Int32) < 0 by decide), (dpred R.length (by omega)).1, if_pos (dpred R.length (by omega)).2.1, (dpred R.length (by omega)).2.2]
  have fin := r_422 (CS0 := CS0) (CV0 := CV0) hn ht hb hB hB2 hi hG hI hA hk1
  have bad : ∀ P0, P0 = nI (tS tx n k) → oEg tx n i c0 B CS0 CV0 (.inr (nBad 1 (tS tx n k))) pa ba (mX12_goesOn_422 (nI n) sg sa se v w lx (nI (c0 + M.length)) (nI i) (nI (R.length + 1)) (nI o) (nI (oC R + pd.length)) true tp (rput CS0 (1600 * i + c0) (oSo M)) (rput CV0 (1600 * i + c0) (oVa M)) fr pH be pa ba op 1 P0) := fun P0 hP0 => by
    subst hP0
    exact r_422b hI hA hB2 (tS tx n k)
  have sa' := oG_at hG
  have e1 : (nI (R.length + 1) - 1).toNatClampNeg = R.length := by rw [(dpred R.length (by omega)).1]; exact (dpred R.length (by omega)).2.2
  have p0 : (pH R.length = 0) ↔ ph = 0 := by
    rw [show pH R.length = nI ph from a2]
    exact nI_eq (b := 0) (by omega) (by decide)
  have tst : mX12_isTest (fr R.length) = mTs kd := by rw [show fr R.length = nI kd from a1]; exact s_test kd (by omega)
  have ws : ∀ c, c < 1000 → mX12_isSign (nI c) sg v = gSg (tK tx n) (tV tx n) k c := fun c hc => oG_sign tx n hb hG hk1 hc
  have w19 : mX12_isWord (6385252 : Int64) sg w = gOw (tK tx n) (tV tx n) k 19 := oG_word tx n hG hk1 (x := 19) (by decide)
  have w18 : mX12_isWord (28530 : Int64) sg w = gOw (tK tx n) (tV tx n) k 18 := oG_word tx n hG hk1 (x := 18) (by decide)
  -- what stands behind the operators of a sum
  have s188 : ∀ (rest : MS ⊕ NR), (mTs kd = true ∧ ph = 0 ∧ gCm (tK tx n) (tV tx n) k ≠ 0 → rest = .inl (false, k + 1, (mJn 5 pd o M).2.1, (mJn 5 pd o M).2.2, (kd, 1, bg, pr, gCm (tK tx n) (tV tx n) k :: (mJn 5 pd o M).1) :: R)) →
      (mTs kd = true ∧ ph = 0 ∧ gCm (tK tx n) (tV tx n) k = 0 → rest = .inr (nBad 1 (tS tx n k))) →
      (mTs kd = true ∧ ph ≠ 0 ∧ gOw (tK tx n) (tV tx n) k 19 = true → rest = .inl (false, k + 1, (mJn 2 pd o M).2.1, (mJn 2 pd o M).2.2, (kd, 0, true, pr, 41 :: (mJn 2 pd o M).1) :: R)) →
      (mTs kd = true ∧ ph ≠ 0 ∧ gOw (tK tx n) (tV tx n) k 18 = true → rest = .inl (false, k + 1, (mJn 1 pd o M).2.1, (mJn 1 pd o M).2.2, (kd, 0, true, pr, 42 :: (mJn 1 pd o M).1) :: R)) →
      ((mTs kd = true → ph ≠ 0 ∧ gOw (tK tx n) (tV tx n) k 19 = false ∧ gOw (tK tx n) (tV tx n) k 18 = false) → rest = (if kd < 2 then .inr (nOk k (mJn 1 pd o M).2.2)
  else if kd = 3 ∨ kd = 6 then (if gSg (tK tx n) (tV tx n) k 44 = true then .inl (false, k + 1, (mJn 1 pd o M).2.1, (mJn 1 pd o M).2.2, (if kd = 3 then 4 else 3, 0, bg, pr, (mJn 1 pd o M).1) :: R) else .inr (nBad 1 (tS tx n k)))
  else if gSg (tK tx n) (tV tx n) k (if kd = 5 then 93 else 41) = true then
    (match (generalizing := false) R with
     | [] => .inr (nBad 9 0)
     | G :: R' => .inl (true, k + 1, (mJn 1 pd o M).2.1 - 1, (mJn 1 pd o M).2.2 ++ (if kd = 4 then [(pr, 0)] else []), (G.1, if kd = 5 then 2 else G.2.1, G.2.2.1, G.2.2.2.1, G.2.2.2.2) :: R'))
  else .inr (nBad 1 (tS tx n k)))) →
      oEg tx n i c0 B CS0 CV0 rest pa ba (mX12_goesOn_188 (nI n) sg sa se v w lx (nI (c0 + M.length)) (nI i) (nI (R.length + 1)) (nI o) (nI (oC R + pd.length)) true tp (rput CS0 (1600 * i + c0) (oSo M)) (rput CV0 (1600 * i + c0) (oVa M)) fr pH be pa ba op 0 oP) := by
    intro rest r1 r2 r3 r4 r5
    have q400 : mTs kd = true → ph = 0 → oEg tx n i c0 B CS0 CV0 (.inr (nBad 1 (tS tx n k))) pa ba (mX12_goesOn_400 (nI n) sg sa se v w lx (nI (c0 + M.length)) (nI i) (nI (R.length + 1)) (nI o) (nI (oC R + pd.length)) true tp (rput CS0 (1600 * i + c0) (oSo M)) (rput CV0 (1600 * i + c0) (oVa M)) fr pH be pa ba op 0 oP) := fun ht' h0 => by
      unfold mX12_goesOn_400
      rw [e1, tst, if_pos ht', if_pos (p0.mpr h0), blame_0, xlet_eq, xu_q]
      exact bad _ sa'
    unfold mX12_goesOn_188
    rw [e1, tst]
    by_cases ht' : mTs kd = true
    · rw [if_pos ht']
      by_cases h0 : ph = 0
      · rw [if_pos (p0.mpr h0), show mX12_isSign (60 : Int32) sg v = _ from ws 60 (by decide), show mX12_isSign (62 : Int32) sg v = _ from ws 62 (by decide), show mX12_isSign (61 : Int32) sg v = _ from ws 61 (by decide)]
        have no : gCm (tK tx n) (tV tx n) k = 0 → oEg tx n i c0 B CS0 CV0 rest pa ba (mX12_goesOn_285 (nI n) sg sa se v w lx (nI (c0 + M.length)) (nI i) (nI (R.length + 1)) (nI o) (nI (oC R + pd.length)) true tp (rput CS0 (1600 * i + c0) (oSo M)) (rput CV0 (1600 * i + c0) (oVa M)) fr pH be pa ba op 0 oP) := fun hc => by
          refine oEg_cg (r2 ⟨ht', h0, hc⟩) ?_
          have q309 : oEg tx n i c0 B CS0 CV0 (.inr (nBad 1 (tS tx n k))) pa ba (mX12_goesOn_309 (nI n) sg sa se v w lx (nI (c0 + M.length)) (nI i) (nI (R.length + 1)) (nI o) (nI (oC R + pd.length)) true tp (rput CS0 (1600 * i + c0) (oSo M)) (rput CV0 (1600 * i + c0) (oVa M)) fr pH be ba op 0 oP) := by
            unfold mX12_goesOn_309
            rw [e1, if_pos (p0.mpr h0), blame_0, xlet_eq, xu_q, sa']
            unfold mX12_goesOn_327
            rw [if_pos (by decide)]
            exact oEg_bad (by decide) (by decide) rfl rfl (by omega)
          unfold mX12_goesOn_285
          rw [e1, tst, if_pos ht']
          exact ite_ex _ q309 (ite_ex _ q309 (q400 ht' h0))
        by_cases h5 : tK tx n k = 5
        · have cm := (wk_of h5).2.2
          have go := fun y hy => r_228 (CS0 := CS0) (CV0 := CV0) hn ht hb hB hB2 hi hG hI hA hk1 ht' h0 y hy h5
          rw [sg_of h5 60, sg_of h5 62, sg_of h5 61]
          simp only [decide_eq_true_eq]
          by_cases v60 : tV tx n k = 60
          · rw [if_pos v60] at cm
            rw [if_pos v60]
            refine oEg_cg (r1 ⟨ht', h0, by rw [cm]; decide⟩) ?_
            rw [cm]
            exact go 38 (Or.inl ⟨rfl, v60⟩)
          rw [if_neg v60] at cm
          rw [if_neg v60]
          by_cases v62 : tV tx n k = 62
          · rw [if_pos v62] at cm
            rw [if_pos v62]
            refine oEg_cg (r1 ⟨ht', h0, by rw [cm]; decide⟩) ?_
            rw [cm]
            exact go 39 (Or.inr (Or.inl ⟨rfl, v62⟩))
          rw [if_neg v62] at cm
          rw [if_neg v62]
          by_cases v61 : tV tx n k = 61
          · rw [if_pos v61] at cm
            rw [if_pos v61]
            refine oEg_cg (r1 ⟨ht', h0, by rw [cm]; decide⟩) ?_
            rw [cm]
            exact go 40 (Or.inr (Or.inr ⟨rfl, v61⟩))
          rw [if_neg v61] at cm
          rw [if_neg v61]
          exact no cm
        · rw [gSg_no h5, gSg_no h5, gSg_no h5, if_neg (by decide), if_neg (by decide), if_neg (by decide)]
          exact no (wk_no h5).2.2
      · rw [if_neg (fun q => h0 (p0.mp q))]
        unfold mX12_goesOn_285
        rw [e1, tst, if_pos ht', w19, w18]
        by_cases h19 : gOw (tK tx n) (tV tx n) k 19 = true
        · rw [if_pos h19]
          unfold mX12_goesOn_309
          rw [e1, if_neg (fun q => h0 (p0.mp q))]
          unfold mX12_goesOn_327
          rw [if_neg (by decide), w19, if_pos h19]
          refine oEg_cg (r3 ⟨ht', h0, h19⟩) ?_
          exact r_356 (CS0 := CS0) (CV0 := CV0) hn ht hb hB hB2 hi hG hI hA hk1 ht' 2 41 19 (Or.inl ⟨rfl, rfl, rfl⟩) (gOw_K h19).1 (gOw_K h19).2
        · rw [if_neg h19]
          by_cases h18 : gOw (tK tx n) (tV tx n) k 18 = true
          · rw [if_pos h18]
            unfold mX12_goesOn_309
            rw [e1, if_neg (fun q => h0 (p0.mp q))]
            unfold mX12_goesOn_327
            rw [if_neg (by decide), w19, if_neg h19]
            refine oEg_cg (r4 ⟨ht', h0, h18⟩) ?_
            exact r_356 (CS0 := CS0) (CV0 := CV0) hn ht hb hB hB2 hi hG hI hA hk1 ht' 1 42 18 (Or.inr ⟨rfl, rfl, rfl⟩) (gOw_K h18).1 (gOw_K h18).2
          · rw [if_neg h18]
            unfold mX12_goesOn_400
            rw [e1, tst, if_pos ht', if_neg (fun q => h0 (p0.mp q))]
            refine oEg_cg (r5 (fun _ => ⟨h0, Bool.eq_false_iff.mpr h19, Bool.eq_false_iff.mpr h18⟩)) fin
    · rw [if_neg ht']
      unfold mX12_goesOn_285
      rw [e1, tst, if_neg ht']
      unfold mX12_goesOn_400
      rw [e1, tst, if_neg ht']
      exact oEg_cg (r5 (fun q => absurd q ht')) fin
  have q188 : ¬ (ph < 2 ∧ gWk (tK tx n) (tV tx n) k ≠ 0) → ¬ (ph < 2 ∧ gSt (tK tx n) (tV tx n) k ≠ 0) → oEg tx n i c0 B CS0 CV0 (mGo (tK tx n) (tV tx n) (tS tx n) (true, k, o, M, (kd, ph, bg, pr, pd) :: R) (kd, ph, bg, pr, pd) R) pa ba (mX12_goesOn_188 (nI n) sg sa se v w lx (nI (c0 + M.length)) (nI i) (nI (R.length + 1)) (nI o) (nI (oC R + pd.length)) true tp (rput CS0 (1600 * i + c0) (oSo M)) (rput CV0 (1600 * i + c0) (oVa M)) fr pH be pa ba op 0 oP) := by
    intro n1 n2
    refine s188 _ ?_ ?_ ?_ ?_ ?_
    · intro h
      unfold mGo
      dsimp only
      rw [if_neg hk1, if_neg n1, if_neg n2, if_pos h]
    · intro h
      unfold mGo
      dsimp only
      rw [if_neg hk1, if_neg n1, if_neg n2, if_neg (fun q => q.2.2 h.2.2), if_pos ⟨h.1, h.2.1⟩]
    · intro h
      unfold mGo
      dsimp only
      rw [if_neg hk1, if_neg n1, if_neg n2, if_neg (fun q => h.2.1 q.2.1), if_neg (fun q => h.2.1 q.2), if_pos ⟨h.1, h.2.2⟩]
    · intro h
      have h19 : ¬ gOw (tK tx n) (tV tx n) k 19 = true := fun q => by
        have a := (gOw_K q).2
        have b := (gOw_K h.2.2).2
        omega
      unfold mGo
      dsimp only
      rw [if_neg hk1, if_neg n1, if_neg n2, if_neg (fun q => h.2.1 q.2.1), if_neg (fun q => h.2.1 q.2), if_neg (fun q => h19 q.2), if_pos ⟨h.1, h.2.2⟩]
    · intro h
      unfold mGo
      dsimp only
      rw [if_neg hk1, if_neg n1, if_neg n2, if_neg (fun q => (h q.1).1 q.2.1), if_neg (fun q => (h q.1).1 q.2), if_neg (fun q => by have := (h q.1).2.1; rw [q.2] at this; exact Bool.noConfusion this), if_neg (fun q => by have := (h q.1).2.2; rw [q.2] at this; exact Bool.noConfusion this)]
      cases R with
      | nil => rfl
      | cons G R' => rfl
  have mg : ∀ z, mGo (tK tx n) (tV tx n) (tS tx n) (true, k, o, M, (kd, ph, bg, pr, pd) :: R) (kd, ph, bg, pr, pd) R = z → oEg tx n i c0 B CS0 CV0 z pa ba (if pH R.length < 2 then
      (if mX12_isSign (43 : Int32) sg v = true then mX12_goesOn_87 (nI n) sg se v w (nI (c0 + M.length)) (nI i) (nI (R.length + 1)) (nI o) (nI (oC R + pd.length)) tp (rput CS0 (1600 * i + c0) (oSo M)) (rput CV0 (1600 * i + c0) (oVa M)) fr pH be ba op 0 oP
      else if mX12_isSign (45 : Int32) sg v = true then mX12_goesOn_87 (nI n) sg se v w (nI (c0 + M.length)) (nI i) (nI (R.length + 1)) (nI o) (nI (oC R + pd.length)) tp (rput CS0 (1600 * i + c0) (oSo M)) (rput CV0 (1600 * i + c0) (oVa M)) fr pH be ba op 0 oP
      else if mX12_isSign (42 : Int32) sg v = true then mX12_goesOn_87 (nI n) sg se v w (nI (c0 + M.length)) (nI i) (nI (R.length + 1)) (nI o) (nI (oC R + pd.length)) tp (rput CS0 (1600 * i + c0) (oSo M)) (rput CV0 (1600 * i + c0) (oVa M)) fr pH be ba op 0 oP
      else if mX12_isSign (47 : Int32) sg v = true then mX12_goesOn_87 (nI n) sg se v w (nI (c0 + M.length)) (nI i) (nI (R.length + 1)) (nI o) (nI (oC R + pd.length)) tp (rput CS0 (1600 * i + c0) (oSo M)) (rput CV0 (1600 * i + c0) (oVa M)) fr pH be ba op 0 oP
      else if mX12_isSign (37 : Int32) sg v = true then mX12_goesOn_87 (nI n) sg se v w (nI (c0 + M.length)) (nI i) (nI (R.length + 1)) (nI o) (nI (oC R + pd.length)) tp (rput CS0 (1600 * i + c0) (oSo M)) (rput CV0 (1600 * i + c0) (oVa M)) fr pH be ba op 0 oP
      else mX12_goesOn_188 (nI n) sg sa se v w lx (nI (c0 + M.length)) (nI i) (nI (R.length + 1)) (nI o) (nI (oC R + pd.length)) true tp (rput CS0 (1600 * i + c0) (oSo M)) (rput CV0 (1600 * i + c0) (oVa M)) fr pH be pa ba op 0 oP) else mX12_goesOn_188 (nI n) sg sa se v w lx (nI (c0 + M.length)) (nI i) (nI (R.length + 1)) (nI o) (nI (oC R + pd.length)) true tp (rput CS0 (1600 * i + c0) (oSo M)) (rput CV0 (1600 * i + c0) (oVa M)) fr pH be pa ba op 0 oP) := by
    intro z hz
    by_cases h2 : ph < 2
    · rw [if_pos (show pH R.length < 2 by rw [show pH R.length = nI ph from a2]; exact nI_lt (b := 2) h2 (by decide)), show mX12_isSign (43 : Int32) sg v = _ from ws 43 (by decide), show mX12_isSign (45 : Int32) sg v = _ from ws 45 (by decide), show mX12_isSign (42 : Int32) sg v = _ from ws 42 (by decide), show mX12_isSign (47 : Int32) sg v = _ from ws 47 (by decide), show mX12_isSign (37 : Int32) sg v = _ from ws 37 (by decide)]
      by_cases h5 : tK tx n k = 5
      · have wk := wk_of h5
        rw [sg_of h5, sg_of h5, sg_of h5, sg_of h5, sg_of h5]
        simp only [decide_eq_true_eq]
        have e87 : mX12_goesOn_87 (nI n) sg se v w (nI (c0 + M.length)) (nI i) (nI (R.length + 1)) (nI o) (nI (oC R + pd.length)) tp (rput CS0 (1600 * i + c0) (oSo M)) (rput CV0 (1600 * i + c0) (oVa M)) fr pH be ba op 0 oP = mX12_goesOn_112 (nI n) sg se v w (nI (c0 + M.length)) (nI i) (nI (R.length + 1)) (nI o) (nI (oC R + pd.length)) tp (rput CS0 (1600 * i + c0) (oSo M)) (rput CV0 (1600 * i + c0) (oVa M)) fr pH be ba op (if tV tx n k = 43 then 5 else if tV tx n k = 45 then 5 else 6) 0 oP := by
          unfold mX12_goesOn_87
          rw [show mX12_isSign (43 : Int32) sg v = _ from ws 43 (by decide), show mX12_isSign (45 : Int32) sg v = _ from ws 45 (by decide), sg_of h5, sg_of h5]
          simp only [decide_eq_true_eq]
          by_cases v43 : tV tx n k = 43
          · rw [if_pos v43, if_pos v43]; rfl
          · rw [if_neg v43, if_neg v43]
            by_cases v45 : tV tx n k = 45
            · rw [if_pos v45, if_pos v45]; rfl
            · rw [if_neg v45, if_neg v45]
        rw [e87]
        by_cases v43 : tV tx n k = 43
        · rw [if_pos v43]
          have go := r_112 (CS0 := CS0) (CV0 := CV0) hn ht hb hB hB2 hi hG hI hA hk1 5 31 (by omega) h5
          have e : z = .inl (false, k + 1, (mJn 5 pd o M).2.1, (mJn 5 pd o M).2.2, (kd, ph, bg, pr, 31 :: (mJn 5 pd o M).1) :: R) := by
            rw [← hz]
            unfold mGo
            dsimp only
            rw [if_neg hk1, wk.1, wk.2.1]
            simp [v43, h2]
          refine oEg_cg e ?_
          simp only [v43]
          exact go
        rw [if_neg v43]
        by_cases v45 : tV tx n k = 45
        · rw [if_pos v45]
          have go := r_112 (CS0 := CS0) (CV0 := CV0) hn ht hb hB hB2 hi hG hI hA hk1 5 32 (by omega) h5
          have e : z = .inl (false, k + 1, (mJn 5 pd o M).2.1, (mJn 5 pd o M).2.2, (kd, ph, bg, pr, 32 :: (mJn 5 pd o M).1) :: R) := by
            rw [← hz]
            unfold mGo
            dsimp only
            rw [if_neg hk1, wk.1, wk.2.1]
            simp [v45, h2]
          refine oEg_cg e ?_
          simp only [v45]
          exact go
        rw [if_neg v45]
        by_cases v42 : tV tx n k = 42
        · rw [if_pos v42]
          have go := r_112 (CS0 := CS0) (CV0 := CV0) hn ht hb hB hB2 hi hG hI hA hk1 6 33 (by omega) h5
          have e : z = .inl (false, k + 1, (mJn 6 pd o M).2.1, (mJn 6 pd o M).2.2, (kd, ph, bg, pr, 33 :: (mJn 6 pd o M).1) :: R) := by
            rw [← hz]
            unfold mGo
            dsimp only
            rw [if_neg hk1, wk.1, wk.2.1]
            simp [v42, h2]
          refine oEg_cg e ?_
          simp only [v42]
          exact go
        rw [if_neg v42]
        by_cases v47 : tV tx n k = 47
        · rw [if_pos v47]
          have go := r_112 (CS0 := CS0) (CV0 := CV0) hn ht hb hB hB2 hi hG hI hA hk1 6 34 (by omega) h5
          have e : z = .inl (false, k + 1, (mJn 6 pd o M).2.1, (mJn 6 pd o M).2.2, (kd, ph, bg, pr, 34 :: (mJn 6 pd o M).1) :: R) := by
            rw [← hz]
            unfold mGo
            dsimp only
            rw [if_neg hk1, wk.1, wk.2.1]
            simp [v47, h2]
          refine oEg_cg e ?_
          simp only [v47]
          exact go
        rw [if_neg v47]
        by_cases v37 : tV tx n k = 37
        · rw [if_pos v37]
          have go := r_112 (CS0 := CS0) (CV0 := CV0) hn ht hb hB hB2 hi hG hI hA hk1 6 35 (by omega) h5
          have e : z = .inl (false, k + 1, (mJn 6 pd o M).2.1, (mJn 6 pd o M).2.2, (kd, ph, bg, pr, 35 :: (mJn 6 pd o M).1) :: R) := by
            rw [← hz]
            unfold mGo
            dsimp only
            rw [if_neg hk1, wk.1, wk.2.1]
            simp [v37, h2]
          refine oEg_cg e ?_
          simp only [v37]
          exact go
        rw [if_neg v37]
        refine oEg_cg hz.symm (q188 ?_ ?_)
        · rw [wk.1]; simp [v43, v45]
        · rw [wk.2.1]; simp [v42, v47, v37]
      · rw [gSg_no h5, gSg_no h5, gSg_no h5, gSg_no h5, gSg_no h5]
        simp only [Bool.false_eq_true, if_false]
        exact oEg_cg hz.symm (q188 (fun q => q.2 (wk_no h5).1) (fun q => q.2 (wk_no h5).2.1))
    · rw [if_neg (show ¬ pH R.length < 2 by rw [show pH R.length = nI ph from a2]; exact nI_nlt (b := 2) (by omega) (by omega))]
      exact oEg_cg hz.symm (q188 (fun q => h2 q.1) (fun q => h2 q.1))
  exact mg _ rfl
end OQ
