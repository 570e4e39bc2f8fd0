section OQ
variable {tx : Nat → Nat} {n : Nat} {tp : Nat → Int32} {i lw c0 B k o : Nat} {CS0 CV0 : Nat → Int32} {sg sa se v : Int32} {w : Int64} {lx P : Int32} {M : List (Nat × Nat)} {kd ph : Nat} {bg : Bool} {pr : Nat} {pd : List Nat} {R : List Fr} {fr pH be pa ba op : Nat → Int32}
theorem s_opens_bad (kI F sz sg sa se v : Int32) (w : Int64) (P lx d oI q : Int32) (tp fr pH be ba : Nat → Int32) (hF : 0 < F) : mX12_opens kI sz sg sa se v w F P lx d oI q tp fr pH be ba = some (sg, sa, se, v, w, F, P, lx, d, oI, fr, pH, be, ba) := by
  unfold mX12_opens
  refine ite_ex (Q := fun z => z = _) ?_ ?_
  · unfold mX12_blame
    rw [if_pos hF, xlet_eq, xu_q]
    unfold mX12_opens_18
    rw [if_pos hF]
  · unfold mX12_opens_18
    rw [if_pos hF]
/-- a call's bracket, the sign k' being that behind its word -/
theorem r_289b (hI : oI c0 B (false, k, o, M, (kd, ph, bg, pr, pd) :: R)) (hA : oA fr pH be pa ba op ((kd, ph, bg, pr, pd) :: R)) (hB2 : B ≤ 1600) (x3 s0 : Int32) (q : Nat) (hP : P = nI q) : oEo tx n i c0 B CS0 CV0 (.inr (nBad 1 q)) (mX12_operand_289 (nI n) (nI (c0 + M.length)) (nI (R.length + 1)) (nI o) (nI (oC R + pd.length)) tp (rput CS0 (1600 * i + c0) (oSo M)) (rput CV0 (1600 * i + c0) (oVa M)) fr pH be pa ba op x3 s0 sg sa se v w 1 P lx) := by
  have nu := oI_num hI
  unfold mX12_operand_289
  rw [s_opens_bad _ _ _ _ _ _ _ _ _ _ _ _ _ _ _ _ _ _ (by decide), obind]
  simp only [xu_q]
  rw [if_neg (show ¬ (1 : Int32) = 0 by decide)]
  exact oEo_bad (M := M) (by decide) (by decide) rfl hP rfl rfl (by omega)
theorem r_289 (hn : n ≤ 1600) (ht : ∀ i, i < n → tp i = nI (tx i)) (hb : ∀ i, i < n → tx i < 256) {k' : Nat} (hG : oG tx n k' sg sa se v w lx) (hI : oI c0 B (false, k, o, M, (kd, ph, bg, pr, pd) :: R)) (hA : oA fr pH be pa ba op ((kd, ph, bg, pr, pd) :: R)) (hB2 : B ≤ 1600) (kd' pr' : Nat) (hkd : kd' = 3 ∨ kd' = 6) (hpr : pr' < 100) (hkk : k < k' + 1) (hk' : k' + 1 ≤ B) : oEo tx n i c0 B CS0 CV0 (if o = 7 then .inr (nBad 5 (tS tx n k')) else .inl (false, k' + 1, o + 1, M, (kd', 0, true, pr', []) :: (kd, ph, false, pr, pd) :: R)) (mX12_operand_289 (nI n) (nI (c0 + M.length)) (nI (R.length + 1)) (nI o) (nI (oC R + pd.length)) tp (rput CS0 (1600 * i + c0) (oSo M)) (rput CV0 (1600 * i + c0) (oVa M)) fr pH be pa ba op (nI pr') (nI kd') sg sa se v w 0 oP lx) := by
  have nu := oI_num hI
  have so := s_opens (P := oP) (fr := fr) (pH := pH) (be := (upd be R.length 0)) (ba := ba) hn ht hb hG (nI kd') (R.length + 1) (oC R + pd.length) (by omega) (show o ≤ 7 by omega)
  unfold mX12_operand_289
  have e1 : (nI (R.length + 1) - 1).toNatClampNeg = R.length := by rw [(dpred R.length (by omega)).1]; exact (dpred R.length (by omega)).2.2
  rw [e1]
  by_cases o7 : o = 7
  · rw [so.1 o7, obind]
    simp only [xu_q]
    rw [if_neg (show ¬ nI 5 = 0 by decide), if_pos o7]
    exact oEo_bad (M := M) (by decide) (by decide) rfl (oG_at hG) rfl rfl (by omega)
  · obtain ⟨a, b, c, e, f, g, hG2, h2⟩ := so.2 (by omega)
    rw [h2, obind]
    simp only [xu_q]
    rw [if_pos True.intro, if_neg o7, nI_pred, if_pos (zb _ _ (by omega) (by decide)), zc _ (by omega)]
    refine ⟨false, a, b, c, e, f, 0, oP, g, (nI (c0 + M.length)), nI (R.length + 1 + 1), nI (o + 1), (nI (oC R + pd.length)), (rput CS0 (1600 * i + c0) (oSo M)), (rput CV0 (1600 * i + c0) (oVa M)), upd fr (R.length + 1) (nI kd'), upd pH (R.length + 1) 0, upd (upd be R.length 0) (R.length + 1) 1, upd pa (R.length + 1) (nI pr'), upd ba (R.length + 1) (nI (oC R + pd.length)), op, rfl, ⟨rfl, rfl⟩, rfl, oI_open hI kd' pr' (k' + 1) (by omega) hk' (by omega) (by omega) hpr, hG2, rfl, rfl, rfl, ?_, rfl, rfl, oA_open hA kd' pr' _ (fun j hj => pk_un (by omega)) (fun _ => pk_us)⟩
    show (nI (oC R + pd.length)) = nI (0 + (pd.length + oC R))
    rw [Nat.zero_add, Nat.add_comm]
theorem r_249 (hn : n ≤ 1600) (ht : ∀ i, i < n → tp i = nI (tx i)) (hb : ∀ i, i < n → tx i < 256) (hB : mOk (tK tx n) B) (hB2 : B ≤ 1600) (hi : i < 2) (hG : oG tx n k sg sa se v w lx) (hI : oI c0 B (false, k, o, M, (kd, ph, bg, pr, pd) :: R)) (hA : oA fr pH be pa ba op ((kd, ph, bg, pr, pd) :: R)) (hk1 : tK tx n k ≠ 1) (hlw : lw < 3) (hkB : k < B) (kd' pr' : Nat) (hkd : (pr' = 44 ∧ kd' = 6) ∨ ((pr' = 36 ∨ pr' = 37) ∧ kd' = 3)) : oEo tx n i c0 B CS0 CV0 (if gSg (tK tx n) (tV tx n) (k + 1) 40 = true then (if o = 7 then .inr (nBad 5 (tS tx n (k + 1))) else .inl (false, k + 2, o + 1, M, (kd', 0, true, pr', []) :: (kd, ph, false, pr, pd) :: R)) else .inr (nBad 1 (gWh (tK tx n) (tV tx n) (tS tx n) (k + 1)))) (mX12_operand_249 (nI n) se v w (nI (c0 + M.length)) (nI (R.length + 1)) (nI o) (nI (oC R + pd.length)) tp (rput CS0 (1600 * i + c0) (oSo M)) (rput CV0 (1600 * i + c0) (oVa M)) fr pH be pa ba op (nI pr') 0 oP) := by
  obtain ⟨a, b, c, e, f, g, h1, hG2⟩ := oG_next tx n tp hn ht hb hG
  have any : ∀ (F P2 : Int32), (F = 1 → ∀ q, P2 = nI q → oEo tx n i c0 B CS0 CV0 (.inr (nBad 1 q)) (mX12_operand_276 (nI n) (nI (c0 + M.length)) (nI (R.length + 1)) (nI o) (nI (oC R + pd.length)) tp (rput CS0 (1600 * i + c0) (oSo M)) (rput CV0 (1600 * i + c0) (oVa M)) fr pH be pa ba op (nI pr') a b c e f F P2 g)) ∧ (F = 0 → P2 = oP → k + 2 ≤ B → oEo tx n i c0 B CS0 CV0 (if o = 7 then .inr (nBad 5 (tS tx n (k + 1))) else .inl (false, k + 2, o + 1, M, (kd', 0, true, pr', []) :: (kd, ph, false, pr, pd) :: R)) (mX12_operand_276 (nI n) (nI (c0 + M.length)) (nI (R.length + 1)) (nI o) (nI (oC R + pd.length)) tp (rput CS0 (1600 * i + c0) (oSo M)) (rput CV0 (1600 * i + c0) (oVa M)) fr pH be pa ba op (nI pr') a b c e f F P2 g)) := by
    intro F P2
    unfold mX12_operand_276
    refine ⟨fun hF q hq => ?_, fun hF hP2 h2 => ?_⟩
    · rw [hF]
      exact ite_ex _ (r_289b hI hA hB2 _ _ q hq) (r_289b hI hA hB2 _ _ q hq)
    · rw [hF, hP2]
      rcases hkd with ⟨q1, q2⟩ | ⟨q1, q2⟩
      · rw [if_pos (show nI pr' = 44 by rw [q1]; rfl), show (6 : Int32) = nI kd' by rw [q2]; rfl]
        exact r_289 hn ht hb hG2 hI hA hB2 kd' pr' (by omega) (by omega) (by omega) h2
      · rw [if_neg (show ¬ nI pr' = 44 from fun z => by have := (nI_eq (b := 44) (by omega) (by decide)).mp z; omega), show (3 : Int32) = nI kd' by rw [q2]; rfl]
        exact r_289 hn ht hb hG2 hI hA hB2 kd' pr' (by omega) (by omega) (by omega) h2
  unfold mX12_operand_249
  rw [h1, obind]
  simp only [xu_q]
  rw [oG_lex tx n hn hG2]
  by_cases k1 : tK tx n (k + 1) = 1
  · rw [if_pos k1, gSg_no (by omega), if_neg (by decide), xlet_eq, xu_q]
    unfold gWh
    rw [if_pos k1]
    refine ite_ex _ ((any _ _).1 rfl _ rfl) ?_
    unfold mX12_blame
    rw [if_pos (by decide), xlet_eq, xu_q]
    exact (any _ _).1 rfl _ rfl
  · rw [if_neg k1, xlet_eq, xu_q]
    have w40 : mX12_isSign (40 : Int32) a e = gSg (tK tx n) (tV tx n) (k + 1) 40 := oG_sign tx n hb hG2 k1 (c := 40) (by decide)
    rw [w40]
    by_cases s40 : gSg (tK tx n) (tV tx n) (k + 1) 40 = true
    · rw [if_pos s40, if_pos s40]
      exact (any _ _).2 rfl rfl (by have := hB (k + 1) (by omega) (by have := (gSg_K s40).1; omega); omega)
    · rw [if_neg s40, if_neg s40, blame_0, xlet_eq, xu_q]
      unfold gWh
      rw [if_neg k1]
      exact (any _ _).1 rfl _ (oG_at hG2)
theorem r_open1 (hn : n ≤ 1600) (ht : ∀ i, i < n → tp i = nI (tx i)) (hb : ∀ i, i < n → tx i < 256) (hB : mOk (tK tx n) B) (hB2 : B ≤ 1600) (hi : i < 2) (hG : oG tx n k sg sa se v w lx) (hI : oI c0 B (false, k, o, M, (kd, ph, bg, pr, pd) :: R)) (hA : oA fr pH be pa ba op ((kd, ph, bg, pr, pd) :: R)) (hk1 : tK tx n k ≠ 1) (hlw : lw < 3) (hkB : k < B) (kd' : Nat) (h6 : kd' ≤ 6) (hno : ¬ (kd' = 3 ∨ kd' = 4 ∨ kd' = 6)) : oEo tx n i c0 B CS0 CV0 (if o = 7 then .inr (nBad 5 (tS tx n k)) else .inl (false, k + 1, o + 1, M, (kd', 0, true, 0, []) :: (kd, ph, false, pr, pd) :: R)) ((mX12_opens (nI kd') (nI n) sg sa se v w 0 oP lx (nI (R.length + 1)) (nI o) (nI (oC R + pd.length)) tp fr pH (upd be (nI (R.length + 1) - 1).toNatClampNeg 0) ba).bind (xu fun q21_1 => xu fun q21_2 => xu fun q21_3 => xu fun q21_4 => xu fun q21_5 => xu fun q21_6 => xu fun q21_7 => xu fun q21_8 => xu fun q21_9 => xu fun q21_10 => xu fun q21_11 => xu fun q21_12 => xu fun q21_13 => fun q21_14 =>
      some (false, q21_1, q21_2, q21_3, q21_4, q21_5, q21_6, q21_7, q21_8, (nI (c0 + M.length)), q21_9, q21_10, (nI (oC R + pd.length)), (rput CS0 (1600 * i + c0) (oSo M)), (rput CV0 (1600 * i + c0) (oVa M)), q21_11, q21_12, q21_13, pa, q21_14, op))) := by
  have nu := oI_num hI
  have e1 : (nI (R.length + 1) - 1).toNatClampNeg = R.length := by rw [(dpred R.length (by omega)).1]; exact (dpred R.length (by omega)).2.2
  rw [e1]
  have so := s_opens (P := oP) (fr := fr) (pH := pH) (be := (upd be R.length 0)) (ba := ba) hn ht hb hG (nI kd') (R.length + 1) (oC R + pd.length) (by omega) (show o ≤ 7 by omega)
  by_cases o7 : o = 7
  · rw [so.1 o7, obind]
    simp only [xu_q]
    rw [if_pos o7]
    exact oEo_bad (M := M) (by decide) (by decide) rfl (oG_at hG) rfl rfl (by omega)
  · obtain ⟨a, b, c, e, f, g, hG2, h2⟩ := so.2 (by omega)
    rw [h2, obind]
    simp only [xu_q]
    rw [if_neg o7]
    refine ⟨false, a, b, c, e, f, 0, oP, g, (nI (c0 + M.length)), nI (R.length + 1 + 1), nI (o + 1), (nI (oC R + pd.length)), (rput CS0 (1600 * i + c0) (oSo M)), (rput CV0 (1600 * i + c0) (oVa M)), upd fr (R.length + 1) (nI kd'), upd pH (R.length + 1) 0, upd (upd be R.length 0) (R.length + 1) 1, pa, upd ba (R.length + 1) (nI (oC R + pd.length)), op, rfl, ⟨rfl, rfl⟩, rfl, oI_open hI kd' 0 (k + 1) (by omega) hkB (by omega) h6 (by decide), hG2, rfl, rfl, rfl, ?_, rfl, rfl, oA_open hA kd' 0 pa (fun j hj => rfl) (fun q => absurd q hno)⟩
    show (nI (oC R + pd.length)) = nI (0 + (pd.length + oC R))
    rw [Nat.zero_add, Nat.add_comm]
theorem r_171 (hn : n ≤ 1600) (ht : ∀ i, i < n → tp i = nI (tx i)) (hb : ∀ i, i < n → tx i < 256) (hB : mOk (tK tx n) B) (hB2 : B ≤ 1600) (hi : i < 2) (hG : oG tx n k sg sa se v w lx) (hI : oI c0 B (false, k, o, M, (kd, ph, bg, pr, pd) :: R)) (hA : oA fr pH be pa ba op ((kd, ph, bg, pr, pd) :: R)) (hk1 : tK tx n k ≠ 1) (hlw : lw < 3) : oEo tx n i c0 B CS0 CV0 (if gSg (tK tx n) (tV tx n) k 40 = true then (if o = 7 then .inr (nBad 5 (tS tx n k)) else .inl (false, k + 1, o + 1, M, (2, 0, true, 0, []) :: (kd, ph, false, pr, pd) :: R))
  else if gOw (tK tx n) (tV tx n) k 22 = true ∨ gOw (tK tx n) (tV tx n) k 23 = true ∨ gOw (tK tx n) (tV tx n) k 17 = true then
    (if gSg (tK tx n) (tV tx n) (k + 1) 40 = true then (if o = 7 then .inr (nBad 5 (tS tx n (k + 1))) else .inl (false, k + 2, o + 1, M, (if gOw (tK tx n) (tV tx n) k 17 = true then 6 else 3, 0, true, if gOw (tK tx n) (tV tx n) k 17 = true then 44 else if gOw (tK tx n) (tV tx n) k 22 = true then 36 else 37, []) :: (kd, ph, false, pr, pd) :: R)) else .inr (nBad 1 (gWh (tK tx n) (tV tx n) (tS tx n) (k + 1))))
  else mOs (tK tx n) (tV tx n) (tS tx n) lw k o M (kd, ph, bg, pr, pd) R) (mX12_operand_171 (nI n) sg sa se v w lx (nI (c0 + M.length)) (nI i) (nI lw) (nI (R.length + 1)) (nI o) (nI (oC R + pd.length)) tp (rput CS0 (1600 * i + c0) (oSo M)) (rput CV0 (1600 * i + c0) (oVa M)) fr pH be pa ba op 0 oP) := by
  have nu := oI_num hI
  have srt := r_sort (CS0 := CS0) (CV0 := CV0) hn ht hb hB hB2 hi hG hI hA hk1 hlw
  have ws : ∀ c, c < 1000 → mX12_isSign (nI c) sg v = gSg (tK tx n) (tV tx n) k c := fun c hc => oG_sign tx n hb hG hk1 hc
  have w22 : mX12_isWord (7170414 : Int64) sg w = gOw (tK tx n) (tV tx n) k 22 := oG_word tx n hG hk1 (x := 22) (by decide)
  have w23 : mX12_isWord (7168376 : Int64) sg w = gOw (tK tx n) (tV tx n) k 23 := oG_word tx n hG hk1 (x := 23) (by decide)
  have w17 : mX12_isWord (26982 : Int64) sg w = gOw (tK tx n) (tV tx n) k 17 := oG_word tx n hG hk1 (x := 17) (by decide)
  unfold mX12_operand_171
  rw [show mX12_isSign (40 : Int32) sg v = gSg (tK tx n) (tV tx n) k 40 from ws 40 (by decide), w22, w23, w17]
  by_cases s40 : gSg (tK tx n) (tV tx n) k 40 = true
  · rw [if_pos s40, if_pos s40]
    exact r_open1 hn ht hb hB hB2 hi hG hI hA hk1 hlw (hB k nu.2.2.2.1 (by have := (gSg_K s40).1; omega)) 2 (by decide) (by decide)
  rw [if_neg s40, if_neg s40]
  have call : ∀ x, gOw (tK tx n) (tV tx n) k x = true → k < B ∧ ∀ y, gOw (tK tx n) (tV tx n) k y = decide (x = y) := fun x hx => by
    have q := gOw_K hx
    refine ⟨hB k nu.2.2.2.1 (by omega), fun y => ?_⟩
    rw [ow_of q.1, q.2]
  by_cases h22 : gOw (tK tx n) (tV tx n) k 22 = true
  · have e217 : mX12_operand_217 (nI n) sg se v w (nI (c0 + M.length)) (nI (R.length + 1)) (nI o) (nI (oC R + pd.length)) tp (rput CS0 (1600 * i + c0) (oSo M)) (rput CV0 (1600 * i + c0) (oVa M)) fr pH be pa ba op 0 oP = mX12_operand_249 (nI n) se v w (nI (c0 + M.length)) (nI (R.length + 1)) (nI o) (nI (oC R + pd.length)) tp (rput CS0 (1600 * i + c0) (oSo M)) (rput CV0 (1600 * i + c0) (oVa M)) fr pH be pa ba op 36 0 oP := by
      unfold mX12_operand_217
      rw [w22, if_pos h22]
    rw [if_pos h22, if_pos (Or.inl h22), e217, (call 22 h22).2 17, if_neg (show ¬ decide (22 = 17) = true by decide), if_neg (show ¬ decide (22 = 17) = true by decide), if_pos h22]
    exact r_249 (CS0 := CS0) (CV0 := CV0) hn ht hb hB hB2 hi hG hI hA hk1 hlw (call 22 h22).1 3 36 (by decide)
  rw [if_neg h22, if_neg h22]
  by_cases h23 : gOw (tK tx n) (tV tx n) k 23 = true
  · have e217 : mX12_operand_217 (nI n) sg se v w (nI (c0 + M.length)) (nI (R.length + 1)) (nI o) (nI (oC R + pd.length)) tp (rput CS0 (1600 * i + c0) (oSo M)) (rput CV0 (1600 * i + c0) (oVa M)) fr pH be pa ba op 0 oP = mX12_operand_249 (nI n) se v w (nI (c0 + M.length)) (nI (R.length + 1)) (nI o) (nI (oC R + pd.length)) tp (rput CS0 (1600 * i + c0) (oSo M)) (rput CV0 (1600 * i + c0) (oVa M)) fr pH be pa ba op 37 0 oP := by
      unfold mX12_operand_217
      rw [w22, if_neg h22, w23, if_pos h23]
    rw [if_pos h23, if_pos (Or.inr (Or.inl h23)), e217, (call 23 h23).2 17, if_neg (show ¬ decide (23 = 17) = true by decide), if_neg (show ¬ decide (23 = 17) = true by decide)]
    exact r_249 (CS0 := CS0) (CV0 := CV0) hn ht hb hB hB2 hi hG hI hA hk1 hlw (call 23 h23).1 3 37 (by decide)
  rw [if_neg h23]
  by_cases h17 : gOw (tK tx n) (tV tx n) k 17 = true
  · have e217 : mX12_operand_217 (nI n) sg se v w (nI (c0 + M.length)) (nI (R.length + 1)) (nI o) (nI (oC R + pd.length)) tp (rput CS0 (1600 * i + c0) (oSo M)) (rput CV0 (1600 * i + c0) (oVa M)) fr pH be pa ba op 0 oP = mX12_operand_249 (nI n) se v w (nI (c0 + M.length)) (nI (R.length + 1)) (nI o) (nI (oC R + pd.length)) tp (rput CS0 (1600 * i + c0) (oSo M)) (rput CV0 (1600 * i + c0) (oVa M)) fr pH be pa ba op 44 0 oP := by
      unfold mX12_operand_217
      rw [w22, if_neg h22, w23, if_neg h23]
    rw [if_pos h17, if_pos (Or.inr (Or.inr h17)), e217, if_pos h17, if_pos h17]
    exact r_249 (CS0 := CS0) (CV0 := CV0) hn ht hb hB hB2 hi hG hI hA hk1 hlw (call 17 h17).1 6 44 (by decide)
  rw [if_neg (show ¬ (gOw (tK tx n) (tV tx n) k 22 = true ∨ gOw (tK tx n) (tV tx n) k 23 = true ∨ gOw (tK tx n) (tV tx n) k 17 = true) from fun q => by rcases q with q | q | q <;> contradiction), if_neg h17]
  exact srt
end OQ
