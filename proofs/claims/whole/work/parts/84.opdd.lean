section OQ
variable {tx : Nat → Nat} {n : Nat} {tp : Nat → Int32} {i lw c0 B k o : Nat} {CS0 CV0 : Nat → Int32} {sg sa se v : Int32} {w : Int64} {lx : Int32} {M : List (Nat × Nat)} {kd ph : Nat} {bg : Bool} {pr : Nat} {pd : List Nat} {R : List Fr} {fr pH be pa ba op : Nat → Int32}
theorem r_all (hn : n ≤ 1600) (ht : ∀ i, i < n → tp i = nI (tx i)) (hb : ∀ i, i < n → tx i < 256) (hB : mOk (tK tx n) B) (hB2 : B ≤ 1600) (hi : i < 2) (hG : oG tx n k sg sa se v w lx) (hI : oI c0 B (false, k, o, M, (kd, ph, bg, pr, pd) :: R)) (hA : oA fr pH be pa ba op ((kd, ph, bg, pr, pd) :: R)) (hk1 : tK tx n k ≠ 1) (hlw : lw < 3) (h21 : gOw (tK tx n) (tV tx n) k 21 = true) : oEo tx n i c0 B CS0 CV0 (.inl (true, k + 1, o, M ++ [(30, 0)], (kd, 2, false, pr, pd) :: R)) ((mX12_add (30 : Int32) (0 : Int32) (nI (c0 + M.length)) (nI i) (rput CS0 (1600 * i + c0) (oSo M)) (rput CV0 (1600 * i + c0) (oVa M))).bind (xu fun q18_1 => xu fun q18_2 => fun q18_3 =>
        (mX12_ahead (nI n) se v w tp).bind (xu fun q19_1 => xu fun q19_2 => xu fun q19_3 => xu fun q19_4 => xu fun q19_5 => fun q19_6 =>
          some (true, q19_1, q19_2, q19_3, q19_4, q19_5, 0, oP, q19_6, q18_1, (nI (R.length + 1)), nI o, (nI (oC R + pd.length)), q18_2, q18_3, fr, upd pH (nI (R.length + 1) - 1).toNatClampNeg 2, upd be (nI (R.length + 1) - 1).toNatClampNeg 0, pa, ba, op)))) := by
  have nu := oI_num hI
  have e1 : (nI (R.length + 1) - 1).toNatClampNeg = R.length := by rw [(dpred R.length (by omega)).1]; exact (dpred R.length (by omega)).2.2
  have hkB := hB k nu.2.2.2.1 (by have := (gOw_K h21).1; omega)
  obtain ⟨a, b, c, e, f, g, h1, h3⟩ := oG_next tx n tp hn ht hb hG
  rw [e1, show (30 : Int32) = nI 30 from rfl, show (0 : Int32) = nI 0 from rfl, s_codeAdd i _ 30 0 hi (by omega), obind, xu_q, xu_q, h1, obind]
  simp only [xu_q]
  refine ⟨true, a, b, c, e, f, 0, oP, g, nI (c0 + (M ++ [(30, 0)]).length), (nI (R.length + 1)), nI o, (nI (oC R + pd.length)), rput CS0 (1600 * i + c0) (oSo (M ++ [(30, 0)])), rput CV0 (1600 * i + c0) (oVa (M ++ [(30, 0)])), fr, upd pH R.length (nI 2), upd be R.length 0, pa, ba, op, ?_, ⟨rfl, rfl⟩, rfl, oI_val hI (30, 0) hkB 2 (Or.inr rfl), h3, rfl, rfl, rfl, ?_, rfl, rfl, oA_top hA 2⟩
  · rw [rput_S M 30 0, rput_V M 30 0, List.length_append, List.length_cons, List.length_nil, Nat.add_assoc]
    rfl
  · show (nI (oC R + pd.length)) = nI (pd.length + oC R)
    rw [Nat.add_comm]
theorem oI_not (h : oI c0 B (false, k, o, M, (kd, ph, bg, pr, pd) :: R)) (hf : mTs kd = true) (hb : bg = true) (hk : k < B) (ho : o < 7) : oI c0 B (false, k + 1, o + 1, M, (kd, ph, bg, pr, 43 :: pd) :: R) := by
  obtain ⟨h1, h2, h3, h4, h5, h6, h7, h8⟩ := h
  dsimp only at h5 h6 h7 h8
  have r3 := h1.2.2.2.2.1 hf hb
  refine ⟨⟨h1.1, h1.2.1, h1.2.2.1, ?_, fun _ _ y hy => ?_, fun a b y hy => ?_⟩, fun q => absurd q (by show ¬ false = true; decide), h3, h4, ?_, ?_, ?_, ?_⟩
  · refine oS_not h1.2.2.2.1 (fun x hx => ?_) r3
    have := r3 x (List.mem_of_mem_head? hx)
    unfold oQ
    split <;> omega
  · rcases List.mem_cons.mp hy with e | e
    · rw [e]; decide
    · exact r3 y e
  · rcases List.mem_cons.mp hy with e | e
    · rw [e]; decide
    · have := r3 y e; omega
  · show o + 1 + 1 = R.length + 1 + (mCt (43 :: pd) + oN R)
    rw [mCt, if_pos rfl]; omega
  · show o + 1 ≤ 7; omega
  · show k + 1 ≤ B; omega
  · show c0 + M.length + (oC R + (43 :: pd).length) ≤ k + 1
    rw [List.length_cons]; omega
theorem oA_push (hA : oA fr pH be pa ba op ((kd, ph, bg, pr, pd) :: R)) (y : Nat) : oA fr pH be pa ba (upd op (oC R + pd.length) (nI y)) ((kd, ph, bg, pr, y :: pd) :: R) := by
  obtain ⟨a1, a2, a3, a4, a5, a6, a7⟩ := hA
  exact ⟨a1, a2, a3, a4, a5, oW_push y a6, oA_cong (fun j hj => ⟨rfl, rfl, rfl, rfl, rfl⟩) (fun j hj => (pk_un (by omega)).symm) a7⟩
theorem r_79 (hn : n ≤ 1600) (ht : ∀ i, i < n → tp i = nI (tx i)) (hb : ∀ i, i < n → tx i < 256) (hB : mOk (tK tx n) B) (hB2 : B ≤ 1600) (hi : i < 2) (hG : oG tx n k sg sa se v w lx) (hI : oI c0 B (false, k, o, M, (kd, ph, bg, pr, pd) :: R)) (hA : oA fr pH be pa ba op ((kd, ph, bg, pr, pd) :: R)) (hk1 : tK tx n k ≠ 1) (hlw : lw < 3) (h20 : gOw (tK tx n) (tV tx n) k 20 = true) (hf : mTs kd = true) (hg : bg = true) (ho : o < 7) : oEo tx n i c0 B CS0 CV0 (.inl (false, k + 1, o + 1, M, (kd, ph, bg, pr, 43 :: pd) :: R)) (mX12_operand_79 (nI n) sg sa se v w lx (nI (c0 + M.length)) (nI (R.length + 1)) (nI o) (nI (oC R + pd.length)) tp (rput CS0 (1600 * i + c0) (oSo M)) (rput CV0 (1600 * i + c0) (oVa M)) fr pH be pa ba op 0 oP) := by
  have nu := oI_num hI
  have hkB := hB k nu.2.2.2.1 (by have := (gOw_K h20).1; omega)
  have l47 : oC R + pd.length ≤ 47 := nu.2.1
  obtain ⟨a, b, c, e, f, g, h1, h3⟩ := oG_next tx n tp hn ht hb hG
  unfold mX12_operand_79 mX12_holdsBack
  rw [if_neg (by decide), if_pos (zb _ _ (by omega) (by decide)), obind, xu_q, h1, obind]
  simp only [xu_q]
  rw [zc _ (by omega), nI_1, nI_1]
  refine ⟨false, a, b, c, e, f, 0, oP, g, (nI (c0 + M.length)), (nI (R.length + 1)), nI (o + 1), nI (oC R + pd.length + 1), (rput CS0 (1600 * i + c0) (oSo M)), (rput CV0 (1600 * i + c0) (oVa M)), fr, pH, be, pa, ba, upd op (oC R + pd.length) (nI 43), rfl, ⟨rfl, rfl⟩, rfl, oI_not hI hf hg hkB ho, h3, rfl, rfl, rfl, ?_, rfl, rfl, oA_push hA 43⟩
  show nI (oC R + pd.length + 1) = nI (pd.length + 1 + oC R)
  rw [show oC R + pd.length + 1 = pd.length + 1 + oC R by omega]
theorem mOp_eq (K V St : Nat → Nat) (lw k o : Nat) (M : List (Nat × Nat)) (kd ph : Nat) (bg : Bool) (pr : Nat) (pd : List Nat) (R : List Fr) : mOp K V St lw (false, k, o, M, (kd, ph, bg, pr, pd) :: R) (kd, ph, bg, pr, pd) R =
  (if K k = 1 then .inr (nBad 1 (V k))
  else if ((mTs kd && bg) && gOw K V k 20) = true then (if o = 7 then .inr (nBad 5 (St k)) else .inl (false, k + 1, o + 1, M, (kd, ph, bg, pr, 43 :: pd) :: R))
  else if ((mTs kd && bg) && gSg K V k 91) = true then (if o = 7 then .inr (nBad 5 (St k)) else .inl (false, k + 1, o + 1, M, (5, 0, true, 0, []) :: (kd, ph, false, pr, pd) :: R))
  else if ((mTs kd && bg) && gOw K V k 21) = true then .inl (true, k + 1, o, M ++ [(30, 0)], (kd, 2, false, pr, pd) :: R)
  else (if gSg K V k 40 = true then (if o = 7 then .inr (nBad 5 (St k)) else .inl (false, k + 1, o + 1, M, (2, 0, true, 0, []) :: (kd, ph, false, pr, pd) :: R))
  else if gOw K V k 22 = true ∨ gOw K V k 23 = true ∨ gOw K V k 17 = true then
    (if gSg K V (k + 1) 40 = true then (if o = 7 then .inr (nBad 5 (St (k + 1))) else .inl (false, k + 2, o + 1, M, (if gOw K V k 17 = true then 6 else 3, 0, true, if gOw K V k 17 = true then 44 else if gOw K V k 22 = true then 36 else 37, []) :: (kd, ph, false, pr, pd) :: R)) else .inr (nBad 1 (gWh K V St (k + 1))))
  else mOs K V St lw k o M (kd, ph, bg, pr, pd) R)) := by
  unfold mOp mOs
  dsimp only
theorem s_test (x : Nat) (hx : x < 100) : mX12_isTest (nI x) = mTs x := by
  have e : ∀ y, y < 100 → (nI x = nI y ↔ x = y) := fun y hy => nI_eq (by omega) (by omega)
  unfold mX12_isTest mTs
  by_cases h1 : x = 1
  · rw [if_pos (show nI x = 1 from (e 1 (by decide)).mpr h1), decide_eq_true (Or.inl h1)]
  · rw [if_neg (show ¬ nI x = 1 from fun q => h1 ((e 1 (by decide)).mp q))]
    by_cases h5 : x = 5
    · rw [if_pos (show nI x = 5 from (e 5 (by decide)).mpr h5), decide_eq_true (Or.inr (Or.inl h5))]
    · rw [if_neg (show ¬ nI x = 5 from fun q => h5 ((e 5 (by decide)).mp q))]
      by_cases h6 : x = 6
      · rw [if_pos (show nI x = 6 from (e 6 (by decide)).mpr h6), decide_eq_true (Or.inr (Or.inr h6))]
      · rw [if_neg (show ¬ nI x = 6 from fun q => h6 ((e 6 (by decide)).mp q)), decide_eq_false (by omega)]
/-- an operand -/
theorem r_opd (hn : n ≤ 1600) (ht : ∀ i, i < n → tp i = nI (tx i)) (hb : ∀ i, i < n → tx i < 256) (hB : mOk (tK tx n) B) (hB2 : B ≤ 1600) (hi : i < 2) (hG : oG tx n k sg sa se v w lx) (hI : oI c0 B (false, k, o, M, (kd, ph, bg, pr, pd) :: R)) (hA : oA fr pH be pa ba op ((kd, ph, bg, pr, pd) :: R)) (hlw : lw < 3) :
    oEo tx n i c0 B CS0 CV0 (mOp (tK tx n) (tV tx n) (tS tx n) lw (false, k, o, M, (kd, ph, bg, pr, pd) :: R) (kd, ph, bg, pr, pd) R) (mX12_operand (nI n) sg sa se v w 0 oP lx (nI (c0 + M.length)) (nI i) (nI lw) (nI (R.length + 1)) (nI o) (nI (oC R + pd.length)) tp (rput CS0 (1600 * i + c0) (oSo M)) (rput CV0 (1600 * i + c0) (oVa M)) fr pH be pa ba op) := by
  have nu := oI_num hI
  have hkd : kd ≤ 6 := hI.1.1
  obtain ⟨a1, a2, a3, a4, a5, a6, a7⟩ := id hA
  unfold mX12_operand
  rw [oG_lex tx n hn hG]
  by_cases hk1 : tK tx n k = 1
  · rw [mOp_eq, if_pos hk1, if_pos hk1, xlet_eq, xu_q, if_pos (show (0 : Int32) < 1 by decide)]
    exact oEo_bad (M := M) (by decide) (by decide) rfl rfl rfl rfl (by omega)
  rw [if_neg hk1, xlet_eq, xu_q, if_neg (show ¬ (0 : Int32) < 0 by decide), (dpred R.length (by omega)).1, if_pos (dpred R.length (by omega)).2.1, (dpred R.length (by omega)).2.2, a1, a3, s_test kd (by omega)]
  have t171 := r_171 (CS0 := CS0) (CV0 := CV0) hn ht hb hB hB2 hi hG hI hA hk1 hlw
  have s110 : mTs kd = true ∧ bg = true ∨ (mTs kd && bg) = false := by
    cases mTs kd <;> cases bg <;> simp
  have z46 : (mTs kd && bg) = false → oEo tx n i c0 B CS0 CV0 (if gSg (tK tx n) (tV tx n) k 40 = true then (if o = 7 then .inr (nBad 5 (tS tx n k)) else .inl (false, k + 1, o + 1, M, (2, 0, true, 0, []) :: (kd, ph, false, pr, pd) :: R))
  else if gOw (tK tx n) (tV tx n) k 22 = true ∨ gOw (tK tx n) (tV tx n) k 23 = true ∨ gOw (tK tx n) (tV tx n) k 17 = true then
    (if gSg (tK tx n) (tV tx n) (k + 1) 40 = true then (if o = 7 then .inr (nBad 5 (tS tx n (k + 1))) else .inl (false, k + 2, o + 1, M, (if gOw (tK tx n) (tV tx n) k 17 = true then 6 else 3, 0, true, if gOw (tK tx n) (tV tx n) k 17 = true then 44 else if gOw (tK tx n) (tV tx n) k 22 = true then 36 else 37, []) :: (kd, ph, false, pr, pd) :: R)) else .inr (nBad 1 (gWh (tK tx n) (tV tx n) (tS tx n) (k + 1))))
  else mOs (tK tx n) (tV tx n) (tS tx n) lw k o M (kd, ph, bg, pr, pd) R) (mX12_operand_46 (nI n) sg sa se v w lx (nI (c0 + M.length)) (nI i) (nI lw) (nI (R.length + 1)) (nI o) (nI (oC R + pd.length)) tp (rput CS0 (1600 * i + c0) (oSo M)) (rput CV0 (1600 * i + c0) (oVa M)) fr pH be pa ba op (0 : Int32) 0 oP) := fun _ => by
    unfold mX12_operand_46
    rw [if_pos rfl]
    unfold mX12_operand_110
    rw [if_pos rfl]
    unfold mX12_operand_137
    rw [if_pos rfl]
    exact t171
  have w20 : mX12_isWord (7237492 : Int64) sg w = gOw (tK tx n) (tV tx n) k 20 := oG_word tx n hG hk1 (x := 20) (by decide)
  have w21 : mX12_isWord (6384748 : Int64) sg w = gOw (tK tx n) (tV tx n) k 21 := oG_word tx n hG hk1 (x := 21) (by decide)
  have w91 : mX12_isSign (91 : Int32) sg v = gSg (tK tx n) (tV tx n) k 91 := oG_sign tx n hb hG hk1 (c := 91) (by decide)
  rcases s110 with ⟨ht', hg⟩ | hf
  · subst hg
    rw [if_pos ht', if_pos (show (kd, ph, true, pr, pd).2.2.1 = true from rfl), if_neg (show ¬ (1 : Int32) = 0 by decide), mOp_eq, if_neg hk1, ht', Bool.and_true, Bool.true_and, Bool.true_and, Bool.true_and]
    unfold mX12_operand_46
    rw [if_neg (show ¬ (1 : Int32) = 0 by decide), w20]
    by_cases h20 : gOw (tK tx n) (tV tx n) k 20 = true
    · rw [if_pos h20, if_pos h20]
      by_cases o7 : o = 7
      · rw [if_pos o7, if_pos (show nI o = 7 by rw [o7]; rfl), blame_0, xlet_eq, xu_q]
        unfold mX12_operand_79
        rw [if_pos (by decide)]
        exact oEo_bad (M := M) (by decide) (by decide) rfl (oG_at hG) rfl rfl (by omega)
      · rw [if_neg o7, if_neg (show ¬ nI o = 7 from fun z => o7 ((nI_eq (b := 7) (by omega) (by decide)).mp z))]
        exact r_79 hn ht hb hB hB2 hi hG hI hA hk1 hlw h20 ht' rfl (by omega)
    rw [if_neg h20, if_neg h20]
    unfold mX12_operand_110
    rw [if_neg (show ¬ (1 : Int32) = 0 by decide), w91]
    by_cases h91 : gSg (tK tx n) (tV tx n) k 91 = true
    · rw [if_pos h91, if_pos h91]
      exact r_open1 hn ht hb hB hB2 hi hG hI hA hk1 hlw (hB k nu.2.2.2.1 (by have := (gSg_K h91).1; omega)) 5 (by decide) (by decide)
    rw [if_neg h91, if_neg h91]
    unfold mX12_operand_137
    rw [if_neg (show ¬ (1 : Int32) = 0 by decide), w21]
    by_cases h21 : gOw (tK tx n) (tV tx n) k 21 = true
    · rw [if_pos h21, if_pos h21]
      exact r_all hn ht hb hB hB2 hi hG hI hA hk1 hlw h21
    rw [if_neg h21, if_neg h21]
    exact t171
  · have z := z46 hf
    rw [mOp_eq, if_neg hk1, hf, Bool.false_and, Bool.false_and, Bool.false_and, if_neg (show ¬ false = true by decide), if_neg (show ¬ false = true by decide), if_neg (show ¬ false = true by decide)]
    by_cases ht' : mTs kd = true
    · rw [ht', Bool.true_and] at hf
      subst hf
      rw [if_pos ht', if_neg (show ¬ (kd, ph, false, pr, pd).2.2.1 = true from fun q => Bool.noConfusion q), if_pos (show (0 : Int32) = 0 from rfl)]
      unfold mX12_operand_45
      exact z
    · rw [if_neg ht']
      unfold mX12_operand_45
      exact z
end OQ
