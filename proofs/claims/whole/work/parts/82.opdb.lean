section OQ
variable {tx : Nat → Nat} {n : Nat} {tp : Nat → Int32} {i lw c0 B k o : Nat} {CS0 CV0 : Nat → Int32} {sg sa se v : Int32} {w : Int64} {lx : Int32} {M : List (Nat × Nat)} {kd ph : Nat} {bg : Bool} {pr : Nat} {pd : List Nat} {R : List Fr} {fr pH be pa ba op : Nat → Int32}
theorem oG_at {k : Nat} {sg sa se v : Int32} {w : Int64} {lx : Int32} (h : oG tx n k sg sa se v w lx) : sa = nI (tS tx n k) := by
  obtain ⟨_, _, _, e, _⟩ := oG_eq tx n h
  exact e
theorem blame_0 (a b P : Int32) : mX12_blame a b 0 P = (a, b) := by
  unfold mX12_blame; rw [if_neg (by decide)]
theorem dpred (m : Nat) (h : m < 20) : nI (m + 1) - 1 = nI m ∧ xinb (nI m) 20 = true ∧ (nI m).toNatClampNeg = m := ⟨nI_pred m, zb _ _ h (by decide), zc _ (by omega)⟩
theorem r_474 (hn : n ≤ 1600) (ht : ∀ i, i < n → tp i = nI (tx i)) (hb : ∀ i, i < n → tx i < 256) (hB : mOk (tK tx n) B) (hB2 : B ≤ 1600) (hi : i < 2) (hG : oG tx n k sg sa se v w lx) (hI : oI c0 B (false, k, o, M, (kd, ph, bg, pr, pd) :: R)) (hA : oA fr pH be pa ba op ((kd, ph, bg, pr, pd) :: R)) (hk1 : tK tx n k ≠ 1) (s vv : Nat) (hv : v = nI vv) (h2 : 2 ≤ tK tx n k) (x : Int32) (hx : x = nI s) :
    oEo tx n i c0 B CS0 CV0 (.inl (true, k + 1, o, M ++ [(s, vv)], (kd, ph, false, pr, pd) :: R)) (mX12_operand_474 (nI n) sg sa se v w lx (nI (c0 + M.length)) (nI i) (nI (R.length + 1)) (nI o) (nI (oC R + pd.length)) tp (rput CS0 (1600 * i + c0) (oSo M)) (rput CV0 (1600 * i + c0) (oVa M)) fr pH be pa ba op x 0 oP) := by
  have nu := oI_num hI
  have hkB := hB k nu.2.2.2.1 h2
  subst hv
  obtain ⟨a, b, c, e, f, g, h1, h3⟩ := oG_next tx n tp hn ht hb hG
  unfold mX12_operand_474
  rw [if_neg (by decide), hx, s_codeAdd i _ s vv hi (by omega), obind, xu_q, xu_q, h1, obind]
  simp only [xu_q]
  refine ⟨true, a, b, c, e, f, 0, oP, g, nI (c0 + (M ++ [(s, vv)]).length), (nI (R.length + 1)), nI o, (nI (oC R + pd.length)), rput CS0 (1600 * i + c0) (oSo (M ++ [(s, vv)])), rput CV0 (1600 * i + c0) (oVa (M ++ [(s, vv)])), fr, pH, upd be R.length 0, pa, ba, op, ?_, ⟨rfl, rfl⟩, rfl, oI_val hI (s, vv) hkB ph (Or.inl rfl), h3, rfl, rfl, rfl, ?_, rfl, rfl, oA_beg hA⟩
  · rw [rput_S M s vv, rput_V M s vv, List.length_append, List.length_cons, List.length_nil, Nat.add_assoc, (dpred R.length (by omega)).1, (dpred R.length (by omega)).2.2]
  · show (nI (oC R + pd.length)) = nI (pd.length + oC R)
    rw [Nat.add_comm]
theorem r_474b (hI : oI c0 B (false, k, o, M, (kd, ph, bg, pr, pd) :: R)) (hB2 : B ≤ 1600) (x p : Int32) (q : Nat) (hp : p = nI q) :
    oEo tx n i c0 B CS0 CV0 (.inr (nBad 1 q)) (mX12_operand_474 (nI n) sg sa se v w lx (nI (c0 + M.length)) (nI i) (nI (R.length + 1)) (nI o) (nI (oC R + pd.length)) tp (rput CS0 (1600 * i + c0) (oSo M)) (rput CV0 (1600 * i + c0) (oVa M)) fr pH be pa ba op x 1 p) := by
  have nu := oI_num hI
  unfold mX12_operand_474
  rw [if_pos (by decide)]
  exact oEo_bad (M := M) (by decide) (by decide) rfl hp rfl rfl (by omega)
theorem r_460 (hn : n ≤ 1600) (ht : ∀ i, i < n → tp i = nI (tx i)) (hb : ∀ i, i < n → tx i < 256) (hB : mOk (tK tx n) B) (hB2 : B ≤ 1600) (hi : i < 2) (hG : oG tx n k sg sa se v w lx) (hI : oI c0 B (false, k, o, M, (kd, ph, bg, pr, pd) :: R)) (hA : oA fr pH be pa ba op ((kd, ph, bg, pr, pd) :: R)) (hk1 : tK tx n k ≠ 1) (s vv : Nat) (hs : s < 8) (hv : v = nI vv) (h2 : 2 ≤ tK tx n k) :
    oEo tx n i c0 B CS0 CV0 (.inl (true, k + 1, o, M ++ [(s, vv)], (kd, ph, false, pr, pd) :: R)) (mX12_operand_460 (nI n) sg sa se v w lx (nI (c0 + M.length)) (nI i) (nI (R.length + 1)) (nI o) (nI (oC R + pd.length)) tp (rput CS0 (1600 * i + c0) (oSo M)) (rput CV0 (1600 * i + c0) (oVa M)) fr pH be pa ba op (nI s) 0 oP) := by
  unfold mX12_operand_460
  rw [if_neg (nI_m1 (by omega))]
  exact r_474 hn ht hb hB hB2 hi hG hI hA hk1 s vv hv h2 (nI s) rfl
theorem r_460n (hI : oI c0 B (false, k, o, M, (kd, ph, bg, pr, pd) :: R)) (hB2 : B ≤ 1600) (hG : oG tx n k sg sa se v w lx) :
    oEo tx n i c0 B CS0 CV0 (.inr (nBad 1 (tS tx n k))) (mX12_operand_460 (nI n) sg sa se v w lx (nI (c0 + M.length)) (nI i) (nI (R.length + 1)) (nI o) (nI (oC R + pd.length)) tp (rput CS0 (1600 * i + c0) (oSo M)) (rput CV0 (1600 * i + c0) (oVa M)) fr pH be pa ba op (-1) 0 oP) := by
  unfold mX12_operand_460
  rw [if_pos rfl, blame_0, xlet_eq, xu_q]
  exact r_474b hI hB2 _ _ _ (oG_at hG)
theorem r_426 (hn : n ≤ 1600) (ht : ∀ i, i < n → tp i = nI (tx i)) (hb : ∀ i, i < n → tx i < 256) (hB : mOk (tK tx n) B) (hB2 : B ≤ 1600) (hi : i < 2) (hG : oG tx n k sg sa se v w lx) (hI : oI c0 B (false, k, o, M, (kd, ph, bg, pr, pd) :: R)) (hA : oA fr pH be pa ba op ((kd, ph, bg, pr, pd) :: R)) (hk1 : tK tx n k ≠ 1) (hlw : lw < 3) (s vv : Nat) (hs : s < 8) (hv : v = nI vv) (h2 : 2 ≤ tK tx n k) :
    oEo tx n i c0 B CS0 CV0 (if s ≤ 1 ∨ (5 ≤ s ↔ lw = 1) then .inl (true, k + 1, o, M ++ [(s, vv)], (kd, ph, false, pr, pd) :: R) else .inr (nBad 1 (tS tx n k))) (mX12_operand_426 (nI n) sg sa se v w lx (nI (c0 + M.length)) (nI i) (nI lw) (nI (R.length + 1)) (nI o) (nI (oC R + pd.length)) tp (rput CS0 (1600 * i + c0) (oSo M)) (rput CV0 (1600 * i + c0) (oVa M)) fr pH be pa ba op (nI s) 0 oP) := by
  have yes := r_460 (CS0 := CS0) (CV0 := CV0) hn ht hb hB hB2 hi hG hI hA hk1 s vv hs hv h2
  have no := r_460n (tp := tp) (i := i) (CS0 := CS0) (CV0 := CV0) (fr := fr) (pH := pH) (be := be) (pa := pa) (ba := ba) (op := op) hI hB2 hG
  have hl1 : lw = 1 → nI lw = 1 := fun h => by rw [h]; rfl
  have hl0 : lw ≠ 1 → ¬ nI lw = 1 := fun h z => h ((nI_eq (b := 1) (by omega) (by decide)).mp z)
  unfold mX12_operand_426
  by_cases h1 : s ≤ 1
  · rw [if_pos (Or.inl h1), if_neg (show ¬ (1 : Int32) < nI s from nI_nlt (b := s) (a := 1) h1 (by decide))]
    exact yes
  · rw [if_pos (show (1 : Int32) < nI s from nI_lt (a := 1) (by omega) (by omega))]
    by_cases h5 : s < 5
    · rw [if_pos (show nI s < (5 : Int32) from nI_lt (b := 5) h5 (by decide))]
      unfold mX12_operand_442
      by_cases hl : lw = 1
      · rw [if_pos (hl1 hl), if_neg (by omega)]
        unfold mX12_operand_455
        rw [if_neg (by decide)]
        exact no
      · rw [if_neg (hl0 hl), if_pos (by omega)]
        unfold mX12_operand_455
        rw [if_pos rfl]
        exact yes
    · rw [if_neg (show ¬ nI s < (5 : Int32) from nI_nlt (b := 5) (by omega) (by omega))]
      unfold mX12_operand_442
      by_cases hl : lw = 1
      · rw [if_pos (hl1 hl), if_pos (by omega)]
        unfold mX12_operand_455
        rw [if_pos rfl]
        exact yes
      · rw [if_neg (hl0 hl), if_neg (by omega)]
        unfold mX12_operand_455
        rw [if_neg (by decide)]
        exact no
theorem r_426n (hI : oI c0 B (false, k, o, M, (kd, ph, bg, pr, pd) :: R)) (hB2 : B ≤ 1600) (hG : oG tx n k sg sa se v w lx) :
    oEo tx n i c0 B CS0 CV0 (.inr (nBad 1 (tS tx n k))) (mX12_operand_426 (nI n) sg sa se v w lx (nI (c0 + M.length)) (nI i) (nI lw) (nI (R.length + 1)) (nI o) (nI (oC R + pd.length)) tp (rput CS0 (1600 * i + c0) (oSo M)) (rput CV0 (1600 * i + c0) (oVa M)) fr pH be pa ba op ((-1) : Int32) 0 oP) := by
  unfold mX12_operand_426
  rw [if_neg (by decide)]
  unfold mX12_operand_460
  rw [if_pos rfl, blame_0, xlet_eq, xu_q]
  exact r_474b hI hB2 _ _ _ (oG_at hG)
theorem ft_of (h4 : tK tx n k = 4) (lw : Nat) : gFt (tK tx n) (tV tx n) lw k = if tV tx n k = 11 then 1 else if lw = 1 then (if tV tx n k = 14 then 5 else if tV tx n k = 15 then 6 else if tV tx n k = 16 then 7 else 0) else (if tV tx n k = 2 then 2 else if tV tx n k = 12 then 3 else if tV tx n k = 13 then 4 else 0) := by
  unfold gFt gOw
  simp only [h4, decide_true, Bool.true_and, decide_eq_true_eq]
theorem ow_of (h4 : tK tx n k = 4) (x : Nat) : gOw (tK tx n) (tV tx n) k x = decide (tV tx n k = x) := by
  unfold gOw
  rw [h4, decide_eq_true rfl, Bool.true_and]
/-- a number, a fact, or none such -/
def mOs (K V St : Nat → Nat) (lw k o : Nat) (M : List (Nat × Nat)) (F : Fr) (R : List Fr) : MS ⊕ NR :=
  if K k = 2 then .inl ⟨true, k + 1, o, M ++ [(0, V k)], ⟨F.1, F.2.1, false, F.2.2.2.1, F.2.2.2.2⟩ :: R⟩
  else if gFt K V lw k ≠ 0 then .inl ⟨true, k + 1, o, M ++ [(gFt K V lw k, 0)], ⟨F.1, F.2.1, false, F.2.2.2.1, F.2.2.2.2⟩ :: R⟩
  else .inr (nBad 1 (St k))
theorem oEo_cg {r r' : MS ⊕ NR} {res : Option (Bool × Int32 × Int32 × Int32 × Int32 × Int64 × Int32 × Int32 × Int32 × Int32 × Int32 × Int32 × Int32 × (Nat → Int32) × (Nat → Int32) × (Nat → Int32) × (Nat → Int32) × (Nat → Int32) × (Nat → Int32) × (Nat → Int32) × (Nat → Int32))} (e : r = r') (h : oEo tx n i c0 B CS0 CV0 r' res) : oEo tx n i c0 B CS0 CV0 r res := e ▸ h
theorem r_sort (hn : n ≤ 1600) (ht : ∀ i, i < n → tp i = nI (tx i)) (hb : ∀ i, i < n → tx i < 256) (hB : mOk (tK tx n) B) (hB2 : B ≤ 1600) (hi : i < 2) (hG : oG tx n k sg sa se v w lx) (hI : oI c0 B (false, k, o, M, (kd, ph, bg, pr, pd) :: R)) (hA : oA fr pH be pa ba op ((kd, ph, bg, pr, pd) :: R)) (hk1 : tK tx n k ≠ 1) (hlw : lw < 3) :
    oEo tx n i c0 B CS0 CV0 (mOs (tK tx n) (tV tx n) (tS tx n) lw k o M (kd, ph, bg, pr, pd) R)
    (if sg = 2 then mX12_operand_426 (nI n) sg sa se v w lx (nI (c0 + M.length)) (nI i) (nI lw) (nI (R.length + 1)) (nI o) (nI (oC R + pd.length)) tp (rput CS0 (1600 * i + c0) (oSo M)) (rput CV0 (1600 * i + c0) (oVa M)) fr pH be pa ba op (0 : Int32) 0 oP
     else if (mX12_isWord (1937007984 : Int64) sg w) = true then mX12_operand_426 (nI n) sg sa se v w lx (nI (c0 + M.length)) (nI i) (nI lw) (nI (R.length + 1)) (nI o) (nI (oC R + pd.length)) tp (rput CS0 (1600 * i + c0) (oSo M)) (rput CV0 (1600 * i + c0) (oVa M)) fr pH be pa ba op (1 : Int32) 0 oP
     else if (mX12_isWord (1936292453 : Int64) sg w) = true then mX12_operand_426 (nI n) sg sa se v w lx (nI (c0 + M.length)) (nI i) (nI lw) (nI (R.length + 1)) (nI o) (nI (oC R + pd.length)) tp (rput CS0 (1600 * i + c0) (oSo M)) (rput CV0 (1600 * i + c0) (oVa M)) fr pH be pa ba op (2 : Int32) 0 oP
     else if (mX12_isWord (1919247987 : Int64) sg w) = true then mX12_operand_426 (nI n) sg sa se v w lx (nI (c0 + M.length)) (nI i) (nI lw) (nI (R.length + 1)) (nI o) (nI (oC R + pd.length)) tp (rput CS0 (1600 * i + c0) (oSo M)) (rput CV0 (1600 * i + c0) (oVa M)) fr pH be pa ba op (3 : Int32) 0 oP
     else if (mX12_isWord (6383461 : Int64) sg w) = true then mX12_operand_426 (nI n) sg sa se v w lx (nI (c0 + M.length)) (nI i) (nI lw) (nI (R.length + 1)) (nI o) (nI (oC R + pd.length)) tp (rput CS0 (1600 * i + c0) (oSo M)) (rput CV0 (1600 * i + c0) (oVa M)) fr pH be pa ba op (4 : Int32) 0 oP
     else if (mX12_isWord (128034609393267 : Int64) sg w) = true then mX12_operand_426 (nI n) sg sa se v w lx (nI (c0 + M.length)) (nI i) (nI lw) (nI (R.length + 1)) (nI o) (nI (oC R + pd.length)) tp (rput CS0 (1600 * i + c0) (oSo M)) (rput CV0 (1600 * i + c0) (oVa M)) fr pH be pa ba op (5 : Int32) 0 oP
     else if (mX12_isWord (1667330675 : Int64) sg w) = true then mX12_operand_426 (nI n) sg sa se v w lx (nI (c0 + M.length)) (nI i) (nI lw) (nI (R.length + 1)) (nI o) (nI (oC R + pd.length)) tp (rput CS0 (1600 * i + c0) (oSo M)) (rput CV0 (1600 * i + c0) (oVa M)) fr pH be pa ba op (6 : Int32) 0 oP
     else if (mX12_isWord (1819238756 : Int64) sg w) = true then mX12_operand_426 (nI n) sg sa se v w lx (nI (c0 + M.length)) (nI i) (nI lw) (nI (R.length + 1)) (nI o) (nI (oC R + pd.length)) tp (rput CS0 (1600 * i + c0) (oSo M)) (rput CV0 (1600 * i + c0) (oVa M)) fr pH be pa ba op (7 : Int32) 0 oP
     else mX12_operand_426 (nI n) sg sa se v w lx (nI (c0 + M.length)) (nI i) (nI lw) (nI (R.length + 1)) (nI o) (nI (oC R + pd.length)) tp (rput CS0 (1600 * i + c0) (oSo M)) (rput CV0 (1600 * i + c0) (oVa M)) fr pH be pa ba op ((-1) : Int32) 0 oP) := by
  have nm := oG_num tx n hG hk1
  unfold mOs
  by_cases K2 : tK tx n k = 2
  · rw [if_pos K2, if_pos (nm.1.mpr K2)]
    have := r_426 (CS0 := CS0) (CV0 := CV0) hn ht hb hB hB2 hi hG hI hA hk1 hlw 0 (tV tx n k) (by decide) (nm.2 K2) (by omega)
    rw [if_pos (Or.inl (by decide))] at this
    exact this
  · rw [if_neg K2, if_neg (fun h => K2 (nm.1.mp h))]
    have w11 : mX12_isWord (1937007984 : Int64) sg w = gOw (tK tx n) (tV tx n) k 11 := oG_word tx n hG hk1 (x := 11) (by decide)
    have w2 : mX12_isWord (1936292453 : Int64) sg w = gOw (tK tx n) (tV tx n) k 2 := oG_word tx n hG hk1 (x := 2) (by decide)
    have w12 : mX12_isWord (1919247987 : Int64) sg w = gOw (tK tx n) (tV tx n) k 12 := oG_word tx n hG hk1 (x := 12) (by decide)
    have w13 : mX12_isWord (6383461 : Int64) sg w = gOw (tK tx n) (tV tx n) k 13 := oG_word tx n hG hk1 (x := 13) (by decide)
    have w14 : mX12_isWord (128034609393267 : Int64) sg w = gOw (tK tx n) (tV tx n) k 14 := oG_word tx n hG hk1 (x := 14) (by decide)
    have w15 : mX12_isWord (1667330675 : Int64) sg w = gOw (tK tx n) (tV tx n) k 15 := oG_word tx n hG hk1 (x := 15) (by decide)
    have w16 : mX12_isWord (1819238756 : Int64) sg w = gOw (tK tx n) (tV tx n) k 16 := oG_word tx n hG hk1 (x := 16) (by decide)
    rw [w11, w2, w12, w13, w14, w15, w16]
    by_cases h4 : tK tx n k = 4
    · have hv0 : v = nI 0 := oG_own tx n hG h4
      have y := fun s hs => r_426 (CS0 := CS0) (CV0 := CV0) hn ht hb hB hB2 hi hG hI hA hk1 hlw s 0 hs hv0 (by omega)
      rw [ow_of h4 11, ow_of h4 2, ow_of h4 12, ow_of h4 13, ow_of h4 14, ow_of h4 15, ow_of h4 16]
      simp only [decide_eq_true_eq]
      by_cases e11 : tV tx n k = 11
      · rw [if_pos e11]
        refine oEo_cg ?_ (y 1 (by decide))
        rw [ft_of h4]
        simp [e11]
      rw [if_neg e11]
      by_cases e2 : tV tx n k = 2
      · rw [if_pos e2]
        refine oEo_cg ?_ (y 2 (by decide))
        rw [ft_of h4]
        by_cases hl : lw = 1 <;> simp [e2, hl]
      rw [if_neg e2]
      by_cases e12 : tV tx n k = 12
      · rw [if_pos e12]
        refine oEo_cg ?_ (y 3 (by decide))
        rw [ft_of h4]
        by_cases hl : lw = 1 <;> simp [e12, hl]
      rw [if_neg e12]
      by_cases e13 : tV tx n k = 13
      · rw [if_pos e13]
        refine oEo_cg ?_ (y 4 (by decide))
        rw [ft_of h4]
        by_cases hl : lw = 1 <;> simp [e13, hl]
      rw [if_neg e13]
      by_cases e14 : tV tx n k = 14
      · rw [if_pos e14]
        refine oEo_cg ?_ (y 5 (by decide))
        rw [ft_of h4]
        by_cases hl : lw = 1 <;> simp [e14, hl]
      rw [if_neg e14]
      by_cases e15 : tV tx n k = 15
      · rw [if_pos e15]
        refine oEo_cg ?_ (y 6 (by decide))
        rw [ft_of h4]
        by_cases hl : lw = 1 <;> simp [e15, hl]
      rw [if_neg e15]
      by_cases e16 : tV tx n k = 16
      · rw [if_pos e16]
        refine oEo_cg ?_ (y 7 (by decide))
        rw [ft_of h4]
        by_cases hl : lw = 1 <;> simp [e16, hl]
      rw [if_neg e16]
      refine oEo_cg ?_ (r_426n hI hB2 hG)
      rw [ft_of h4]
      by_cases hl : lw = 1 <;> simp [e11, e2, e12, e13, e14, e15, e16, hl]
    · have f0 : gFt (tK tx n) (tV tx n) lw k = 0 := Classical.byContradiction (fun q => h4 (mFt_K q))
      rw [f0, if_neg (show ¬ (0 : Nat) ≠ 0 by decide), gOw_no h4 11, gOw_no h4 2, gOw_no h4 12, gOw_no h4 13, gOw_no h4 14, gOw_no h4 15, gOw_no h4 16]
      simp only [Bool.false_eq_true, if_false]
      exact r_426n hI hB2 hG
end OQ
