def oEm (r : MS ⊕ NR) (mo : Bool) : Prop := match r with
  | .inl _ => mo = true
  | .inr r => r.1 = 0 → mo = false
/-- what going on comes to -/
def oEg (tx : Nat → Nat) (n i c0 B : Nat) (CS0 CV0 : Nat → Int32) (r : MS ⊕ NR) (pa ba : Nat → Int32) (res : Option (Bool × Int32 × Int32 × Int32 × Int32 × Int64 × Int32 × Int32 × Int32 × Int32 × Int32 × Int32 × Int32 × Bool × (Nat → Int32) × (Nat → Int32) × (Nat → Int32) × (Nat → Int32) × (Nat → Int32) × (Nat → Int32))) : Prop :=
  ∃ (mo b : Bool) (sg sa se v : Int32) (w : Int64) (F P lx c d o q : Int32) (CS CV fr ph be op : Nat → Int32), res = some (mo, sg, sa, se, v, w, F, P, lx, c, d, o, q, b, CS, CV, fr, ph, be, op) ∧ oE tx n i c0 B CS0 CV0 r b sg sa se v w F P lx c d o q CS CV fr ph be pa ba op ∧ oEm r mo
section OQ
variable {tx : Nat → Nat} {n : Nat} {tp : Nat → Int32} {i lw c0 B k o : Nat} {CS0 CV0 : Nat → Int32} {sg sa se v : Int32} {w : Int64} {lx : Int32} {M : List (Nat × Nat)} {kd ph : Nat} {bg : Bool} {pr : Nat} {pd : List Nat} {R : List Fr} {fr pH be pa ba op : Nat → Int32}
theorem oEg_bad {f p : Nat} {mo b : Bool} {sg sa se v : Int32} {w : Int64} {F P lx c d o q : Int32} {fr ph be op : Nat → Int32} (hf : f ≠ 0) (hf2 : f < 10) (h7 : F = nI f) (h8 : P = nI p) (hM : c0 + M.length ≤ 1600) : oEg tx n i c0 B CS0 CV0 (.inr (nBad f p)) pa ba (some (mo, sg, sa, se, v, w, F, P, lx, c, d, o, q, b, (rput CS0 (1600 * i + c0) (oSo M)), (rput CV0 (1600 * i + c0) (oVa M)), fr, ph, be, op)) :=
  ⟨mo, b, sg, sa, se, v, w, F, P, lx, c, d, o, q, (rput CS0 (1600 * i + c0) (oSo M)), (rput CV0 (1600 * i + c0) (oVa M)), fr, ph, be, op, rfl, Or.inr ⟨hf, hf2, h7, h8, M, rfl, rfl, hM⟩, fun h => absurd h hf⟩
theorem oEg_cg {r r' : MS ⊕ NR} {res : Option (Bool × Int32 × Int32 × Int32 × Int32 × Int64 × Int32 × Int32 × Int32 × Int32 × Int32 × Int32 × Int32 × Bool × (Nat → Int32) × (Nat → Int32) × (Nat → Int32) × (Nat → Int32) × (Nat → Int32) × (Nat → Int32))} (e : r = r') (h : oEg tx n i c0 B CS0 CV0 r' pa ba res) : oEg tx n i c0 B CS0 CV0 r pa ba res := e ▸ h
theorem sg_of (h5 : tK tx n k = 5) (x : Nat) : gSg (tK tx n) (tV tx n) k x = decide (tV tx n k = x) := by
  unfold gSg
  rw [h5, decide_eq_true rfl, Bool.true_and]
/-- what laying down to a rank leaves -/
theorem oJ (hI : oI c0 B (true, k, o, M, (kd, ph, bg, pr, pd) :: R)) (r : Nat) : ∃ pre, pd = pre ++ (mJn r pd o M).1 ∧ (mJn r pd o M).2.2.length = M.length + pre.length ∧ (mJn r pd o M).2.1 + mCt pre = o ∧ oS (mJn r pd o M).1 ∧ (∀ x, x ∈ (mJn r pd o M).1 → mRk x < r) ∧ (mJn r pd o M).2.2 = M ++ mEm pre := by
  have nu := oI_num hI
  obtain ⟨pre, h1, h2, h3, h4, h5⟩ := mJn_sp r pd o M nu.2.2.2.2.1
  have hS : oS (pre ++ (mJn r pd o M).1) := h1 ▸ hI.1.2.2.2.1
  have s := oS_app _ _ hS
  refine ⟨pre, h1, ?_, h3, s, oS_all s h4, h2⟩
  rw [h2, List.length_append]
  unfold mEm
  rw [List.length_map]
theorem oW_J (hI : oI c0 B (true, k, o, M, (kd, ph, bg, pr, pd) :: R)) (hA : oA fr pH be pa ba op ((kd, ph, bg, pr, pd) :: R)) (r : Nat) : oW op (oC R) (mJn r pd o M).1 := by
  obtain ⟨pre, h1, _⟩ := oJ hI r
  have a : oW op (oC R) pd := hA.2.2.2.2.2.1
  rw [h1] at a
  exact oW_app _ _ a
theorem r_jo (hB2 : B ≤ 1600) (hi : i < 2) (hI : oI c0 B (true, k, o, M, (kd, ph, bg, pr, pd) :: R)) (hA : oA fr pH be pa ba op ((kd, ph, bg, pr, pd) :: R)) (r : Nat) (hr : r < 10) : mX12_joins (nI r) (nI (c0 + M.length)) (nI i) (nI (R.length + 1)) (nI o) (nI (oC R + pd.length)) (rput CS0 (1600 * i + c0) (oSo M)) (rput CV0 (1600 * i + c0) (oVa M)) ba op = some (nI (c0 + (mJn r pd o M).2.2.length), nI (mJn r pd o M).2.1, nI (oC R + (mJn r pd o M).1.length), rput CS0 (1600 * i + c0) (oSo (mJn r pd o M).2.2), rput CV0 (1600 * i + c0) (oVa (mJn r pd o M).2.2)) := by
  have nu := oI_num hI
  exact s_joins r i c0 R.length hi hr (by omega) CS0 CV0 ba op (oC R) hA.2.2.2.2.1 pd o M hI.1.2.2.2.1 hA.2.2.2.2.2.1 nu.2.2.2.2.1 (show oC R + pd.length ≤ 500 by have : oC R + pd.length ≤ 47 := nu.2.1; omega) (by omega) (show c0 + M.length + pd.length ≤ 1600 by have : c0 + M.length + (oC R + pd.length) ≤ k := nu.2.2.1; omega)
/-- an operator waits -/
theorem r_pushE (hn : n ≤ 1600) (ht : ∀ i, i < n → tp i = nI (tx i)) (hb : ∀ i, i < n → tx i < 256) (hB : mOk (tK tx n) B) (hB2 : B ≤ 1600) (hi : i < 2) (hG : oG tx n k sg sa se v w lx) (hI : oI c0 B (true, k, o, M, (kd, ph, bg, pr, pd) :: R)) (hA : oA fr pH be pa ba op ((kd, ph, bg, pr, pd) :: R)) (hk1 : tK tx n k ≠ 1) (hkB : k < B) (r y ph' : Nat) (bg' : Bool) (hy : y < 100) (y3 : y ≠ 43) (pH' be' : Nat → Int32) (hA' : oA fr pH' be' pa ba op ((kd, ph', bg', pr, pd) :: R)) (hF : oF (kd, ph', bg', pr, y :: (mJn r pd o M).1)) (c : Int32) :
    oEg tx n i c0 B CS0 CV0 (.inl (false, k + 1, (mJn r pd o M).2.1, (mJn r pd o M).2.2, (kd, ph', bg', pr, y :: (mJn r pd o M).1) :: R)) pa ba ((mX12_holdsBack (nI y) (nI (oC R + (mJn r pd o M).1.length)) op).bind (xu fun q17_1 => fun q17_2 =>
    (mX12_ahead (nI n) se v w tp).bind (xu fun q18_1 => xu fun q18_2 => xu fun q18_3 => xu fun q18_4 => xu fun q18_5 => fun q18_6 =>
      some (true, q18_1, q18_2, q18_3, q18_4, q18_5, 0, oP, q18_6, nI (c0 + (mJn r pd o M).2.2.length), (nI (R.length + 1)), nI (mJn r pd o M).2.1, q17_1, false, rput CS0 (1600 * i + c0) (oSo (mJn r pd o M).2.2), rput CV0 (1600 * i + c0) (oVa (mJn r pd o M).2.2), fr, pH', be', q17_2)))) := by
  have nu := oI_num hI
  obtain ⟨pre, h1, h2, h3, h4, h5, h6⟩ := oJ hI r
  obtain ⟨a, b, c, e, f, g, g1, g3⟩ := oG_next tx n tp hn ht hb hG
  obtain ⟨i1, i2, i3, i4, i5, i6, i7, i8⟩ := hI
  dsimp only at i5 i6 i7 i8
  have hl : pd.length = pre.length + (mJn r pd o M).1.length := by
    have := congrArg List.length h1
    rw [List.length_append] at this
    exact this
  have hm : mCt pd = mCt pre + mCt (mJn r pd o M).1 := by
    have := congrArg mCt h1
    rw [mCt_app] at this
    exact this
  have l47 : oC R + pd.length ≤ 47 := nu.2.1
  unfold mX12_holdsBack
  rw [if_pos (zb _ _ (by omega) (by decide)), obind, xu_q, g1, obind]
  simp only [xu_q]
  rw [zc _ (by omega), nI_1]
  refine ⟨true, false, a, b, c, e, f, 0, oP, g, _, _, _, _, _, _, fr, pH', be', _, rfl, ⟨⟨rfl, rfl⟩, rfl, ⟨hF, fun q => absurd q (by show ¬ false = true; decide), i3, i4, ?_, ?_, ?_, ?_⟩, g3, rfl, rfl, rfl, ?_, rfl, rfl, ?_⟩, rfl⟩
  · show (mJn r pd o M).2.1 + 1 = R.length + 1 + (mCt (y :: (mJn r pd o M).1) + oN R)
    rw [mCt, if_neg y3]; omega
  · show (mJn r pd o M).2.1 ≤ 7; omega
  · show k + 1 ≤ B; omega
  · show c0 + (mJn r pd o M).2.2.length + (oC R + (y :: (mJn r pd o M).1).length) ≤ k + 1
    rw [List.length_cons]; omega
  · show nI (oC R + (mJn r pd o M).1.length + 1) = nI ((mJn r pd o M).1.length + 1 + oC R)
    rw [show oC R + (mJn r pd o M).1.length + 1 = (mJn r pd o M).1.length + 1 + oC R by omega]
  · obtain ⟨a1, a2, a3, a4, a5, a6, a7⟩ := hA'
    have aw : oW op (oC R) pd := a6
    rw [h1] at aw
    exact ⟨a1, a2, a3, a4, a5, oW_push y (oW_app _ _ aw), oA_cong (fun j hj => ⟨rfl, rfl, rfl, rfl, rfl⟩) (fun j hj => (pk_un (by omega)).symm) a7⟩
theorem oF_ar (hI : oI c0 B (true, k, o, M, (kd, ph, bg, pr, pd) :: R)) (r y : Nat) (hy : (r = 5 ∧ (y = 31 ∨ y = 32)) ∨ (r = 6 ∧ (y = 33 ∨ y = 34 ∨ y = 35))) : oF (kd, ph, bg, pr, y :: (mJn r pd o M).1) := by
  obtain ⟨pre, h1, h2, h3, h4, h5, h6⟩ := oJ hI r
  have hF := hI.1
  have hbg := hI.2.1 rfl
  have mem : ∀ x, x ∈ (mJn r pd o M).1 → x ∈ pd := fun x hx => by rw [h1]; exact List.mem_append_right _ hx
  have ry : mRk y = r ∧ oQ y = r - 1 ∧ y < 100 ∧ y ≠ 43 ∧ (r = 5 ∨ r = 6) := by
    rcases hy with ⟨a, b | b⟩ | ⟨a, b | b | b⟩ <;> subst a <;> subst b <;> decide
  refine ⟨hF.1, hF.2.1, hF.2.2.1, oS_push h4 ry.2.2.1 ry.2.2.2.1 (by omega) (fun x hx => ?_) (fun x hx => by have := h5 x hx; omega), fun a b => ?_, fun a b x hx => ?_⟩
  · have := h5 x (List.mem_of_mem_head? hx)
    rw [ry.2.1]
    unfold oQ
    split <;> omega
  · exact absurd (show bg = true from b) (by rw [show bg = false from hbg]; decide)
  · rcases List.mem_cons.mp hx with q | q
    · rw [q, ry.1]; omega
    · exact hF.2.2.2.2.2 a b x (mem x q)
theorem r_112 (hn : n ≤ 1600) (ht : ∀ i, i < n → tp i = nI (tx i)) (hb : ∀ i, i < n → tx i < 256) (hB : mOk (tK tx n) B) (hB2 : B ≤ 1600) (hi : i < 2) (hG : oG tx n k sg sa se v w lx) (hI : oI c0 B (true, k, o, M, (kd, ph, bg, pr, pd) :: R)) (hA : oA fr pH be pa ba op ((kd, ph, bg, pr, pd) :: R)) (hk1 : tK tx n k ≠ 1) (r y : Nat) (hy : (r = 5 ∧ ((y = 31 ∧ tV tx n k = 43) ∨ (y = 32 ∧ tV tx n k = 45))) ∨ (r = 6 ∧ ((y = 33 ∧ tV tx n k = 42) ∨ (y = 34 ∧ tV tx n k = 47) ∨ (y = 35 ∧ tV tx n k = 37)))) (h5 : tK tx n k = 5) :
    oEg tx n i c0 B CS0 CV0 (.inl (false, k + 1, (mJn r pd o M).2.1, (mJn r pd o M).2.2, (kd, ph, bg, pr, y :: (mJn r pd o M).1) :: R)) pa ba (mX12_goesOn_112 (nI n) sg se v w (nI (c0 + M.length)) (nI i) (nI (R.length + 1)) (nI o) (nI (oC R + pd.length)) tp (rput CS0 (1600 * i + c0) (oSo M)) (rput CV0 (1600 * i + c0) (oVa M)) fr pH be ba op (nI r) 0 oP) := by
  have nu := oI_num hI
  have ws : ∀ c, c < 1000 → mX12_isSign (nI c) sg v = decide (tV tx n k = c) := fun c hc => by rw [oG_sign tx n hb hG hk1 hc, sg_of h5]
  have hkB := hB k nu.2.2.2.1 (by omega)
  have ofr := oF_ar hI r y (by omega)
  unfold mX12_goesOn_112
  rw [r_jo hB2 hi hI hA r (by omega), obind]
  simp only [xu_q]
  rw [show mX12_isSign (43 : Int32) sg v = _ from ws 43 (by decide), show mX12_isSign (45 : Int32) sg v = _ from ws 45 (by decide), show mX12_isSign (42 : Int32) sg v = _ from ws 42 (by decide), show mX12_isSign (47 : Int32) sg v = _ from ws 47 (by decide)]
  unfold mX12_goesOn_174
  have fin := r_pushE (CS0 := CS0) (CV0 := CV0) hn ht hb hB hB2 hi hG hI hA hk1 hkB r y ph bg (by omega) (by omega) pH be hA ofr 0
  rcases hy with ⟨e, ⟨a, b⟩ | ⟨a, b⟩⟩ | ⟨e, ⟨a, b⟩ | ⟨a, b⟩ | ⟨a, b⟩⟩
  · rw [b, if_pos (by decide)]; rw [a] at fin ⊢; exact fin
  · rw [b, if_neg (by decide), if_pos (by decide)]; rw [a] at fin ⊢; exact fin
  · rw [b, if_neg (by decide), if_neg (by decide), if_pos (by decide)]; rw [a] at fin ⊢; exact fin
  · rw [b, if_neg (by decide), if_neg (by decide), if_neg (by decide), if_pos (by decide)]; rw [a] at fin ⊢; exact fin
  · rw [b, if_neg (by decide), if_neg (by decide), if_neg (by decide), if_neg (by decide)]; rw [a] at fin ⊢; exact fin
end OQ
