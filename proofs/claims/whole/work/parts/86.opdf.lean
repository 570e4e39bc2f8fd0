section OQ
variable {tx : Nat → Nat} {n : Nat} {tp : Nat → Int32} {i lw c0 B k o : Nat} {CS0 CV0 : Nat → Int32} {sg sa se v : Int32} {w : Int64} {lx : Int32} {M : List (Nat × Nat)} {kd ph : Nat} {bg : Bool} {pr : Nat} {pd : List Nat} {R : List Fr} {fr pH be pa ba op : Nat → Int32}
theorem oA_ph (hA : oA fr pH be pa ba op ((kd, ph, bg, pr, pd) :: R)) (ph' : Nat) : oA fr (upd pH R.length (nI ph')) be pa ba op ((kd, ph', bg, pr, pd) :: R) := by
  obtain ⟨a1, a2, a3, a4, a5, a6, a7⟩ := hA
  refine ⟨a1, pk_us, a3, a4, a5, a6, oA_cong (fun j hj => ?_) (fun j _ => rfl) a7⟩
  rw [pk_un (by omega)]
  exact ⟨rfl, rfl, rfl, rfl, rfl⟩
theorem oA_an (hA : oA fr pH be pa ba op ((kd, ph, bg, pr, pd) :: R)) : oA fr (upd pH R.length 0) (upd be R.length 1) pa ba op ((kd, 0, true, pr, pd) :: R) := by
  obtain ⟨a1, a2, a3, a4, a5, a6, a7⟩ := hA
  refine ⟨a1, pk_us, pk_us, a4, a5, a6, oA_cong (fun j hj => ?_) (fun j _ => rfl) a7⟩
  rw [pk_un (by omega), pk_un (by omega)]
  exact ⟨rfl, rfl, rfl, rfl, rfl⟩
theorem oF_cm (hI : oI c0 B (true, k, o, M, (kd, ph, bg, pr, pd) :: R)) (ht' : mTs kd = true) (h0 : ph = 0) (y : Nat) (hy : y = 38 ∨ y = 39 ∨ y = 40) : oF (kd, 1, bg, pr, y :: (mJn 5 pd o M).1) := by
  obtain ⟨pre, h1, h2, h3, h4, h5, h6⟩ := oJ hI 5
  have hF := hI.1
  have hbg := hI.2.1 rfl
  have mem : ∀ x, x ∈ (mJn 5 pd o M).1 → x ∈ pd := fun x hx => by rw [h1]; exact List.mem_append_right _ hx
  have ry : mRk y = 4 ∧ oQ y = 3 ∧ y < 100 ∧ y ≠ 43 := by
    rcases hy with a | a | a <;> subst a <;> decide
  have r3 : ∀ x, x ∈ (mJn 5 pd o M).1 → mRk x ≤ 3 := fun x hx => by
    have a := h5 x hx
    have b := hF.2.2.2.2.2 ht' h0 x (mem x hx)
    omega
  refine ⟨hF.1, by show 1 ≤ 2; omega, hF.2.2.1, oS_push h4 ry.2.2.1 ry.2.2.2 (by omega) (fun x hx => ?_) (fun x hx => by have := r3 x hx; omega), fun a b => ?_, fun _ b => absurd (show (1 : Nat) = 0 from b) (by decide)⟩
  · have := r3 x (List.mem_of_mem_head? hx)
    rw [ry.2.1]
    unfold oQ
    split <;> omega
  · exact absurd (show bg = true from b) (by rw [show bg = false from hbg]; decide)
theorem oF_an (hI : oI c0 B (true, k, o, M, (kd, ph, bg, pr, pd) :: R)) (r y : Nat) (hy : (r = 2 ∧ y = 41) ∨ (r = 1 ∧ y = 42)) : oF (kd, 0, true, pr, y :: (mJn r pd o M).1) := by
  obtain ⟨pre, h1, h2, h3, h4, h5, h6⟩ := oJ hI r
  have hF := hI.1
  have ry : mRk y = r ∧ oQ y = r ∧ y < 100 ∧ y ≠ 43 ∧ 1 ≤ r ∧ r ≤ 2 := by
    rcases hy with ⟨a, b⟩ | ⟨a, b⟩ <;> subst a <;> subst b <;> decide
  refine ⟨hF.1, by show 0 ≤ 2; omega, hF.2.2.1, oS_push h4 ry.2.2.1 ry.2.2.2.1 (by omega) (fun x hx => ?_) (fun x hx => by have := h5 x hx; omega), fun _ _ x hx => ?_, fun _ _ x hx => ?_⟩
  · have := h5 x (List.mem_of_mem_head? hx)
    rw [ry.2.1]
    unfold oQ
    split <;> omega
  · rcases List.mem_cons.mp hx with q | q
    · rw [q]; omega
    · have := h5 x q; omega
  · rcases List.mem_cons.mp hx with q | q
    · rw [q]; omega
    · have := h5 x q; omega
theorem r_228 (hn : n ≤ 1600) (ht : ∀ i, i < n → tp i = nI (tx i)) (hb : ∀ i, i < n → tx i < 256) (hB : mOk (tK tx n) B) (hB2 : B ≤ 1600) (hi : i < 2) (hG : oG tx n k sg sa se v w lx) (hI : oI c0 B (true, k, o, M, (kd, ph, bg, pr, pd) :: R)) (hA : oA fr pH be pa ba op ((kd, ph, bg, pr, pd) :: R)) (hk1 : tK tx n k ≠ 1) (ht' : mTs kd = true) (h0 : ph = 0) (y : Nat) (hy : (y = 38 ∧ tV tx n k = 60) ∨ (y = 39 ∧ tV tx n k = 62) ∨ (y = 40 ∧ tV tx n k = 61)) (h5 : tK tx n k = 5) :
    oEg tx n i c0 B CS0 CV0 (.inl (false, k + 1, (mJn 5 pd o M).2.1, (mJn 5 pd o M).2.2, (kd, 1, bg, pr, y :: (mJn 5 pd o M).1) :: R)) pa ba (mX12_goesOn_228 (nI n) sg se v w (nI (c0 + M.length)) (nI i) (nI (R.length + 1)) (nI o) (nI (oC R + pd.length)) tp (rput CS0 (1600 * i + c0) (oSo M)) (rput CV0 (1600 * i + c0) (oVa M)) fr pH be ba op 0 oP) := by
  have nu := oI_num hI
  have ws : ∀ c, c < 1000 → mX12_isSign (nI c) sg v = decide (tV tx n k = c) := fun c hc => by rw [oG_sign tx n hb hG hk1 hc, sg_of h5]
  have hkB := hB k nu.2.2.2.1 (by omega)
  have e1 : (nI (R.length + 1) - 1).toNatClampNeg = R.length := by rw [(dpred R.length (by omega)).1]; exact (dpred R.length (by omega)).2.2
  have fin := r_pushE (CS0 := CS0) (CV0 := CV0) hn ht hb hB hB2 hi hG hI hA hk1 hkB 5 y 1 bg (by omega) (by omega) (upd pH R.length (nI 1)) be (oA_ph hA 1) (oF_cm hI ht' h0 y (by omega)) 0
  unfold mX12_goesOn_228
  rw [show (5 : Int32) = nI 5 from rfl, r_jo hB2 hi hI hA 5 (by decide), obind]
  simp only [xu_q]
  rw [show mX12_isSign (60 : Int32) sg v = _ from ws 60 (by decide), show mX12_isSign (62 : Int32) sg v = _ from ws 62 (by decide)]
  unfold mX12_goesOn_264
  rw [e1]
  rcases hy with ⟨a, b⟩ | ⟨a, b⟩ | ⟨a, b⟩
  · rw [b, if_pos (by decide)]; rw [a] at fin ⊢; exact fin
  · rw [b, if_neg (by decide), if_pos (by decide)]; rw [a] at fin ⊢; exact fin
  · rw [b, if_neg (by decide), if_neg (by decide)]; rw [a] at fin ⊢; exact fin
theorem r_356 (hn : n ≤ 1600) (ht : ∀ i, i < n → tp i = nI (tx i)) (hb : ∀ i, i < n → tx i < 256) (hB : mOk (tK tx n) B) (hB2 : B ≤ 1600) (hi : i < 2) (hG : oG tx n k sg sa se v w lx) (hI : oI c0 B (true, k, o, M, (kd, ph, bg, pr, pd) :: R)) (hA : oA fr pH be pa ba op ((kd, ph, bg, pr, pd) :: R)) (hk1 : tK tx n k ≠ 1) (ht' : mTs kd = true) (r y x : Nat) (hy : (r = 2 ∧ y = 41 ∧ x = 19) ∨ (r = 1 ∧ y = 42 ∧ x = 18)) (h4 : tK tx n k = 4) (hx : tV tx n k = x) :
    oEg tx n i c0 B CS0 CV0 (.inl (false, k + 1, (mJn r pd o M).2.1, (mJn r pd o M).2.2, (kd, 0, true, pr, y :: (mJn r pd o M).1) :: R)) pa ba (mX12_goesOn_356 (nI n) sg se v w (nI (c0 + M.length)) (nI i) (nI (R.length + 1)) (nI o) (nI (oC R + pd.length)) tp (rput CS0 (1600 * i + c0) (oSo M)) (rput CV0 (1600 * i + c0) (oVa M)) fr pH be ba op (nI r) 0 oP) := by
  have nu := oI_num hI
  have hkB := hB k nu.2.2.2.1 (by omega)
  have e1 : (nI (R.length + 1) - 1).toNatClampNeg = R.length := by rw [(dpred R.length (by omega)).1]; exact (dpred R.length (by omega)).2.2
  have w19 : mX12_isWord (6385252 : Int64) sg w = gOw (tK tx n) (tV tx n) k 19 := oG_word tx n hG hk1 (x := 19) (by decide)
  have fin := r_pushE (CS0 := CS0) (CV0 := CV0) hn ht hb hB hB2 hi hG hI hA hk1 hkB r y 0 true (by omega) (by omega) (upd pH R.length 0) (upd be R.length 1) (oA_an hA) (oF_an hI r y (by omega)) 0
  unfold mX12_goesOn_356
  rw [r_jo hB2 hi hI hA r (by omega), obind]
  simp only [xu_q]
  rw [w19, ow_of h4, hx]
  unfold mX12_goesOn_372
  rw [e1]
  rcases hy with ⟨a, b, c⟩ | ⟨a, b, c⟩
  · rw [if_pos (by rw [c]; decide)]; rw [b] at fin ⊢; exact fin
  · rw [if_neg (by rw [c]; decide)]; rw [b] at fin ⊢; exact fin
theorem oJ1 (hI : oI c0 B (true, k, o, M, (kd, ph, bg, pr, pd) :: R)) : (mJn 1 pd o M).1 = [] ∧ (mJn 1 pd o M).2.2 = M ++ mEm pd ∧ (mJn 1 pd o M).2.1 + mCt pd = o := by
  obtain ⟨pre, h1, h2, h3, h4, h5, h6⟩ := oJ hI 1
  have e : (mJn 1 pd o M).1 = [] := by
    cases hq : (mJn 1 pd o M).1 with
    | nil => rfl
    | cons x q =>
      have a := h5 x (by rw [hq]; exact List.mem_cons_self)
      have b := mRk_1 x
      omega
  have e2 : pd = pre := by rw [e, List.append_nil] at h1; exact h1
  exact ⟨e, by rw [h6]; exact congrArg (fun z => M ++ mEm z) e2.symm, Eq.trans (congrArg (fun z => (mJn 1 pd o M).2.1 + mCt z) e2) h3⟩
/-- the frame's comma -/
theorem r_499 (hn : n ≤ 1600) (ht : ∀ i, i < n → tp i = nI (tx i)) (hb : ∀ i, i < n → tx i < 256) (hB : mOk (tK tx n) B) (hB2 : B ≤ 1600) (hi : i < 2) (hG : oG tx n k sg sa se v w lx) (hI : oI c0 B (true, k, o, M, (kd, ph, bg, pr, pd) :: R)) (hA : oA fr pH be pa ba op ((kd, ph, bg, pr, pd) :: R)) (hk1 : tK tx n k ≠ 1) (hkB : k < B) (kd' : Nat) (hkd : (kd = 3 ∧ kd' = 4) ∨ (kd = 6 ∧ kd' = 3)) : oEg tx n i c0 B CS0 CV0 (.inl (false, k + 1, (mJn 1 pd o M).2.1, (mJn 1 pd o M).2.2, (kd', 0, bg, pr, (mJn 1 pd o M).1) :: R)) pa ba (mX12_goesOn_499 (nI n) se v w (nI (R.length + 1)) tp fr pH be op (nI kd') 0 oP (nI (c0 + (mJn 1 pd o M).2.2.length)) (nI (mJn 1 pd o M).2.1) (nI (oC R + (mJn 1 pd o M).1.length)) (rput CS0 (1600 * i + c0) (oSo (mJn 1 pd o M).2.2)) (rput CV0 (1600 * i + c0) (oVa (mJn 1 pd o M).2.2))) := by
  have nu := oI_num hI
  obtain ⟨j1, j2, j3⟩ := oJ1 hI
  obtain ⟨a, b, c, e, f, g, g1, g3⟩ := oG_next tx n tp hn ht hb hG
  obtain ⟨i1, i2, i3, i4, i5, i6, i7, i8⟩ := hI
  dsimp only at i5 i6 i7 i8
  have e1 : (nI (R.length + 1) - 1).toNatClampNeg = R.length := by rw [(dpred R.length (by omega)).1]; exact (dpred R.length (by omega)).2.2
  have hl : (mJn 1 pd o M).2.2.length = M.length + pd.length := by rw [j2, List.length_append]; unfold mEm; rw [List.length_map]
  unfold mX12_goesOn_499
  rw [g1, obind]
  simp only [xu_q]
  rw [e1]
  refine ⟨true, false, a, b, c, e, f, 0, oP, g, _, _, _, _, _, _, upd fr R.length (nI kd'), upd pH R.length 0, be, op, rfl, ⟨⟨rfl, rfl⟩, rfl, ⟨?_, fun q => absurd q (by show ¬ false = true; decide), ?_, i4, ?_, ?_, ?_, ?_⟩, g3, rfl, rfl, rfl, ?_, rfl, rfl, ?_⟩, rfl⟩
  · rw [j1]
    refine ⟨by show kd' ≤ 6; omega, by show 0 ≤ 2; omega, i1.2.2.1, trivial, fun _ _ y hy => by (cases hy), fun _ _ y hy => by (cases hy)⟩
  · intro q; have := i3 q; omega
  · show (mJn 1 pd o M).2.1 + 1 = R.length + 1 + (mCt (mJn 1 pd o M).1 + oN R)
    rw [j1, mCt]; omega
  · show (mJn 1 pd o M).2.1 ≤ 7; omega
  · show k + 1 ≤ B; omega
  · show c0 + (mJn 1 pd o M).2.2.length + (oC R + (mJn 1 pd o M).1.length) ≤ k + 1
    rw [j1, hl, List.length_nil]; omega
  · show nI (oC R + (mJn 1 pd o M).1.length) = nI ((mJn 1 pd o M).1.length + oC R)
    rw [Nat.add_comm]
  · obtain ⟨a1, a2, a3, a4, a5, a6, a7⟩ := hA
    rw [j1]
    refine ⟨pk_us, pk_us, a3, fun _ => a4 (by show kd = 3 ∨ kd = 4 ∨ kd = 6; omega), a5, trivial, oA_cong (fun j hj => ?_) (fun j _ => rfl) a7⟩
    rw [pk_un (by omega), pk_un (by omega)]
    exact ⟨rfl, rfl, rfl, rfl, rfl⟩
/-- the frame's end -/
theorem r_596 {gd gh : Nat} {gb : Bool} {gp : Nat} {gq : List Nat} {R' : List Fr} (hn : n ≤ 1600) (ht : ∀ i, i < n → tp i = nI (tx i)) (hb : ∀ i, i < n → tx i < 256) (hG : oG tx n k sg sa se v w lx) (hI : oI c0 B (true, k, o, M, (kd, ph, bg, pr, pd) :: (gd, gh, gb, gp, gq) :: R')) (hA : oA fr pH be pa ba op ((kd, ph, bg, pr, pd) :: (gd, gh, gb, gp, gq) :: R')) (hkB : k < B) (L' : List (Nat × Nat)) (hL : L'.length ≤ 1) :
    oEg tx n i c0 B CS0 CV0 (.inl (true, k + 1, (mJn 1 pd o M).2.1 - 1, (mJn 1 pd o M).2.2 ++ L', (gd, if kd = 5 then 2 else gh, gb, gp, gq) :: R')) pa ba (mX12_goesOn_596 (nI n) se v w (nI (R'.length + 1 + 1)) true tp fr pH be op 0 oP (nI (c0 + ((mJn 1 pd o M).2.2 ++ L').length)) (nI ((mJn 1 pd o M).2.1 - 1)) (nI (oC ((gd, gh, gb, gp, gq) :: R') + (mJn 1 pd o M).1.length)) (rput CS0 (1600 * i + c0) (oSo ((mJn 1 pd o M).2.2 ++ L'))) (rput CV0 (1600 * i + c0) (oVa ((mJn 1 pd o M).2.2 ++ L')))) := by
  have nu := oI_num hI
  obtain ⟨j1, j2, j3⟩ := oJ1 hI
  obtain ⟨a, b, c, e, f, g, g1, g3⟩ := oG_next tx n tp hn ht hb hG
  obtain ⟨i1, i2, i3, i4, i5, i6, i7, i8⟩ := hI
  obtain ⟨l1, l2, l3, l4⟩ := i4
  dsimp only at i5 i6 i7 i8
  obtain ⟨a1, a2, a3, a4, a5, a6, a7⟩ := hA
  obtain ⟨b1, b2, b3, b4, b5, b6, b7⟩ := id a7
  have hR8 : R'.length + 1 + 1 ≤ 8 := nu.1
  have hl : (mJn 1 pd o M).2.2.length = M.length + pd.length := by rw [j2, List.length_append]; unfold mEm; rw [List.length_map]
  have e1 : (nI (R'.length + 1 + 1) - 1) = nI (R'.length + 1) := nI_pred _
  have e2 : (nI (R'.length + 1) - 1) = nI R'.length := nI_pred _
  have ef : (fr (nI (R'.length + 1)).toNatClampNeg = (5 : Int32)) ↔ kd = 5 := by
    rw [zc _ (by omega), show fr (R'.length + 1) = nI kd from a1]
    have := i1.1
    exact nI_eq (b := 5) (show kd < 2 ^ 31 by have : kd ≤ 6 := this; omega) (by decide)
  have sum : (mCt gq + oN R') = oN ((gd, gh, gb, gp, gq) :: R') := rfl
  have len : ((gd, gh, gb, gp, gq) :: R' : List Fr).length = R'.length + 1 := rfl
  have occ : oC ((gd, gh, gb, gp, gq) :: R') = gq.length + oC R' := rfl
  rw [len] at i5
  rw [occ] at i8
  have inv : oI c0 B (true, k + 1, (mJn 1 pd o M).2.1 - 1, (mJn 1 pd o M).2.2 ++ L', (gd, if kd = 5 then 2 else gh, gb, gp, gq) :: R') := by
    refine ⟨⟨l1.1, ?_, l1.2.2.1, l1.2.2.2.1, l1.2.2.2.2.1, fun p q => ?_⟩, fun _ => l2, l3, l4, ?_, ?_, ?_, ?_⟩
    · show (if kd = 5 then 2 else gh) ≤ 2
      have : gh ≤ 2 := l1.2.1
      split <;> omega
    · refine l1.2.2.2.2.2 p ?_
      have : (if kd = 5 then 2 else gh) = 0 := q
      by_cases z : kd = 5
      · rw [if_pos z] at this; omega
      · rw [if_neg z] at this; exact this
    · show (mJn 1 pd o M).2.1 - 1 + 1 = R'.length + 1 + (mCt gq + oN R')
      omega
    · show (mJn 1 pd o M).2.1 - 1 ≤ 7; omega
    · show k + 1 ≤ B; omega
    · show c0 + ((mJn 1 pd o M).2.2 ++ L').length + (oC R' + gq.length) ≤ k + 1
      rw [List.length_append]; omega
  unfold mX12_goesOn_596
  rw [e1, e2]
  by_cases z : kd = 5
  · rw [if_pos (ef.mpr z), if_pos (zb _ _ (by omega) (by decide)), zc _ (by omega), g1, obind]
    simp only [xu_q]
    rw [if_pos z] at inv ⊢
    refine ⟨true, true, a, b, c, e, f, 0, oP, g, _, _, _, _, _, _, fr, upd pH R'.length 2, be, op, rfl, ⟨⟨rfl, rfl⟩, rfl, inv, g3, rfl, rfl, rfl, ?_, rfl, rfl, ?_⟩, rfl⟩
    · rw [j1]; rfl
    · refine ⟨b1, pk_us, b3, b4, b5, b6, oA_cong (fun j hj => ?_) (fun j _ => rfl) b7⟩
      rw [pk_un (by omega)]
      exact ⟨rfl, rfl, rfl, rfl, rfl⟩
  · rw [if_neg (fun q => z (ef.mp q)), g1, obind]
    simp only [xu_q]
    rw [if_neg z] at inv ⊢
    refine ⟨true, true, a, b, c, e, f, 0, oP, g, _, _, _, _, _, _, fr, pH, be, op, rfl, ⟨⟨rfl, rfl⟩, rfl, inv, g3, rfl, rfl, rfl, ?_, rfl, rfl, a7⟩, rfl⟩
    rw [j1]; rfl
end OQ
