section ST2
variable {K V St : Nat → Nat} {lw B : Nat} {Rn : Nat → Nat → Nat → Nat → NR} {o : Nat}
theorem gNo4 {k : Nat} (h : K k = 4) : gWk K V k = 0 ∧ gSt K V k = 0 ∧ gCm K V k = 0 := by
  have no : ∀ c, gSg K V k c = false := fun c => gSg_no (by omega) c
  refine ⟨?_, ?_, ?_⟩
  · unfold gWk; rw [no, no]; rfl
  · unfold gSt; rw [no, no, no]; rfl
  · unfold gCm; rw [no, no, no]; rfl
theorem m_testL (hB : mOk K B) (h0 : m0 K V St lw B Rn o) (L0 : List (Nat × Nat)) (a b : Nat) (hts : mTs a = true) (R : List Fr) : ∀ (f k k0 w ph : Nat) (L M : List (Nat × Nat)) (q : List Nat), k0 < k → k ≤ B → B < f + k → (w = 0 ∨ w = 42) → (∀ x, x ∈ q → 2 ≤ mRk x) → M ++ mEm q = L0 ++ L → ph ≠ 0 → (ph < 2 → gWk K V k = 0 ∧ gSt K V k = 0) →
    mRs K V St lw B (gTestL K V Rn o f k w L) k0 (true, k, o + mCt q, M, (a, ph, false, b, q ++ mOw w) :: R) (q1 K V o L0 (a, 0, true, b, []) R) := by
  intro f
  induction f with
  | zero => intro k k0 w ph L M q _ h1 h2; omega
  | succ f ih =>
    intro k k0 w ph L M q hk0 hk hf hw hq hM hph hna
    have hwo : ∀ x, x ∈ mOw w → mRk x = 1 ∧ x ≠ 43 := by
      intro x hx
      unfold mOw at hx
      by_cases e : w = 0
      · rw [if_pos e] at hx; exact absurd hx List.not_mem_nil
      · rw [if_neg e] at hx
        have e42 : w = 42 := by omega
        rw [List.mem_singleton.mp hx, e42]
        decide
    have cw : mCt (mOw w) = 0 := by
      unfold mOw
      rcases hw with e | e <;> rw [e] <;> rfl
    rw [gTestL]
    by_cases w19 : gOw K V k 19 = true
    · have e4 := (gOw_K w19).1
      obtain ⟨z1, z2, z3⟩ := gNo4 (V := V) e4
      have hkB := hB k hk (by omega)
      rw [if_pos w19]
      have hj := mJn_all 2 q (mOw w) o M hq (fun x hx => by
        have hx2 : x ∈ mOw w := List.mem_of_mem_head? hx
        rw [(hwo x hx2).1]; decide)
      rw [hM] at hj
      have st : mStep K V St lw (true, k, o + mCt q, M, (a, ph, false, b, q ++ mOw w) :: R) = .inl (false, k + 1, o, L0 ++ L, (a, 0, true, b, 41 :: mOw w) :: R) := by
        show mGo K V St (true, k, o + mCt q, M, (a, ph, false, b, q ++ mOw w) :: R) (a, ph, false, b, q ++ mOw w) R = _
        unfold mGo
        dsimp only
        rw [if_neg (by omega), if_neg (fun z => z.2 z1), if_neg (fun z => z.2 z2), if_neg (fun z => hph z.2.1), if_neg (fun z => hph z.2), if_pos ⟨hts, w19⟩, hj]
      refine mRs_to (mTo_1 st (Nat.le_refl _)) (Nat.le_refl k0) ?_
      refine mRs_bindB (h0 (k + 1) (L0 ++ L) (a, 0, true, b, 41 :: mOw w) R hkB hts rfl rfl (fun x hx => by simp at hx; rw [← hx]; decide)) ?_
      intro k' L' Y hk1 hk2 hY hQ
      obtain ⟨p, M', ph', hp, hM', hph', hna', e⟩ := hQ
      subst e
      have g := ih k' k0 w ph' (L ++ L' ++ [(41, 0)]) M' (p ++ [41]) (by omega) hk2 (by omega) hw (fun x hx => by
        rcases List.mem_append.mp hx with z | z
        · have := hp x z; omega
        · rw [List.mem_singleton.mp z]; decide) (by rw [mEm_app, ← List.append_assoc, hM']; simp [mEm]) hph' hna'
      have c41 : mCt (p ++ [41]) = mCt p := by rw [mCt_app]; rfl
      rw [c41, List.append_assoc p] at g
      exact g
    rw [if_neg w19]
    by_cases w18 : gOw K V k 18 = true
    · have e4 := (gOw_K w18).1
      obtain ⟨z1, z2, z3⟩ := gNo4 (V := V) e4
      have hkB := hB k hk (by omega)
      rw [if_pos w18]
      have hj := mJn_all 1 (q ++ mOw w) [] o M (fun x hx => by
        rcases List.mem_append.mp hx with z | z
        · have := hq x z; omega
        · rw [(hwo x z).1]; decide) (fun x hx => by cases hx)
      rw [mCt_app, cw, Nat.add_zero, List.append_nil, mEm_app, ← List.append_assoc, hM, mEm_ow] at hj
      have st : mStep K V St lw (true, k, o + mCt q, M, (a, ph, false, b, q ++ mOw w) :: R) = .inl (false, k + 1, o, L0 ++ L ++ gOwe w, (a, 0, true, b, [42]) :: R) := by
        show mGo K V St (true, k, o + mCt q, M, (a, ph, false, b, q ++ mOw w) :: R) (a, ph, false, b, q ++ mOw w) R = _
        unfold mGo
        dsimp only
        rw [if_neg (by omega), if_neg (fun z => z.2 z1), if_neg (fun z => z.2 z2), if_neg (fun z => hph z.2.1), if_neg (fun z => hph z.2), if_neg (fun z => w19 z.2), if_pos ⟨hts, w18⟩, hj]
      refine mRs_to (mTo_1 st (Nat.le_refl _)) (Nat.le_refl k0) ?_
      refine mRs_bindB (h0 (k + 1) (L0 ++ L ++ gOwe w) (a, 0, true, b, [42]) R hkB hts rfl rfl (fun x hx => by simp at hx; rw [← hx]; decide)) ?_
      intro k' L' Y hk1 hk2 hY hQ
      obtain ⟨p, M', ph', hp, hM', hph', hna', e⟩ := hQ
      subst e
      exact ih k' k0 42 ph' (L ++ gOwe w ++ L') M' p (by omega) hk2 (by omega) (Or.inr rfl) (fun x hx => by have := hp x hx; omega) (by rw [hM']; simp) hph' hna'
    rw [if_neg w18]
    refine mRs_here hk0 hk rfl ⟨q ++ mOw w, M, ph, fun x hx => ?_, ?_, hph, hna, Bool.eq_false_iff.mpr w19, Bool.eq_false_iff.mpr w18, ?_⟩
    · rcases List.mem_append.mp hx with z | z
      · have := hq x z; omega
      · rw [(hwo x z).1]; decide
    · rw [mEm_app, ← List.append_assoc, hM, mEm_ow, List.append_assoc]
    · rw [mCt_app, cw, List.append_nil]
      rfl
theorem m_test (hB : mOk K B) (hB2 : B ≤ 1600) (h0 : m0 K V St lw B Rn o) (k : Nat) (L : List (Nat × Nat)) (F : Fr) (R : List Fr) (hk : k ≤ B) (hts : mTs F.1 = true) (hbg : F.2.2.1 = true) (hph : F.2.1 = 0) (hpd : F.2.2.2.2 = []) : mRs K V St lw B (gTest K V Rn k o) k (false, k, o, L, F :: R) (q1 K V o L F R) := by
  obtain ⟨a, ph, bg, b, pd⟩ := F
  dsimp only at hts hbg hph hpd
  subst hbg hph hpd
  unfold gTest
  refine mRs_bindB (h0 k L (a, 0, true, b, []) R hk hts rfl rfl (fun x hx => by cases hx)) ?_
  intro k' L' Y hk1 hk2 hY hQ
  obtain ⟨p, M, ph, hp, hM, hph2, hna, e⟩ := hQ
  subst e
  exact m_testL hB h0 L a b hts R 1600 k' k 0 ph L' M p hk1 hk2 (by omega) (Or.inl rfl) (fun x hx => by have := hp x hx; omega) hM hph2 hna
end ST2
