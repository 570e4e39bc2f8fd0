/-- formulas told lie in the codes -/
def rCk (P : NP) (L : List (Nat × Nat)) : Prop := ∀ w, w < 3 → P 9 w ≠ 0 → ∃ L1 Lw L2, L = L1 ++ (Lw ++ L2) ∧ L1.length = P 8 w ∧ Lw.length = P 9 w ∧ gP (mP 0 + 5) (decide (w ≠ 2)) 1 Lw ∧ gFc w Lw
def nInv (P : NP) (L : List (Nat × Nat)) : Prop :=
  (∀ t, t < P 0 3 → 1 ≤ P 2 t ∧ P 2 t ≤ P 0 0) ∧ (∀ t k, k < 4 → P 5 (4 * t + k) ≤ P 0 3 ∧ (k < P 4 t ↔ 1 ≤ P 5 (4 * t + k))) ∧ (∀ t, P 0 3 ≤ t → P 4 t = 0) ∧ (∀ k, P 7 k ≤ P 0 3 ∧ (k < P 0 4 ↔ 1 ≤ P 7 k)) ∧ rCk P L
def nGood (r : NS) : Prop := r.1 = 0 → nInv r.2.2.2.1 r.2.2.2.2
theorem nGood_b {f p : Nat} {P : NP} (h : f ≠ 0) : nGood (sBad f p P) := fun e => absurd e h
section IV
variable {K V St : Nat → Nat} {P : NP} {L : List (Nat × Nat)} {k : Nat}
theorem nGood_num {lo hi : Nat} {r : Nat → NS} (h : K k = 2 → lo ≤ V k → V k ≤ hi → nGood (r (V k))) : nGood (nNum K V St k lo hi r P) := by
  unfold nNum
  by_cases e : K k = 2
  · rw [if_pos e]
    by_cases q : V k < lo ∨ hi < V k
    · rw [if_pos q]; exact nGood_b (by decide)
    · rw [if_neg q]; exact h e (by omega) (by omega)
  · rw [if_neg e]; exact nGood_b (by decide)
theorem nGood_own {w : Nat} {r : NS} (h : nGood r) : nGood (nOwn K V St k w r P) := ite_ex (Q := nGood) h (nGood_b (by decide))
theorem nGood_sgn {w : Nat} {r : NS} (h : nGood r) : nGood (nSgn K V St k w r P) := ite_ex (Q := nGood) h (nGood_b (by decide))
theorem nNamed_lt {v : Nat} (h : nNamed P v ≠ 0) : nNamed P v - 1 < P 0 3 := by
  have := (nNam_le P v 24 0).2 h
  unfold nNamed at h ⊢
  omega
theorem nGood_known {r : Nat → NS} (h : ∀ a, a < P 0 3 → nGood (r a)) : nGood (nKnown K V St k P r) := by
  unfold nKnown
  refine ite_ex (Q := nGood) ?_ (nGood_b (by decide))
  by_cases e : nNamed P (V k) = 0
  · rw [if_pos e]; exact nGood_b (by decide)
  · rw [if_neg e]; exact h _ (nNamed_lt e)
theorem rCk_app (h : rCk P L) (M : List (Nat × Nat)) : rCk P (L ++ M) := fun w hw h9 => by
  obtain ⟨L1, Lw, L2, e, a, b, c, d⟩ := h w hw h9
  exact ⟨L1, Lw, L2 ++ M, by rw [e, List.append_assoc, List.append_assoc], a, b, c, d⟩
/-- a cell that none of these speaks of -/
theorem nInv_put (I : nInv P L) (c v : Nat) (hc : c ≠ 0 ∧ c ≠ 3 ∧ c ≠ 4) : nInv (gset P 0 c v) L := by
  have o : ∀ a b, ¬ (a = 0 ∧ b = c) → gset P 0 c v a b = P a b := fun a b h => gset_n _ _ h
  have e0 : gset P 0 c v 0 0 = P 0 0 := o _ _ (fun q => hc.1 q.2.symm)
  have e3 : gset P 0 c v 0 3 = P 0 3 := o _ _ (fun q => hc.2.1 q.2.symm)
  have e4 : gset P 0 c v 0 4 = P 0 4 := o _ _ (fun q => hc.2.2 q.2.symm)
  obtain ⟨i1, i2, i3, i4, i5⟩ := I
  refine ⟨?_, ?_, ?_, ?_, i5⟩
  · rw [e0, e3]; exact i1
  · rw [e3]; exact i2
  · rw [e3]; exact i3
  · rw [e3, e4]; exact i4
theorem nInv_thing (hP : nOkP P L) (I : nInv P L) (a x b : Nat) (h1 : 1 ≤ x) (h2 : x ≤ P 0 0) : nInv (gset (gset (gset (gset (gset (gset P 1 (P 0 3) a) 6 (P 0 3) b) 2 (P 0 3) x) 3 (P 0 3) (P 0 5)) 0 5 0) 0 3 (P 0 3 + 1)) L := by
  obtain ⟨i1, i2, i3, i4, i5⟩ := I
  generalize hm : P 0 3 = m at *
  have cell : ∀ a' b', (gset (gset (gset (gset (gset (gset P 1 m a) 6 m b) 2 m x) 3 m (P 0 5)) 0 5 0) 0 3 (m + 1)) a' b' = if a' = 0 ∧ b' = 3 then m + 1 else if a' = 0 ∧ b' = 5 then 0 else if a' = 3 ∧ b' = m then P 0 5 else if a' = 2 ∧ b' = m then x else if a' = 6 ∧ b' = m then b else if a' = 1 ∧ b' = m then a else P a' b' := fun _ _ => rfl
  generalize hQ : (gset (gset (gset (gset (gset (gset P 1 m a) 6 m b) 2 m x) 3 m (P 0 5)) 0 5 0) 0 3 (m + 1)) = Q at *
  have c03 : Q 0 3 = m + 1 := cell 0 3
  have c00 : Q 0 0 = P 0 0 := cell 0 0
  have c04 : Q 0 4 = P 0 4 := cell 0 4
  have c5 : ∀ j, Q 5 j = P 5 j := fun j => cell 5 j
  have c4 : ∀ j, Q 4 j = P 4 j := fun j => cell 4 j
  have c7 : ∀ j, Q 7 j = P 7 j := fun j => cell 7 j
  refine ⟨fun t ht => ?_, fun t q hq => ?_, fun t ht => ?_, fun q => ?_, fun w hw h9 => i5 w hw (by rw [← (show Q 9 w = P 9 w from cell 9 w)]; exact h9) |> fun ⟨L1, Lw, L2, e, a1, b1, c1, d1⟩ => ⟨L1, Lw, L2, e, a1.trans (show P 8 w = Q 8 w from (cell 8 w).symm), b1.trans (show P 9 w = Q 9 w from (cell 9 w).symm), c1, d1⟩⟩
  · rw [c03] at ht
    rw [c00]
    by_cases y : t = m
    · subst y
      have : Q 2 t = x := by rw [cell]; simp
      rw [this]; exact ⟨h1, h2⟩
    · have : Q 2 t = P 2 t := by rw [cell]; simp [y]
      rw [this]; exact i1 t (by omega)
  · rw [c03, c5, c4]
    have := i2 t q hq
    exact ⟨by omega, this.2⟩
  · rw [c03] at ht
    rw [c4]; exact i3 t (by omega)
  · rw [c03, c04, c7]
    have := i4 q
    exact ⟨by omega, this.2⟩
theorem nInv_link (I : nInv P L) (a b : Nat) (ha : a < P 0 3) (hb : b < P 0 3) (h4 : P 4 a < 4) : nInv (gset (gset P 5 (4 * a + P 4 a) (b + 1)) 4 a (P 4 a + 1)) L := by
  obtain ⟨i1, i2, i3, i4, i5⟩ := I
  refine ⟨i1, fun t q hq => ?_, fun t ht => ?_, i4, i5⟩
  · show gset (gset P 5 (4 * a + P 4 a) (b + 1)) 4 a (P 4 a + 1) 5 (4 * t + q) ≤ P 0 3 ∧ (q < gset (gset P 5 (4 * a + P 4 a) (b + 1)) 4 a (P 4 a + 1) 4 t ↔ 1 ≤ gset (gset P 5 (4 * a + P 4 a) (b + 1)) 4 a (P 4 a + 1) 5 (4 * t + q))
    rw [gset_n (a := 5) _ _ (fun z => absurd z.1 (by decide))]
    have old := i2 t q hq
    by_cases y : t = a
    · subst y
      rw [gset_s]
      by_cases z : q = P 4 t
      · rw [z, gset_s]
        exact ⟨by omega, by omega⟩
      · rw [gset_n _ _ (fun w => z (by omega))]
        exact ⟨old.1, by rw [← old.2]; omega⟩
    · rw [gset_n (a := 4) _ _ (fun w => y w.2), gset_n (a := 4) _ _ (fun w => absurd w.1 (by decide)), gset_n _ _ (fun w => y (by omega))]
      exact old
  · have ht' : P 0 3 ≤ t := ht
    show gset (gset P 5 (4 * a + P 4 a) (b + 1)) 4 a (P 4 a + 1) 4 t = 0
    rw [gset_n (a := 4) _ _ (fun w => by omega), gset_n (a := 4) _ _ (fun w => absurd w.1 (by decide))]
    exact i3 t ht'
theorem nInv_root (I : nInv P L) (a : Nat) (ha : a < P 0 3) : nInv (gset (gset P 7 (P 0 4) (a + 1)) 0 4 (P 0 4 + 1)) L := by
  obtain ⟨i1, i2, i3, i4, i5⟩ := I
  refine ⟨i1, i2, i3, fun q => ?_, i5⟩
  show gset (gset P 7 (P 0 4) (a + 1)) 0 4 (P 0 4 + 1) 7 q ≤ P 0 3 ∧ (q < P 0 4 + 1 ↔ 1 ≤ gset (gset P 7 (P 0 4) (a + 1)) 0 4 (P 0 4 + 1) 7 q)
  rw [gset_n (a := 7) (i := 4) _ _ (fun z => absurd z.1 (by decide))]
  have old := i4 q
  by_cases z : q = P 0 4
  · rw [z, gset_s]; exact ⟨by omega, by omega⟩
  · rw [gset_n _ _ (fun w => z w.2)]
    exact ⟨old.1, by rw [← old.2]; omega⟩
theorem nInv_form (hV : ∀ k, K k = 2 → V k < 10000) (I : nInv P L) (w j : Nat) (hw : w < 3) (h0 : (gRec K V St w 60 (if w = 2 then 2 else 1) 0 j 0).1 = 0) : nInv (gset (gset P 8 w L.length) 9 w (gRec K V St w 60 (if w = 2 then 2 else 1) 0 j 0).2.2.2.length) (L ++ (gRec K V St w 60 (if w = 2 then 2 else 1) 0 j 0).2.2.2) := by
  obtain ⟨i1, i2, i3, i4, i5⟩ := I
  have ty := gTy_all (K := K) (V := V) (St := St) (lw := w) hV 60 0 (by decide)
  refine ⟨i1, i2, i3, i4, fun x hx h9 => ?_⟩
  by_cases y : x = w
  · subst y
    refine ⟨L, _, [], by rw [List.append_nil], ?_, ?_, ?_, ?_⟩
    · rw [gset_n _ _ (fun z => absurd z.1 (by decide)), gset_s]
    · rw [gset_s]
    · by_cases e : x = 2
      · subst e
        exact gP_mono ((ty.2.2.1 0 j) h0).1 (by omega)
      · rw [if_neg e] at h0 ⊢
        rw [decide_eq_true e]
        exact ((ty.2.1 0 j) h0).1
    · by_cases e : x = 2
      · subst e
        exact ((ty.2.2.1 0 j) h0).2
      · rw [if_neg e] at h0 ⊢
        exact ((ty.2.1 0 j) h0).2
  · rw [gset_n _ _ (fun z => y z.2), gset_n _ _ (fun z => absurd z.1 (by decide))] at h9
    obtain ⟨L1, Lw, L2, e, a, b, c, d⟩ := rCk_app i5 _ x hx h9
    refine ⟨L1, Lw, L2, e, ?_, ?_, c, d⟩
    · rw [gset_n _ _ (fun z => absurd z.1 (by decide)), gset_n _ _ (fun z => y z.2)]; exact a
    · rw [gset_n _ _ (fun z => y z.2), gset_n _ _ (fun z => absurd z.1 (by decide))]; exact b
theorem nGood_tell (hV : ∀ k, K k = 2 → V k < 10000) (hP : nOkP P L) (I : nInv P L) (h0 : gOw K V k 0 = false) : nGood (nTell K V St k P L) := by
  unfold nTell
  rw [if_neg (by rw [h0]; decide)]
  refine ite_ex (Q := nGood) ?_ (ite_ex (Q := nGood) ?_ (ite_ex (Q := nGood) ?_ (ite_ex (Q := nGood) ?_ (ite_ex (Q := nGood) ?_ (ite_ex (Q := nGood) ?_ (ite_ex (Q := nGood) ?_ (ite_ex (Q := nGood) ?_ (nGood_b (by decide)))))))))
  · unfold nThing
    refine ite_ex (Q := nGood) (nGood_b (by decide)) (ite_ex (Q := nGood) (ite_ex (Q := nGood) (nGood_own (nGood_num (fun a b c => fun _ => ?_))) (nGood_b (by decide))) (nGood_b (by decide)))
    exact nInv_thing hP I _ _ _ b c
  · exact fun _ => nInv_put I 5 _ (by decide)
  · unfold nLink
    refine nGood_known (fun a ha => ?_)
    by_cases e : 4 ≤ P 4 a
    · rw [if_pos e]; exact nGood_b (by decide)
    · rw [if_neg e]
      exact nGood_own (nGood_known (fun b hb => fun _ => nInv_link I a b ha hb (by omega)))
  · unfold nRoot
    exact ite_ex (Q := nGood) (nGood_b (by decide)) (nGood_known (fun a ha => fun _ => nInv_root I a ha))
  · exact nGood_num (fun a b c => fun _ => nInv_put I 1 _ (by decide))
  all_goals
    unfold nForm
    refine ite_ex (Q := nGood) (nGood_b (by decide)) ?_
    dsimp only
  · by_cases e : (gRec K V St 0 60 (if 0 = 2 then 2 else 1) 0 (k + 1) 0).1 = 0
    · rw [if_pos e]; exact fun _ => nInv_form hV I 0 (k + 1) (by decide) e
    · rw [if_neg e]; exact nGood_b e
  · by_cases e : (gRec K V St 1 60 (if 1 = 2 then 2 else 1) 0 (k + 1) 0).1 = 0
    · rw [if_pos e]; exact fun _ => nInv_form hV I 1 (k + 1) (by decide) e
    · rw [if_neg e]; exact nGood_b e
  · by_cases e : (gRec K V St 2 60 (if 2 = 2 then 2 else 1) 0 (k + 1) 0).1 = 0
    · rw [if_pos e]; exact fun _ => nInv_form hV I 2 (k + 1) (by decide) e
    · rw [if_neg e]; exact nGood_b e
theorem nGood_stat (hV : ∀ k, K k = 2 → V k < 10000) (hP : nOkP P L) (I : nInv P L) : nGood (nStat K V St false k P L) := by
  unfold nStat
  by_cases h0 : gOw K V k 0 = false
  · rw [if_pos h0]
    have t := nGood_tell (St := St) hV hP I h0
    dsimp only
    by_cases e : (nTell K V St k P L).1 = 0
    · rw [if_pos e]
      exact nGood_sgn (fun _ => nInv_put (t e) 2 _ (by decide))
    · rw [if_neg e]; exact fun q => absurd q e
  · rw [if_neg h0]; exact nGood_b (by decide)
end IV
