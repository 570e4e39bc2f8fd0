section PT1
variable {W : Nat → Bool} {g : GH} {lk : Nat → Int32} {fr : Nat → Int64} {a k c : Nat}
theorem gLk_o (ha : a < 40) (hk : k < 4) {u : Nat} (hu : u ≠ a) (t : Nat) : gLk (gset g 6 (4 * a + k) c) u t = gLk g u t := by
  rw [Bool.eq_iff_iff, gLk_iff, gLk_iff]
  constructor
  · rintro ⟨r, hr, e⟩
    rw [gset_n _ _ (fun q => by have := q.2; omega)] at e
    exact ⟨r, hr, e⟩
  · rintro ⟨r, hr, e⟩
    exact ⟨r, hr, by rw [gset_n _ _ (fun q => by have := q.2; omega)]; exact e⟩
theorem gLk_a (hk : k < 4) (t : Nat) : gLk (gset g 6 (4 * a + k) c) a t = true ↔ ((∃ r, r < 4 ∧ r ≠ k ∧ g 6 (4 * a + r) = t + 1) ∨ c = t + 1) := by
  rw [gLk_iff]
  constructor
  · rintro ⟨r, hr, e⟩
    by_cases w : r = k
    · subst w; rw [gset_s] at e; exact Or.inr e
    · rw [gset_n _ _ (fun q => by have := q.2; omega)] at e
      exact Or.inl ⟨r, hr, w, e⟩
  · rintro (⟨r, hr, w, e⟩ | e)
    · exact ⟨r, hr, by rw [gset_n _ _ (fun q => by have := q.2; omega)]; exact e⟩
    · exact ⟨k, hk, by rw [gset_s]; exact e⟩
theorem gLk_b (hk : k < 4) (t : Nat) : gLk g a t = true ↔ ((∃ r, r < 4 ∧ r ≠ k ∧ g 6 (4 * a + r) = t + 1) ∨ g 6 (4 * a + k) = t + 1) := by
  rw [gLk_iff]
  constructor
  · rintro ⟨r, hr, e⟩
    by_cases w : r = k
    · subst w; exact Or.inr e
    · exact Or.inl ⟨r, hr, w, e⟩
  · rintro (⟨r, hr, w, e⟩ | e)
    · exact ⟨r, hr, e⟩
    · exact ⟨k, hk, e⟩
theorem c_point67 (ha : a < 40) (hc : c ≤ 40) (lk1 : Nat → Int32) {P1 Q : Nat → Nat → Bool} (h : ∀ t, t < 40 → zh (fr t) (P1 t)) (hQ : ∀ t u, t < 40 → u < 40 → Q t u = (P1 t u || (decide (u = a) && decide (c = t + 1)))) : ∃ fr', mX10_point_67 (nI a) (bno c) lk1 fr = (lk1, fr') ∧ ∀ t, t < 40 → zh (fr' t) (Q t) := by
  unfold mX10_point_67
  by_cases z : c = 0
  · subst z
    rw [show bno 0 = -1 from rfl, s_putMask_out 40 (-1) (Or.inl (by decide)), xlet_eq]
    refine ⟨fr, rfl, fun t ht => zh_cong (h t ht) (fun u hu => ?_)⟩
    rw [hQ t u ht hu, decide_eq_false (show ¬ 0 = t + 1 by omega), Bool.and_false, Bool.or_false]
  · obtain ⟨b, rfl⟩ : ∃ q, c = q + 1 := ⟨c - 1, by omega⟩
    have hb : b < 40 := by omega
    rw [bnoS, s_maskAt 40 b hb (by decide), s_putMask 40 b hb (by decide), xlet_eq]
    refine ⟨_, rfl, fun t ht => ?_⟩
    by_cases w : t = b
    · subst w
      rw [pk_uLs]
      refine zh_ins ha (h t ht) (fun u hu => ?_)
      rw [hQ t u ht hu, decide_eq_true rfl, Bool.and_true]
    · rw [pk_uLn w]
      refine zh_cong (h t ht) (fun u hu => ?_)
      rw [hQ t u ht hu, decide_eq_false (show ¬ b + 1 = t + 1 by omega), Bool.and_false, Bool.or_false]
/-- the class lets a link point elsewhere -/
theorem c_point (hg : gok W g) (hg1 : gok W (gset g 6 (4 * a + k) c)) (ha : a < 40) (hk : k < 4) (hc : c ≤ 40) (hl : ∀ j, j < 160 → lk j = bno (g 6 j)) (hf : ∀ t, t < 40 → zh (fr t) (fun u => gLk g u t)) :
    ∃ lk' fr', mX10_point (nI a) (nI k) (bno c) lk fr = (lk', fr') ∧ (∀ j, j < 160 → lk' j = bno (gset g 6 (4 * a + k) c 6 j)) ∧ ∀ t, t < 40 → zh (fr' t) (fun u => gLk (gset g 6 (4 * a + k) c) u t) := by
  have e4 : nI a * 4 + nI k = nI (4 * a + k) := by rw [show (4 : Int32) = nI 4 from rfl, pk_mul, nI_add, Nat.mul_comm]
  have hj : 4 * a + k < 160 := by omega
  have eL : mX10_linkOf (nI a) (nI k) lk = bno (g 6 (4 * a + k)) := by
    unfold mX10_linkOf
    rw [if_neg (show ¬ nI a < 0 from nI_nlt (b := 0) (by omega) (by omega)), if_neg (show ¬ nI k < 0 from nI_nlt (b := 0) (by omega) (by omega)), if_pos (show nI k < 4 from nI_lt (b := 4) hk (by decide)), e4, s_at 160 _ hj (by decide)]
    exact hl _ hj
  have hl1 : ∀ j, j < 160 → upd lk (4 * a + k) (bno c) j = bno (gset g 6 (4 * a + k) c 6 j) := by
    intro j hj
    by_cases w : j = 4 * a + k
    · subst w; rw [pk_us, gset_s]
    · rw [pk_un w, gset_n _ _ (fun q => w q.2)]; exact hl j hj
  have ho := hg.1 (4 * a + k) hj
  have keep : (∀ t u, t < 40 → u < 40 → gLk (gset g 6 (4 * a + k) c) u t = (gLk g u t || (decide (u = a) && decide (c = t + 1)))) → ∃ lk' fr', mX10_point_67 (nI a) (bno c) (upd lk (4 * a + k) (bno c)) fr = (lk', fr') ∧ (∀ j, j < 160 → lk' j = bno (gset g 6 (4 * a + k) c 6 j)) ∧ ∀ t, t < 40 → zh (fr' t) (fun u => gLk (gset g 6 (4 * a + k) c) u t) := by
    intro hQ
    obtain ⟨fr', e, q⟩ := c_point67 (P1 := fun t u => gLk g u t) (Q := fun t u => gLk (gset g 6 (4 * a + k) c) u t) ha hc (upd lk (4 * a + k) (bno c)) hf hQ
    exact ⟨_, fr', e, hl1, q⟩
  unfold mX10_point
  rw [e4, s_put 160 _ hj (by decide), xlet_eq, eL]
  by_cases z : g 6 (4 * a + k) = 0
  · rw [z, if_pos (show bno 0 = -1 from rfl)]
    refine keep (fun t u ht hu => ?_)
    by_cases w : u = a
    · subst w
      rw [Bool.eq_iff_iff, gLk_a hk, Bool.or_eq_true, gLk_b hk, Bool.and_eq_true, decide_eq_true_eq, decide_eq_true_eq]
      constructor
      · rintro (h | h)
        · exact Or.inl (Or.inl h)
        · exact Or.inr ⟨rfl, h⟩
      · rintro ((h | h) | h)
        · exact Or.inl h
        · rw [z] at h; omega
        · exact Or.inr h.2
    · rw [gLk_o ha hk w, decide_eq_false w, Bool.false_and, Bool.or_false]
  · obtain ⟨o, eo⟩ : ∃ q, g 6 (4 * a + k) = q + 1 := ⟨g 6 (4 * a + k) - 1, by omega⟩
    have ho40 : o < 40 := by omega
    rw [eo, bnoS, if_neg (nI_m1 (by omega)), zh_in (s_linkedFrom a ha _) ho40, bhas_g6' hg1 _ hl1 ha ho40]
    by_cases w : gLk (gset g 6 (4 * a + k) c) a o = true
    · rw [if_pos w]
      refine keep (fun t u ht hu => ?_)
      by_cases x : u = a
      · subst x
        rw [Bool.eq_iff_iff, Bool.or_eq_true, Bool.and_eq_true, decide_eq_true_eq, decide_eq_true_eq]
        constructor
        · intro h
          rcases (gLk_a hk t).mp h with h | h
          · exact Or.inl ((gLk_b hk t).mpr (Or.inl h))
          · exact Or.inr ⟨rfl, h⟩
        · rintro (h | h)
          · rcases (gLk_b hk t).mp h with h | h
            · exact (gLk_a hk t).mpr (Or.inl h)
            · rw [eo] at h
              have : t = o := by omega
              rw [this]; exact w
          · exact (gLk_a hk t).mpr (Or.inr h.2)
      · rw [gLk_o ha hk x, decide_eq_false x, Bool.false_and, Bool.or_false]
    · rw [if_neg w, s_maskAt 40 o ho40 (by decide), s_putMask 40 o ho40 (by decide), xlet_eq]
      have h1 : ∀ t, t < 40 → zh (vp_updL fr o (fr o &&& (mX11_bit (nI a) ^^^ (-1))) t) (fun u => gLk g u t && !(decide (u = a) && decide (t = o))) := by
        intro t ht
        by_cases x : t = o
        · subst x
          rw [pk_uLs]
          refine zh_del ha (hf t ht) (fun u hu => ?_)
          rw [decide_eq_true rfl, Bool.and_true]
        · rw [pk_uLn x]
          refine zh_cong (hf t ht) (fun u hu => ?_)
          rw [decide_eq_false x, Bool.and_false, Bool.not_false, Bool.and_true]
      obtain ⟨fr', e, q⟩ := c_point67 (P1 := fun t u => gLk g u t && !(decide (u = a) && decide (t = o))) (Q := fun t u => gLk (gset g 6 (4 * a + k) c) u t) ha hc (upd lk (4 * a + k) (bno c)) h1 (fun t u ht hu => by
        by_cases x : u = a
        · subst x
          rw [Bool.eq_iff_iff, Bool.or_eq_true, Bool.and_eq_true, Bool.and_eq_true, decide_eq_true_eq, decide_eq_true_eq, decide_eq_true rfl, Bool.true_and, Bool.not_eq_true', decide_eq_false_iff_not]
          constructor
          · intro h
            by_cases y : t = o
            · subst y; exact absurd h w
            · rcases (gLk_a hk t).mp h with h | h
              · exact Or.inl ⟨(gLk_b hk t).mpr (Or.inl h), y⟩
              · exact Or.inr ⟨rfl, h⟩
          · rintro (⟨h, y⟩ | h)
            · rcases (gLk_b hk t).mp h with h | h
              · exact (gLk_a hk t).mpr (Or.inl h)
              · rw [eo] at h; omega
            · exact (gLk_a hk t).mpr (Or.inr h.2)
        · rw [gLk_o ha hk x, decide_eq_false x, Bool.false_and, Bool.false_and, Bool.not_false, Bool.and_true, Bool.or_false])
      exact ⟨_, fr', e, hl1, q⟩
end PT1
