theorem gW_ca {g : GH} (W : gW g) {w c : Nat} (hc : c < gCa g w) : ∃ u, u < 40 ∧ 0 < g 0 u ∧ g 1 u = w ∧ g 2 u = c := by
  obtain ⟨u, hu, p, e⟩ := bmx_at (p := fun t => decide (0 < g 0 t ∧ g 1 t = w)) (c := g 2) (n := 40) (show 0 < gCa g w by omega)
  have p := of_decide_eq_true p
  have e' : g 2 u + 1 = gCa g w := e
  by_cases y : g 2 u = c
  · exact ⟨u, hu, p.1, p.2, y⟩
  · obtain ⟨b, hb, b0, b1, b2⟩ := W.2.2.1 u hu p.1 c (by omega)
    exact ⟨b, hb, b0, by omega, b2⟩
theorem gW_tr {g : GH} (W : gW g) {w : Nat} (hw : w < gTr g) : ∃ u, u < 40 ∧ 0 < g 0 u ∧ g 1 u = w := by
  obtain ⟨u, hu, p, e⟩ := bmx_at (p := fun t => decide (0 < g 0 t)) (c := g 1) (n := 40) (show 0 < gTr g by omega)
  have p := of_decide_eq_true p
  have e' : g 1 u + 1 = gTr g := e
  by_cases y : g 1 u = w
  · exact ⟨u, hu, p, y⟩
  · exact W.2.1 u hu p w (by omega)
/-- a thing of a size, not laid yet; laid -/
def gZs (g : GH) (t z : Nat) : GH := gset (gset g 0 t z) 4 t 0
def gNew (g : GH) (t z w U : Nat) : GH := gLy (gZs g t z) t w U
section NW
variable {g : GH} {t z w U : Nat}
theorem gZs_o {a b : Nat} (h : b ≠ t ∨ (a ≠ 0 ∧ a ≠ 4)) : gZs g t z a b = g a b := by
  unfold gZs
  rw [gset_n _ _ (fun q => by omega), gset_n _ _ (fun q => by omega)]
theorem gZs_0 : gZs g t z 0 t = z := by
  unfold gZs
  rw [gset_n _ _ (fun q => absurd q.1 (by decide)), gset_s]
theorem gZs_4 : gZs g t z 4 t = 0 := gset_s _ _ _ _
theorem gZs_00 (h0 : g 0 t = 0) (u : Nat) : (0 < gZs g t z 0 u ∧ u ≠ t) ↔ 0 < g 0 u := by
  by_cases e : u = t
  · subst e; rw [h0]; exact ⟨fun q => absurd rfl q.2, fun q => absurd q (by omega)⟩
  · rw [gZs_o (Or.inl e)]; exact ⟨fun q => q.1, fun q => ⟨q, e⟩⟩
theorem gZs_nl (h0 : g 0 t = 0) : gNl (gZs g t z) t w = gCa g w := by
  unfold gNl gCa
  refine bmx_cong (fun u hu => ?_) (fun u hu _ => gZs_o (Or.inr (by decide)))
  rw [decide_eq_decide, gZs_o (a := 1) (Or.inr (by decide))]
  have := gZs_00 (z := z) h0 u
  constructor
  · rintro ⟨a, b, c⟩; exact ⟨this.mp ⟨a, b⟩, c⟩
  · rintro ⟨a, c⟩; exact ⟨(this.mpr a).1, (this.mpr a).2, c⟩
theorem gZs_ld (h0 : g 0 t = 0) (u : Nat) : gLd (gZs g t z) t w u = true ↔ 0 < g 0 u ∧ g 1 u = w ∧ g 2 u + 1 = gCa g w := by
  unfold gLd
  rw [decide_eq_true_iff, gZs_nl h0, gZs_o (a := 1) (Or.inr (by decide)), gZs_o (a := 2) (Or.inr (by decide))]
  have := gZs_00 (z := z) h0 u
  constructor
  · rintro ⟨a, b, c, d⟩; exact ⟨this.mp ⟨a, b⟩, c, d⟩
  · rintro ⟨a, c, d⟩; exact ⟨(this.mpr a).1, (this.mpr a).2, c, d⟩
theorem gNew_n {a b : Nat} (e : b ≠ t) : gNew g t z w U a b = g a b := by
  unfold gNew
  rw [gLy_n _ _ _ _ e, gZs_o (Or.inl e)]
theorem gNew_0 : gNew g t z w U 0 t = z := by unfold gNew; rw [gLy_o _ _ _ _ (by decide), gZs_0]
theorem gNew_1 : gNew g t z w U 1 t = w := gLy_1 _ _ _ _
theorem gNew_2 : gNew g t z w U 2 t = gNc (gZs g t z) t w U := gLy_2 _ _ _ _
theorem gNew_3 : gNew g t z w U 3 t = gNp (gZs g t z) t w U := gLy_3 _ _ _ _
theorem gNew_4 : gNew g t z w U 4 t = 0 := by unfold gNew; rw [gLy_o _ _ _ _ (by decide), gZs_4]
theorem gNew_5 : gNew g t z w U 5 t = 0 := gLy_5 _ _ _ _
theorem gNew_o {a : Nat} (h : 6 ≤ a) (b : Nat) : gNew g t z w U a b = g a b := by
  unfold gNew
  rw [gLy_o _ _ _ _ (by omega), gZs_o (Or.inr (by omega))]
theorem gNew_th (h0 : g 0 t = 0) (hz : 1 ≤ z) (u : Nat) : 0 < gNew g t z w U 0 u ↔ 0 < g 0 u ∨ u = t := by
  by_cases e : u = t
  · subst e; rw [gNew_0]; exact ⟨fun _ => Or.inr rfl, fun _ => by omega⟩
  · rw [gNew_n e]; exact ⟨fun q => Or.inl q, fun q => by rcases q with q | q; exact q; exact absurd q e⟩
theorem gW_new (W : gW g) (ht : t < 40) (h0 : g 0 t = 0) (hz : 1 ≤ z) (hz2 : z ≤ 99) (hw : w ≤ gTr g) : gW (gNew g t z w U) := by
  obtain ⟨c1, c2, c3⟩ := gNc_le (gZs g t z) t w U
  rw [gZs_nl h0] at c1 c2 c3
  have K := ct_places (p := gLd (gZs g t z) t w) (c := g 3) (fun a b ha hb pa pb e => by
      have pa := (gZs_ld h0 a).mp pa
      have pb := (gZs_ld h0 b).mp pb
      exact W.2.2.2.2.1 a b ha hb pa.1 pb.1 (by omega) (by omega) e)
    (fun a ha pa q hq => by
      have pa' := (gZs_ld h0 a).mp pa
      obtain ⟨b, hb, b0, e1, e2, e3⟩ := W.2.2.2.1 a ha pa'.1 q hq
      exact ⟨b, hb, (gZs_ld h0 b).mpr ⟨b0, by omega, by omega⟩, e3⟩)
  have ne : ∀ u, 0 < g 0 u → u ≠ t := fun u hu e => by subst e; omega
  have np : gNp (gZs g t z) t w U = if gNw (gZs g t z) t w U = true then 0 else fb_ct (gLd (gZs g t z) t w) 40 := rfl
  refine ⟨fun u hu => ?_, fun u hu p x hx => ?_, fun u hu p c hc => ?_, fun u hu p q hq => ?_, fun a b ha hb pa pb e1 e2 e3 => ?_, ⟨fun j hj => ?_, fun k hk => ?_⟩, fun u hu p k hk => ?_⟩
  · by_cases e : u = t
    · subst e
      rw [gNew_0, gNew_4, gNew_5, gNew_o (by decide)]
      exact ⟨hz2, by omega, by omega, fun _ => rfl, (W.1 u hu).2.2.2.2⟩
    · rw [gNew_n e, gNew_n e, gNew_n e, gNew_n e]; exact W.1 u hu
  · by_cases e : u = t
    · subst e
      rw [gNew_1] at hx
      obtain ⟨b, hb, b0, b1⟩ := gW_tr W (show x < gTr g by omega)
      exact ⟨b, hb, by rw [gNew_n (ne b b0)]; exact b0, by rw [gNew_n (ne b b0)]; exact b1⟩
    · rw [gNew_n e] at p hx
      obtain ⟨b, hb, b0, b1⟩ := W.2.1 u hu p x hx
      exact ⟨b, hb, by rw [gNew_n (ne b b0)]; exact b0, by rw [gNew_n (ne b b0)]; exact b1⟩
  · by_cases e : u = t
    · subst e
      rw [gNew_2] at hc
      rw [gNew_1]
      obtain ⟨b, hb, b0, b1, b2⟩ := gW_ca W (show c < gCa g w by omega)
      exact ⟨b, hb, by rw [gNew_n (ne b b0)]; exact b0, by rw [gNew_n (ne b b0)]; exact b1, by rw [gNew_n (ne b b0)]; exact b2⟩
    · rw [gNew_n e] at p hc ⊢
      obtain ⟨b, hb, b0, b1, b2⟩ := W.2.2.1 u hu p c hc
      exact ⟨b, hb, by rw [gNew_n (ne b b0)]; exact b0, by rw [gNew_n (ne b b0)]; exact b1, by rw [gNew_n (ne b b0)]; exact b2⟩
  · by_cases e : u = t
    · subst e
      rw [gNew_3, np] at hq
      rw [gNew_1, gNew_2]
      cases en : gNw (gZs g u z) u w U with
      | true => rw [en, if_pos rfl] at hq; omega
      | false =>
        rw [en, if_neg (by decide)] at hq
        obtain ⟨b, hb, pb, e3⟩ := K.2 q hq
        have pb := (gZs_ld h0 b).mp pb
        have := c2 en
        exact ⟨b, hb, by rw [gNew_n (ne b pb.1)]; exact pb.1, by rw [gNew_n (ne b pb.1)]; exact pb.2.1, by rw [gNew_n (ne b pb.1)]; omega, by rw [gNew_n (ne b pb.1)]; exact e3⟩
    · rw [gNew_n e] at p hq
      rw [gNew_n e, gNew_n e]
      obtain ⟨b, hb, b0, b1, b2, b3⟩ := W.2.2.2.1 u hu p q hq
      exact ⟨b, hb, by rw [gNew_n (ne b b0)]; exact b0, by rw [gNew_n (ne b b0)]; exact b1, by rw [gNew_n (ne b b0)]; exact b2, by rw [gNew_n (ne b b0)]; exact b3⟩
  · have key : ∀ u, u < 40 → 0 < g 0 u → g 1 u = w → g 2 u = gNc (gZs g t z) t w U → g 3 u = gNp (gZs g t z) t w U → False := by
      intro u hu p q1 q2 q3
      have lt := gCa_lt hu p q1
      cases en : gNw (gZs g t z) t w U with
      | true => have := c3 en; omega
      | false =>
        have y := c2 en
        have x2 := K.1 u hu ((gZs_ld h0 u).mpr ⟨p, q1, by omega⟩)
        rw [np, en, if_neg (by decide)] at q3
        omega
    by_cases ea : a = t
    · by_cases eb : b = t
      · rw [ea, eb]
      · subst ea
        rw [gNew_n eb] at pb e1 e2 e3
        rw [gNew_1] at e1
        rw [gNew_2] at e2
        rw [gNew_3] at e3
        exact (key b hb pb e1.symm e2.symm e3.symm).elim
    · by_cases eb : b = t
      · subst eb
        rw [gNew_n ea] at pa e1 e2 e3
        rw [gNew_1] at e1
        rw [gNew_2] at e2
        rw [gNew_3] at e3
        exact (key a ha pa e1 e2 e3).elim
      · rw [gNew_n ea] at pa e1 e2 e3
        rw [gNew_n eb] at pb e1 e2 e3
        exact W.2.2.2.2.1 a b ha hb pa pb e1 e2 e3
  · rw [gNew_o (by decide)]
    refine ⟨(W.2.2.2.2.2.1.1 j hj).1, fun u e => ?_⟩
    have := of_decide_eq_true ((W.2.2.2.2.2.1.1 j hj).2 u e)
    exact decide_eq_true ((gNew_th h0 hz u).mpr (Or.inl this))
  · rw [gNew_o (by decide)]
    refine ⟨(W.2.2.2.2.2.1.2 k hk).1, fun u e => ?_⟩
    have := of_decide_eq_true ((W.2.2.2.2.2.1.2 k hk).2 u e)
    exact decide_eq_true ((gNew_th h0 hz u).mpr (Or.inl this))
  · rw [gNew_o (by decide)]
    refine W.2.2.2.2.2.2 u hu ?_ k hk
    have : ¬ 0 < gNew g t z w U 0 u := by omega
    rw [gNew_th h0 hz u] at this
    omega
end NW
