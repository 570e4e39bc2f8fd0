def gLy (h : GH) (t w U : Nat) : GH := gset (gLay h t w U) 5 t 0
def gNc (h : GH) (t w U : Nat) : Nat := if gNw h t w U = true then gNl h t w else gNl h t w - 1
def gNp (h : GH) (t w U : Nat) : Nat := if gNw h t w U = true then 0 else fb_ct (gLd h t w) 40
theorem gLy_n (h : GH) (t w U : Nat) {a b : Nat} (e : b ≠ t) : gLy h t w U a b = h a b := by
  unfold gLy gLay
  rw [gset_n _ _ (fun q => e q.2), gset_n _ _ (fun q => e q.2), gset_n _ _ (fun q => e q.2), gset_n _ _ (fun q => e q.2)]
theorem gLy_1 (h : GH) (t w U : Nat) : gLy h t w U 1 t = w := by simp [gLy, gLay, gset]
theorem gLy_2 (h : GH) (t w U : Nat) : gLy h t w U 2 t = gNc h t w U := by simp [gLy, gLay, gset, gNc]
theorem gLy_3 (h : GH) (t w U : Nat) : gLy h t w U 3 t = gNp h t w U := by simp [gLy, gLay, gset, gNp]
theorem gLy_5 (h : GH) (t w U : Nat) : gLy h t w U 5 t = 0 := by simp [gLy, gset]
theorem gLy_o (h : GH) (t w U : Nat) {a : Nat} (e : a ≠ 1 ∧ a ≠ 2 ∧ a ≠ 3 ∧ a ≠ 5) (b : Nat) : gLy h t w U a b = h a b := by
  unfold gLy gLay
  rw [gset_n _ _ (fun q => e.2.2.2 q.1), gset_n _ _ (fun q => e.2.2.1 q.1), gset_n _ _ (fun q => e.2.1 q.1), gset_n _ _ (fun q => e.1 q.1)]
section ML
variable {h : GH} {T s : Nat}
theorem gNc_le (h : GH) (t w U : Nat) : gNc h t w U ≤ gNl h t w ∧ (gNw h t w U = false → 1 ≤ gNl h t w ∧ gNc h t w U + 1 = gNl h t w) ∧ (gNw h t w U = true → gNc h t w U = gNl h t w) := by
  unfold gNc
  cases e : gNw h t w U with
  | true => exact ⟨by rw [if_pos rfl]; exact Nat.le_refl _, fun q => absurd q (by decide), fun _ => if_pos rfl⟩
  | false =>
    have : ¬ gNl h t w = 0 := fun z => by
      unfold gNw at e
      exact absurd (Or.inl z) (of_decide_eq_false e)
    refine ⟨?_, fun _ => ⟨by omega, ?_⟩, fun q => absurd q (by decide)⟩
    · rw [if_neg (by decide)]; omega
    · rw [if_neg (by decide)]; omega
theorem gLy_Z (I : mI h T s) {t w U : Nat} (ht : t < 40) (hw : gWt h t = true) (h0 : w = 0 → gZ0 h) :
    gZ (gLy h t w U) t ∧ (∀ u, gZ h u → u ≠ t ∧ gZ (gLy h t w U) u) ∧ (∀ u, gZ (gLy h t w U) u → u ≠ t → gZ h u) ∧ ∀ u, gWt (gLy h t w U) u = true → u ≠ t ∧ gWt h u = true := by
  have t1 := (gWt_iff h t).mp hw
  obtain ⟨n1, n2, n3, n4⟩ := mI_nl I ht hw h0
  obtain ⟨c1, c2, c3⟩ := gNc_le h t w U
  have hne : ¬ (w = 0 ∧ gNc h t w U = 0) := by
    rintro ⟨a, b⟩
    have := n3 a
    cases e : gNw h t w U with
    | true => have := c3 e; omega
    | false => have := c2 e; omega
  have zo : ∀ u, u ≠ t → (gZ (gLy h t w U) u ↔ gZ h u) := by
    intro u e
    unfold gZ
    rw [gLy_n h t w U e, gLy_n h t w U e, gLy_n h t w U e]
  refine ⟨⟨ht, ?_, ?_⟩, fun u z => ?_, fun u z e => (zo u e).mp z, fun u z => ?_⟩
  · rw [gLy_o h t w U (by decide)]; exact t1.1
  · rw [gLy_1, gLy_2]; exact hne
  · have e : u ≠ t := fun y => by subst y; exact z.2.2 ⟨t1.2.1, t1.2.2.1⟩
    exact ⟨e, (zo u e).mpr z⟩
  · have z := (gWt_iff _ u).mp z
    by_cases e : u = t
    · subst e
      rw [gLy_1, gLy_2] at z
      exact absurd ⟨z.2.1, z.2.2.1⟩ hne
    · rw [gLy_n h t w U e, gLy_n h t w U e, gLy_n h t w U e, gLy_n h t w U e] at z
      exact ⟨e, (gWt_iff h u).mpr z⟩
theorem mI_lay (I : mI h T s) {t w T' U : Nat} (ht : t < 40) (hw : gWt h t = true) (hT : (T' = T ∧ w < T) ∨ (T = 1 ∧ T' = 2 ∧ w = 1)) (h0 : w = 0 → gZ0 h)
    (hH : (∀ u, u < 40 → gWt h u = true → gRt h u = false ∧ h 5 u = 0) ∨ s = 0 ∨ (2 ≤ T' ∧ s = T')) : mI (gLy h t w U) T' s := by
  have t1 := (gWt_iff h t).mp hw
  obtain ⟨n1, n2, n3, n4⟩ := mI_nl I ht hw h0
  obtain ⟨l1, l2⟩ := mI_ld I ht hw h0
  obtain ⟨c1, c2, c3⟩ := gNc_le h t w U
  obtain ⟨z1, z2, z3, z4⟩ := gLy_Z (U := U) I ht hw h0
  obtain ⟨iA, iB, iC, iD, iE, iF, iG, iH, iK⟩ := I
  have hwT : w < T' := by omega
  have hTT : T ≤ T' := by omega
  have v0 : ∀ u, gLy h t w U 0 u = h 0 u := gLy_o h t w U (by decide)
  refine ⟨fun u hu => ?_, ⟨⟨by have := iB.1; omega, by have := iB.1; omega⟩, fun u hu hp => ?_⟩, fun u z c hc hn => ?_, fun u z p hp => ?_, fun a b ha hb pa pb e1 e2 e3 => ?_, fun x hx1 hx2 => ?_, ⟨by have := iG.1; omega, fun e => ?_, fun u hu e => ?_, fun e => ?_⟩, ?_, ?_⟩
  · have := iA u hu
    rw [v0, gLy_o h t w U (a := 4) (by decide), gLy_o h t w U (a := 9) (by decide)]
    refine ⟨this.1, this.2.1, ?_, this.2.2.2.1, fun q => ⟨?_, (this.2.2.2.2 q).2⟩⟩
    · by_cases e : u = t
      · subst e; rw [gLy_5]; omega
      · rw [gLy_n h t w U e]; exact this.2.2.1
    · by_cases e : u = t
      · subst e; rw [gLy_5]
      · rw [gLy_n h t w U e]; exact (this.2.2.2.2 q).1
  · rw [v0] at hp
    by_cases e : u = t
    · subst e
      rw [gLy_1, gLy_2, gLy_o h u w U (by decide), t1.2.2.2]
      refine ⟨hwT, fun q => absurd q (by decide), fun a b => absurd ?_ z1.2.2⟩
      rw [gLy_1, gLy_2]; exact ⟨a, b⟩
    · rw [gLy_n h t w U e, gLy_n h t w U e, gLy_n h t w U e, gLy_n h t w U e, gLy_n h t w U e]
      obtain ⟨a, b, c⟩ := iB.2 u hu hp
      exact ⟨by omega, fun q => ⟨(b q).1, (b q).2.1, by have := (b q).2.2; omega⟩, c⟩
  · by_cases e : u = t
    · subst e
      rw [gLy_2] at hc
      rw [gLy_1] at hn ⊢
      obtain ⟨a, za, ea, e1, e2⟩ := n2 (by omega)
      by_cases y : c = h 2 a
      · exact ⟨a, (z2 a za).2, by rw [gLy_n h u w U ea]; exact e1, by rw [gLy_n h u w U ea]; exact y.symm⟩
      · obtain ⟨b, zb, eb, eb2⟩ := iC a za c (by omega) (by rw [e1]; exact hn)
        have eb3 := (z2 b zb).1
        exact ⟨b, (z2 b zb).2, by rw [gLy_n h u w U eb3]; exact eb.trans e1, by rw [gLy_n h u w U eb3]; exact eb2⟩
    · have zu := z3 u z e
      rw [gLy_n h t w U e] at hc hn
      obtain ⟨b, zb, eb, eb2⟩ := iC u zu c hc hn
      have eb3 := (z2 b zb).1
      exact ⟨b, (z2 b zb).2, by rw [gLy_n h t w U eb3, gLy_n h t w U e]; exact eb, by rw [gLy_n h t w U eb3]; exact eb2⟩
  · by_cases e : u = t
    · subst e
      rw [gLy_3] at hp
      rw [gLy_1, gLy_2]
      unfold gNp at hp
      cases en : gNw h u w U with
      | true => rw [en, if_pos rfl] at hp; omega
      | false =>
        rw [en, if_neg (by decide)] at hp
        obtain ⟨b, zb, eb, eb2, eb4⟩ := l2 p hp
        have eb3 := (z2 b zb).1
        have := c2 en
        exact ⟨b, (z2 b zb).2, by rw [gLy_n h u w U eb3]; exact eb, by rw [gLy_n h u w U eb3]; omega, by rw [gLy_n h u w U eb3]; exact eb4⟩
    · have zu := z3 u z e
      rw [gLy_n h t w U e] at hp
      obtain ⟨b, zb, eb, eb2, eb4⟩ := iD u zu p hp
      have eb3 := (z2 b zb).1
      exact ⟨b, (z2 b zb).2, by rw [gLy_n h t w U eb3, gLy_n h t w U e]; exact eb, by rw [gLy_n h t w U eb3, gLy_n h t w U e]; exact eb2, by rw [gLy_n h t w U eb3]; exact eb4⟩
  · rw [v0] at pa pb
    have key : ∀ u, u < 40 → u ≠ t → 0 < h 0 u → h 1 u = w → h 2 u = gNc h t w U → h 3 u = gNp h t w U → False := by
      intro u hu e p q1 q2 q3
      have x1 := n1 u hu p e q1
      cases en : gNw h t w U with
      | true => have := c3 en; omega
      | false =>
        have y := c2 en
        have x2 := l1 u hu (decide_eq_true ⟨p, e, q1, by omega⟩)
        unfold gNp at q3
        rw [en, if_neg (by decide)] at q3
        have := x2.2.2.2
        omega
    by_cases ea : a = t
    · by_cases eb : b = t
      · rw [ea, eb]
      · subst ea
        rw [gLy_1, gLy_n h a w U eb] at e1
        rw [gLy_2, gLy_n h a w U eb] at e2
        rw [gLy_3, gLy_n h a w U eb] at e3
        exact (key b hb eb pb e1.symm e2.symm e3.symm).elim
    · by_cases eb : b = t
      · subst eb
        rw [gLy_1, gLy_n h b w U ea] at e1
        rw [gLy_2, gLy_n h b w U ea] at e2
        rw [gLy_3, gLy_n h b w U ea] at e3
        exact (key a ha ea pa e1 e2 e3).elim
      · rw [gLy_n h t w U ea, gLy_n h t w U eb] at e1 e2 e3
        exact iE a b ha hb pa pb e1 e2 e3
  · rcases hT with ⟨q1, q2⟩ | ⟨q1, q2, q3⟩
    · rcases iF x hx1 (by omega) with ⟨u, zu, eu⟩ | q
      · exact Or.inl ⟨u, (z2 u zu).2, by rw [gLy_n h t w U (z2 u zu).1]; exact eu⟩
      · exact Or.inr q
    · exact Or.inl ⟨t, z1, by rw [gLy_1]; omega⟩
  · obtain ⟨u, zu, eu⟩ := iG.2.1 e
    exact ⟨u, (z2 u zu).2, by rw [gLy_n h t w U (z2 u zu).1]; exact eu⟩
  · rw [gLy_o h t w U (by decide)] at e
    rw [gLy_o h t w U (by decide)]
    obtain ⟨a, b⟩ := iG.2.2.1 u hu e
    refine ⟨a, fun q => ?_⟩
    obtain ⟨u, zu, eu⟩ := b q
    exact ⟨u, (z2 u zu).2, by rw [gLy_n h t w U (z2 u zu).1]; exact eu⟩
  · obtain ⟨u, hu, p, q⟩ := iG.2.2.2 e
    exact ⟨u, hu, by rw [v0]; exact p, by rw [gLy_o h t w U (by decide)]; exact q⟩
  · rcases hH with q | q
    · refine Or.inl (fun u hu p => ?_)
      obtain ⟨e, p⟩ := z4 u p
      rw [gRt_cong (h := gLy h t w U) (k := h) (gLy_o h t w U (by decide)), gLy_n h t w U e]
      exact q u hu p
    · exact Or.inr q
  · exact iK_of iK v0 (gLy_o h t w U (by decide)) (gLy_o h t w U (by decide))
end ML
