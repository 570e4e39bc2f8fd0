def gSy (h : GH) (t w : Nat) : GH := gset (gset (gset h 9 t 1) 10 t w) 5 t 0
theorem gSy_n (h : GH) (t w : Nat) {a b : Nat} (e : b ≠ t) : gSy h t w a b = h a b := by
  unfold gSy
  rw [gset_n _ _ (fun q => e q.2), gset_n _ _ (fun q => e q.2), gset_n _ _ (fun q => e q.2)]
theorem gSy_9 (h : GH) (t w : Nat) : gSy h t w 9 t = 1 := by simp [gSy, gset]
theorem gSy_10 (h : GH) (t w : Nat) : gSy h t w 10 t = w := by simp [gSy, gset]
theorem gSy_5 (h : GH) (t w : Nat) : gSy h t w 5 t = 0 := by simp [gSy, gset]
theorem gSy_o (h : GH) (t w : Nat) {a : Nat} (e : a ≠ 9 ∧ a ≠ 10 ∧ a ≠ 5) (b : Nat) : gSy h t w a b = h a b := by
  unfold gSy
  rw [gset_n _ _ (fun q => e.2.2 q.1), gset_n _ _ (fun q => e.2.1 q.1), gset_n _ _ (fun q => e.1 q.1)]
theorem gSy_Z (h : GH) (t w u : Nat) : gZ (gSy h t w) u ↔ gZ h u := by
  unfold gZ
  rw [gSy_o h t w (by decide), gSy_o h t w (by decide), gSy_o h t w (by decide)]
theorem gSy_W {h : GH} {t w u : Nat} (hu : gWt (gSy h t w) u = true) : u ≠ t ∧ gWt h u = true := by
  have z := (gWt_iff _ u).mp hu
  by_cases e : u = t
  · subst e
    rw [gSy_9] at z
    exact absurd z.2.2.2 (by decide)
  · rw [gSy_n h t w e, gSy_n h t w e, gSy_n h t w e, gSy_n h t w e] at z
    exact ⟨e, (gWt_iff h u).mpr z⟩
section MS
variable {h : GH} {T s : Nat}
theorem mI_stay (I : mI h T s) {t w T' s' : Nat} (ht : t < 40) (hw : gWt h t = true) (hT : (T' = T ∧ w < T) ∨ (T = 1 ∧ T' = 2 ∧ w = 1 ∧ s = 0)) (h0 : w = 0 → gZ0 h) (hs : s' = if s = 0 then w + 1 else s)
    (hH : (∀ u, u < 40 → gWt h u = true → gRt h u = false ∧ h 5 u = 0) ∨ (2 ≤ T' ∧ s' = T')) : mI (gSy h t w) T' s' := by
  have t1 := (gWt_iff h t).mp hw
  have zz := gSy_Z h t w
  obtain ⟨iA, iB, iC, iD, iE, iF, iG, iH, iK⟩ := I
  have v : ∀ {a : Nat}, (a ≠ 9 ∧ a ≠ 10 ∧ a ≠ 5) → ∀ u, gSy h t w a u = h a u := fun e => gSy_o h t w e
  have v0 := v (a := 0) (by decide)
  have v1 := v (a := 1) (by decide)
  have v2 := v (a := 2) (by decide)
  have v3 := v (a := 3) (by decide)
  have hsT : s' ≤ T' ∧ s' ≠ 0 := by
    have := iG.1
    rw [hs]
    by_cases e : s = 0
    · rw [if_pos e]; omega
    · rw [if_neg e]; omega
  refine ⟨fun u hu => ?_, ⟨⟨by have := iB.1; omega, by have := iB.1; omega⟩, fun u hu hp => ?_⟩, fun u z c hc hn => ?_, fun u z p hp => ?_, fun a b ha hb pa pb e1 e2 e3 => ?_, fun x hx1 hx2 => ?_, ⟨hsT.1, fun e => ?_, fun u hu e => ⟨hsT.2, fun q => ?_⟩, fun e => ⟨t, ht, by rw [v0]; exact t1.1, gSy_9 h t w⟩⟩, ?_, ?_⟩
  · have := iA u hu
    rw [v0, v (a := 4) (by decide)]
    by_cases e : u = t
    · subst e
      rw [gSy_5, gSy_9]
      exact ⟨this.1, this.2.1, by omega, by omega, fun q => by omega⟩
    · rw [gSy_n h t w e, gSy_n h t w e]; exact this
  · rw [v0] at hp
    rw [v1, v2, v3]
    obtain ⟨a, b, c⟩ := iB.2 u hu hp
    refine ⟨by omega, fun q => ?_, c⟩
    by_cases e : u = t
    · subst e
      rw [gSy_10]
      exact ⟨t1.2.1, t1.2.2.1, by omega⟩
    · rw [gSy_n h t w e] at q ⊢
      exact ⟨(b q).1, (b q).2.1, by have := (b q).2.2; omega⟩
  · rw [v2] at hc
    rw [v1] at hn ⊢
    obtain ⟨b, zb, e1, e2⟩ := iC u ((zz u).mp z) c hc hn
    exact ⟨b, (zz b).mpr zb, by rw [v1]; exact e1, by rw [v2]; exact e2⟩
  · rw [v3] at hp
    rw [v1, v2]
    obtain ⟨b, zb, e1, e2, e3⟩ := iD u ((zz u).mp z) p hp
    exact ⟨b, (zz b).mpr zb, by rw [v1]; exact e1, by rw [v2]; exact e2, by rw [v3]; exact e3⟩
  · rw [v0] at pa pb
    rw [v1, v1] at e1
    rw [v2, v2] at e2
    rw [v3, v3] at e3
    exact iE a b ha hb pa pb e1 e2 e3
  · rcases hT with ⟨q1, q2⟩ | ⟨q1, q2, q3, q4⟩
    · rcases iF x hx1 (by omega) with ⟨u, zu, eu⟩ | q
      · exact Or.inl ⟨u, (zz u).mpr zu, by rw [v1]; exact eu⟩
      · refine Or.inr ?_
        rw [hs, if_neg (by omega)]; exact q
    · refine Or.inr ?_
      rw [hs, if_pos q4]; omega
  · have : gZ0 h := by
      rw [hs] at e
      by_cases z : s = 0
      · rw [if_pos z] at e
        exact h0 (by omega)
      · rw [if_neg z] at e
        exact iG.2.1 e
    obtain ⟨u, zu, eu⟩ := this
    exact ⟨u, (zz u).mpr zu, by rw [v1]; exact eu⟩
  · have : gZ0 h := by
      by_cases y : u = t
      · subst y
        rw [gSy_10] at q
        exact h0 q
      · rw [gSy_n h t w y] at e q
        exact (iG.2.2.1 u hu e).2 q
    obtain ⟨u, zu, eu⟩ := this
    exact ⟨u, (zz u).mpr zu, by rw [v1]; exact eu⟩
  · rcases hH with q | q
    · refine Or.inl (fun u hu p => ?_)
      obtain ⟨e, p⟩ := gSy_W p
      rw [gRt_cong (h := gSy h t w) (k := h) (v (by decide)), gSy_n h t w e]
      exact q u hu p
    · exact Or.inr (Or.inr q)
  · exact iK_of iK v0 (v (by decide)) (v (by decide))
end MS
theorem gFb_spec {h : GH} {r : Nat} (e : gFb h r ≠ 0) : gFb h r - 1 < 40 ∧ gWt h (gFb h r - 1) = true ∧ gBy h r (gFb h r - 1) = true ∧ ∀ u, u < 40 → gWt h u = true → gBy h r u = true → h 3 (gFb h r - 1) ≤ h 3 u := by
  have l := bbt_le (fun t => gWt h t && gBy h r t) (h 3) 40
  obtain ⟨a, b⟩ := bbt_at (p := fun t => gWt h t && gBy h r t) (c := h 3) (n := 40) e
  have a := (Bool.and_eq_true _ _).mp a
  exact ⟨by unfold gFb; unfold gFb at e; omega, a.1, a.2, fun u hu p q => b u hu (by show (gWt h u && gBy h r u) = true; rw [p, q]; rfl)⟩
theorem gFb_no {h : GH} {r : Nat} (e : gFb h r = 0) (u : Nat) (hu : u < 40) (p : gWt h u = true) : gBy h r u = false := by
  have := bbt_none.mp e u hu
  rw [p, Bool.true_and] at this
  exact this
theorem gPk_cases (h : GH) : ∃ r, 1 ≤ r ∧ r ≤ 4 ∧ gPk h = (r, gFb h r) ∧ (∀ q, 1 ≤ q → q < r → gFb h q = 0) ∧ (gFb h r = 0 → r = 4) := by
  unfold gPk
  by_cases e1 : gFb h 1 = 0
  · rw [if_neg (fun z => z e1)]
    by_cases e2 : gFb h 2 = 0
    · rw [if_neg (fun z => z e2)]
      by_cases e3 : gFb h 3 = 0
      · rw [if_neg (fun z => z e3)]
        refine ⟨4, by omega, by omega, rfl, fun q a b => ?_, fun _ => rfl⟩
        have : q = 1 ∨ q = 2 ∨ q = 3 := by omega
        rcases this with z | z | z <;> subst z <;> assumption
      · rw [if_pos e3]
        refine ⟨3, by omega, by omega, rfl, fun q a b => ?_, fun z => absurd z e3⟩
        have : q = 1 ∨ q = 2 := by omega
        rcases this with z | z <;> subst z <;> assumption
    · rw [if_pos e2]
      refine ⟨2, by omega, by omega, rfl, fun q a b => ?_, fun z => absurd z e2⟩
      have : q = 1 := by omega
      subst this; exact e1
  · rw [if_pos e1]
    exact ⟨1, by omega, by omega, rfl, fun q a b => by omega, fun z => absurd z e1⟩
/-- whither one goes -/
theorem gTo_ok {X : GM} (I : mI X.1 X.2.1 X.2.2.1) {r t : Nat} (hr : 1 ≤ r ∧ r ≤ 4) (ht : t < 40) (hw : gWt X.1 t = true) (hb : gBy X.1 r t = true) (hn : 3 ≤ r → ∀ u, u < 40 → gWt X.1 u = true → gRt X.1 u = false ∧ X.1 5 u = 0) :
    ((gTT X r = X.2.1 ∧ gTo X r t < X.2.1) ∨ (X.2.1 = 1 ∧ gTT X r = 2 ∧ gTo X r t = 1 ∧ X.2.2.1 = 0)) ∧ (gTo X r t = 0 → gZ0 X.1) ∧
    ((∀ u, u < 40 → gWt X.1 u = true → gRt X.1 u = false ∧ X.1 5 u = 0) ∨ ((X.2.2.1 = 0 ∨ (2 ≤ gTT X r ∧ X.2.2.1 = gTT X r)) ∧ 2 ≤ gTT X r ∧ gTo X r t + 1 = gTT X r)) := by
  obtain ⟨iA, iB, iC, iD, iE, iF, iG, iH, iK⟩ := I
  by_cases h3 : r < 3
  · have hA : ¬ ∀ u, u < 40 → gWt X.1 u = true → gRt X.1 u = false ∧ X.1 5 u = 0 := by
      intro q
      have := q t ht hw
      have : r = 1 ∨ r = 2 := by omega
      unfold gBy at hb
      rcases this with e | e <;> subst e
      · rw [if_pos rfl] at hb
        rw [(q t ht hw).1] at hb; exact absurd hb (by decide)
      · rw [if_neg (by decide), if_pos rfl] at hb
        have := of_decide_eq_true hb
        rw [(q t ht hw).2] at this; exact absurd this (by decide)
    have hs := iH.resolve_left hA
    have h1 := iB.1.1
    unfold gTo gTT
    rw [if_pos h3]
    by_cases e : X.2.1 = 1
    · rw [if_pos e, if_pos ⟨h3, e⟩]
      have : X.2.2.1 = 0 := by omega
      exact ⟨Or.inr ⟨e, rfl, rfl, this⟩, fun q => absurd q (by decide), Or.inr ⟨Or.inl this, by omega, rfl⟩⟩
    · rw [if_neg e, if_neg (fun q => e q.2)]
      exact ⟨Or.inl ⟨rfl, by omega⟩, fun q => by omega, Or.inr ⟨by omega, by omega, by omega⟩⟩
  · have hA := hn (by omega)
    have eT : gTT X r = X.2.1 := if_neg (fun q => h3 q.1)
    rw [eT]
    unfold gTo
    rw [if_neg h3]
    by_cases e : r = 3
    · subst e
      rw [if_pos rfl]
      unfold gBy at hb
      rw [if_neg (by decide), if_neg (by decide), if_pos rfl] at hb
      have hc := of_decide_eq_true hb
      refine ⟨Or.inl ⟨rfl, ?_⟩, fun q => absurd q hc, Or.inl hA⟩
      refine bcl_lt iB.1.1 (fun u hu p => ?_)
      have p := of_decide_eq_true p
      unfold gTn
      obtain ⟨a, b, c⟩ := iB.2 u hu p.1
      split
      · rename_i q; exact (b q).2.2
      · exact a
    · rw [if_neg e]
      refine ⟨Or.inl ⟨rfl, iB.1.1⟩, fun _ => ?_, Or.inl hA⟩
      have : r = 4 := by omega
      subst this
      unfold gBy at hb
      rw [if_neg (by decide), if_neg (by decide), if_neg (by decide)] at hb
      obtain ⟨u, hu, p⟩ := (bexI _ 40).mp hb
      obtain ⟨p0, p1, p2, p3⟩ := of_decide_eq_true p
      unfold gTn at p2
      by_cases q : X.1 9 u = 1
      · rw [if_pos q] at p2
        exact (iG.2.2.1 u hu q).2 p2
      · rw [if_neg q] at p2
        refine ⟨u, ⟨hu, p0, fun z => p3 ((gWt_iff _ u).mpr ⟨p0, z.1, z.2, ?_⟩)⟩, p2⟩
        have := (iA u hu).2.2.2.1
        omega
theorem gMv_lay {P : GP} {X : GM} {r t : Nat} (e : ¬ P.1 (X.1 8 0) (X.1 0 t) (gRf X.1 t) (X.1 4 t) = true) : gMv P X r t = (gLy X.1 t (gTo X r t) P.2.2, gTT X r, X.2.2.1, X.2.2.2.1 && decide (r = 4), X.2.2.2.2.1 + 1, X.2.2.2.2.2 + P.2.1 (X.1 8 0) (X.1 0 t) (gRf X.1 t) (X.1 4 t)) := by
  unfold gMv; rw [if_neg e]; rfl
theorem gMv_stay {P : GP} {X : GM} {r t : Nat} (e : P.1 (X.1 8 0) (X.1 0 t) (gRf X.1 t) (X.1 4 t) = true) : gMv P X r t = (gSy X.1 t (gTo X r t), gTT X r, if X.2.2.1 = 0 then gTo X r t + 1 else X.2.2.1, X.2.2.2.1 && decide (r = 4), X.2.2.2.2.1 + 1, X.2.2.2.2.2) := by
  unfold gMv; rw [if_pos e]; rfl
theorem fb_ct_less {p q : Nat → Bool} {n t : Nat} (ht : t < n) (hq : q t = true) (h : ∀ u, u < n → p u = true → u ≠ t ∧ q u = true) : fb_ct p n + 1 ≤ fb_ct q n := by
  have u := fb_ct_upd q false (i := t) (n := n) ht
  rw [if_pos hq] at u
  simp only [Bool.false_eq_true, if_false] at u
  have := fb_ct_sub (p := p) (q := fun k => if k = t then false else q k) (n := n) (fun k hk hp => by
    rw [if_neg (h k hk hp).1]; exact (h k hk hp).2)
  omega
theorem mI_mv {P : GP} {X : GM} (I : mI X.1 X.2.1 X.2.2.1) {r t : Nat} (hp : gPk X.1 = (r, t + 1)) : t < 40 ∧ gWt X.1 t = true ∧ gBy X.1 r t = true ∧ (1 ≤ r ∧ r ≤ 4) ∧ mI (gMv P X r t).1 (gMv P X r t).2.1 (gMv P X r t).2.2.1 ∧ fb_ct (gWt (gMv P X r t).1) 40 + 1 ≤ fb_ct (gWt X.1) 40 := by
  obtain ⟨r', hr1, hr2, e, hq, -⟩ := gPk_cases X.1
  rw [e] at hp
  have e1 : r' = r := congrArg Prod.fst hp
  have e2 : gFb X.1 r' = t + 1 := congrArg Prod.snd hp
  subst e1
  obtain ⟨ht, hw, hb, -⟩ := gFb_spec (h := X.1) (r := r') (by omega)
  rw [e2, Nat.add_sub_cancel] at ht hw hb
  have hn : 3 ≤ r' → ∀ u, u < 40 → gWt X.1 u = true → gRt X.1 u = false ∧ X.1 5 u = 0 := by
    intro h3 u hu p
    have a := gFb_no (hq 1 (by omega) (by omega)) u hu p
    have b := gFb_no (hq 2 (by omega) (by omega)) u hu p
    unfold gBy at a b
    rw [if_pos rfl] at a
    rw [if_neg (by decide), if_pos rfl] at b
    have := of_decide_eq_false b
    have := (I.1 u hu).2.2.1
    exact ⟨a, by omega⟩
  obtain ⟨k1, k2, k3⟩ := gTo_ok I ⟨hr1, hr2⟩ ht hw hb hn
  refine ⟨ht, hw, hb, ⟨hr1, hr2⟩, ?_⟩
  by_cases e : P.1 (X.1 8 0) (X.1 0 t) (gRf X.1 t) (X.1 4 t) = true
  · rw [gMv_stay e]
    refine ⟨mI_stay I ht hw k1 k2 rfl ?_, ?_⟩
    · rcases k3 with q | ⟨q1, q2, q3⟩
      · exact Or.inl q
      · refine Or.inr ⟨q2, ?_⟩
        split
        · exact q3
        · rename_i z; exact (q1.resolve_left z).2
    · exact fb_ct_less ht hw (fun u _ p => gSy_W p)
  · rw [gMv_lay e]
    have k1' : (gTT X r' = X.2.1 ∧ gTo X r' t < X.2.1) ∨ (X.2.1 = 1 ∧ gTT X r' = 2 ∧ gTo X r' t = 1) := by
      rcases k1 with q | ⟨a, b, c, d⟩
      · exact Or.inl q
      · exact Or.inr ⟨a, b, c⟩
    refine ⟨mI_lay I ht hw k1' k2 ?_, ?_⟩
    · rcases k3 with q | ⟨q1, q2, q3⟩
      · exact Or.inl q
      · exact Or.inr q1
    · exact fb_ct_less ht hw (fun u _ p => (gLy_Z I ht hw k2).2.2.2 u p)
