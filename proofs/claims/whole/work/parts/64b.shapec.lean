section SX
variable {h : GH} {T s : Nat}
theorem gNo (hp : (gPk h).2 = 0) {r : Nat} (h1 : 1 ≤ r) (h4 : r ≤ 4) : gFb h r = 0 := by
  obtain ⟨q, a, b, e, c, d⟩ := gPk_cases h
  rw [e] at hp
  have hp : gFb h q = 0 := hp
  have := d hp
  by_cases z : r = q
  · rw [z]; exact hp
  · exact c r h1 (by omega)
theorem gNoLk (hp : (gPk h).2 = 0) (K : iK h) {u t : Nat} (hu : u < 40) (ht : t < 40) (hw : gWt h t = true) (e : gLk h u t = true) : gWt h u = true := by
  have u0 : 0 < h 0 u := by
    by_cases z : h 0 u = 0
    · obtain ⟨k, hk, q⟩ := (gLk_iff h u t).mp e
      rw [K.2 u hu z k hk] at q
      omega
    · omega
  have b3 := gFb_no (gNo hp (r := 3) (by decide) (by decide)) t ht hw
  have b4 := gFb_no (gNo hp (r := 4) (by decide) (by decide)) t ht hw
  unfold gBy at b3 b4
  rw [if_neg (by decide), if_neg (by decide), if_pos rfl] at b3
  rw [if_neg (by decide), if_neg (by decide), if_neg (by decide)] at b4
  have c0 : gCb h t = 0 := Decidable.byContradiction (fun q => absurd q (of_decide_eq_false b3))
  have n0 : gTn h u = 0 := by
    by_cases z : gTn h u = 0
    · exact z
    · have := (bcl_le (q := fun u => decide (0 < h 0 u ∧ gLk h u t = true)) (T := gTn h) hu (decide_eq_true ⟨u0, e⟩) z).1
      exact absurd c0 this
  by_cases z : gWt h u = true
  · exact z
  · have : gBs h t = true := (bexI _ 40).mpr ⟨u, hu, decide_eq_true ⟨u0, e, n0, z⟩⟩
    rw [b4] at this
    exact absurd this (by decide)
theorem gNoRt (hp : (gPk h).2 = 0) {t : Nat} (ht : t < 40) (hw : gWt h t = true) : gRt h t = false := by
  have b1 := gFb_no (gNo hp (r := 1) (by decide) (by decide)) t ht hw
  unfold gBy at b1
  rw [if_pos rfl] at b1
  exact b1
theorem iK_fn (I : mI h T s) (hp : (gPk h).2 = 0) : iK (gFn h s) := by
  have K := I.2.2.2.2.2.2.2.2
  have th : ∀ t, t < 40 → gTh h t = true → ¬ gWt h t = true → gTh (gFn h s) t = true := by
    intro t ht a b
    unfold gTh at a ⊢
    rw [gFn_o h s (by decide), gDr_0 h _ (Or.inl rfl), if_neg b]; exact a
  have v6 : ∀ j, gFn h s 6 j = if gWt h (j / 4) = true then 0 else h 6 j := fun j => by rw [gFn_o h s (by decide), gDr_6]
  have v7 : ∀ j, gFn h s 7 j = h 7 j := fun j => by rw [gFn_o h s (by decide), gDr_o h _ (by decide)]
  have at' : ∀ (W : Nat → Bool) x, (x ≤ 40 ∧ ∀ t, x = t + 1 → W t = true) → ∀ t, x = t + 1 → t < 40 := fun W x a t e => by omega
  refine ⟨⟨fun j hj => ?_, fun j hj => ?_⟩, fun t ht z k hk => ?_⟩
  · rw [v6]
    by_cases w : gWt h (j / 4) = true
    · rw [if_pos w]; exact ⟨Nat.zero_le _, fun t e => absurd e (by omega)⟩
    · rw [if_neg w]
      have m := K.1.1 j hj
      refine ⟨m.1, fun t e => th t (at' _ _ m t e) (m.2 t e) (fun q => w ?_)⟩
      refine gNoLk hp K (by omega) (at' _ _ m t e) q ((gLk_iff h _ t).mpr ⟨j % 4, by omega, ?_⟩)
      rw [show 4 * (j / 4) + j % 4 = j by omega]; exact e
  · rw [v7]
    have m := K.1.2 j hj
    refine ⟨m.1, fun t e => th t (at' _ _ m t e) (m.2 t e) (fun q => ?_)⟩
    have := gNoRt hp (at' _ _ m t e) q
    rw [(gRt_iff h t).mpr ⟨j, hj, e⟩] at this
    exact absurd this (by decide)
  · rw [v6, show (4 * t + k) / 4 = t by omega]
    rw [gFn_o h s (by decide), gDr_0 h _ (Or.inl rfl)] at z
    by_cases w : gWt h t = true
    · rw [if_pos w]
    · rw [if_neg w] at z ⊢
      exact K.2 t ht z k hk
theorem gSp_fn (I : mI h T s) (hp : (gPk h).2 = 0) : gSp (gFn h s) T := by
  have K := iK_fn I hp
  obtain ⟨p1, p2, p3⟩ := gPc_ok I
  have th := fun u (hu : u < 40) (p : 0 < gFn h s 0 u) => (gFn_th I hu).mp p
  obtain ⟨iA, iB, iC, iD, iE, iF, iG, iH, iK⟩ := id I
  refine ⟨fun w h1 h2 => ?_, fun u hu p => ?_, fun u hu p c hc hn => ?_, fun u hu p q hq => ?_, fun a b ha hb pa pb e1 e2 e3 => ?_, fun t ht => ?_, K⟩
  · rcases iF w h1 h2 with ⟨u, z, e⟩ | e
    · obtain ⟨a, b, -, -⟩ := gFn_Z I z
      exact ⟨u, z.1, a, b.trans e⟩
    · obtain ⟨t, ht, -, z⟩ := iG.2.2.2 (by omega)
      obtain ⟨-, a, b, -, -⟩ := gFn_S I ht z
      exact ⟨t, ht, a, by omega⟩
  · rcases th u hu p with z | z
    · obtain ⟨-, b, c, -⟩ := gFn_Z I z
      rw [b, c]
      refine ⟨(iB.2 u hu z.2.1).1, fun q => ?_⟩
      have : h 2 u ≠ 0 := fun y => z.2.2 ⟨q, y⟩
      omega
    · obtain ⟨hs, -, b, c, -⟩ := gFn_S I hu z
      rw [b, c]
      have := iG.1
      exact ⟨by omega, fun q => by have := p3 (by omega); omega⟩
  · rcases th u hu p with z | z
    · obtain ⟨-, b, d, -⟩ := gFn_Z I z
      rw [d] at hc
      rw [b] at hn ⊢
      obtain ⟨w, zw, e1, e2⟩ := iC u z c hc hn
      obtain ⟨a', b', c', -⟩ := gFn_Z I zw
      exact ⟨w, zw.1, a', b'.trans e1, c'.trans e2⟩
    · obtain ⟨hs, -, b, d, -⟩ := gFn_S I hu z
      rw [d] at hc
      rw [b] at hn ⊢
      obtain ⟨x, zx, e1, e2⟩ := p2 (by omega)
      by_cases y : c = h 2 x
      · obtain ⟨a', b', c', -⟩ := gFn_Z I zx
        exact ⟨x, zx.1, a', b'.trans e1, c'.trans y.symm⟩
      · obtain ⟨w, zw, f1, f2⟩ := iC x zx c (by omega) (by rw [e1]; exact hn)
        obtain ⟨a', b', c', -⟩ := gFn_Z I zw
        exact ⟨w, zw.1, a', b'.trans (f1.trans e1), c'.trans f2⟩
  · rcases th u hu p with z | z
    · obtain ⟨-, b, d, e⟩ := gFn_Z I z
      rw [e] at hq
      rw [b, d]
      obtain ⟨w, zw, e1, e2, e3⟩ := iD u z q hq
      obtain ⟨a', b', c', d'⟩ := gFn_Z I zw
      exact ⟨w, zw.1, a', b'.trans e1, c'.trans e2, d'.trans e3⟩
    · obtain ⟨hs, -, b, d, e⟩ := gFn_S I hu z
      rw [e] at hq
      rw [b, d]
      obtain ⟨w, hw, zw, ew⟩ := gFn_rks I _ u hu z (Nat.le_refl _) q hq
      obtain ⟨-, a', b', c', d'⟩ := gFn_S I hw zw
      exact ⟨w, hw, a', b', c', d'.trans ew⟩
  · have cross : ∀ x y, gZ h x → y < 40 → h 9 y = 1 → gFn h s 1 x = gFn h s 1 y → gFn h s 2 x = gFn h s 2 y → False := by
      intro x y zx hy zy f1 f2
      obtain ⟨-, b, c, -⟩ := gFn_Z I zx
      obtain ⟨-, -, b', c', -⟩ := gFn_S I hy zy
      have := p1 x zx (by omega)
      omega
    rcases th a ha pa with za | za
    · rcases th b hb pb with zb | zb
      · obtain ⟨-, x1, x2, x3⟩ := gFn_Z I za
        obtain ⟨-, y1, y2, y3⟩ := gFn_Z I zb
        exact iE a b ha hb za.2.1 zb.2.1 (by omega) (by omega) (by omega)
      · exact (cross a b za hb zb e1 e2).elim
    · rcases th b hb pb with zb | zb
      · exact (cross b a zb ha za e1.symm e2.symm).elim
      · obtain ⟨-, -, -, -, x⟩ := gFn_S I ha za
        obtain ⟨-, -, -, -, y⟩ := gFn_S I hb zb
        refine gFn_st I ha hb za zb ?_
        by_cases l : h 3 a < h 3 b
        · have := gFn_rk I ha za l; omega
        · by_cases l2 : h 3 b < h 3 a
          · have := gFn_rk I hb zb l2; omega
          · omega
  · have m := iA t ht
    have d : ∀ a, a = 0 ∨ a = 4 ∨ a = 5 → gFn h s a t = if gWt h t = true then 0 else h a t := fun a ha => by
      rw [gFn_o h s (by omega), gDr_0 h _ ha]
    rw [d 0 (by omega), d 4 (by omega), d 5 (by omega)]
    have n9 : gFn h s 9 t = 0 := by
      by_cases z : h 9 t = 1
      · have := (iG.2.2.1 t ht z).1
        exact (gFn_y h s ⟨this, z⟩).2.2.2
      · rw [gFn_n h s (fun q => z q.2), gDr_o h _ (by decide)]; omega
    by_cases w : gWt h t = true
    · rw [if_pos w, if_pos w, if_pos w]; exact ⟨by omega, by omega, by omega, fun _ => rfl, n9⟩
    · rw [if_neg w, if_neg w, if_neg w]; exact ⟨m.1, m.2.1, m.2.2.1, fun q => (m.2.2.2.2 q).1, n9⟩
/-- the ranks that the reference reckons -/
theorem gRk_fn (I : mI h T s) (hp : (gPk h).2 = 0) {b : Nat} (hb : b < 40) (h0 : 0 < gFn h s 0 b) : gRk (gPq (gDr h (gWt h)) s) (gFn h s 1 b) (gFn h s 2 b) b = gFn h s 3 b := by
  have S := gSp_fn I hp
  have e9 : ∀ u, gDr h (gWt h) 9 u = h 9 u := gDr_o h _ (by decide)
  have q0 : ∀ u, gPq (gDr h (gWt h)) s 0 u = gFn h s 0 u := fun u => by rw [gPq_o _ s (by decide), gFn_o h s (by decide)]
  have q3 : ∀ u, gPq (gDr h (gWt h)) s 3 u = h 3 u := fun u => by rw [gPq_o _ s (by decide), gDr_o h _ (by decide)]
  have q12 : ∀ u, gPq (gDr h (gWt h)) s 1 u = gFn h s 1 u ∧ gPq (gDr h (gWt h)) s 2 u = gFn h s 2 u := by
    intro u
    by_cases z : s ≠ 0 ∧ h 9 u = 1
    · have y := gFn_y h s z
      rw [y.1, y.2.1, gPq_1 _ s (by rw [e9]; exact z), gPq_2 _ s (by rw [e9]; exact z)]; exact ⟨rfl, rfl⟩
    · rw [gPq_n _ s (by rw [e9]; exact z), gPq_n _ s (by rw [e9]; exact z), gFn_n h s z, gFn_n h s z]; exact ⟨rfl, rfl⟩
  have A : ∀ u, gAt (gPq (gDr h (gWt h)) s) (gFn h s 1 b) (gFn h s 2 b) u = gAt (gFn h s) (gFn h s 1 b) (gFn h s 2 b) u := by
    intro u
    unfold gAt
    rw [q0, (q12 u).1, (q12 u).2]
  unfold gRk
  rcases (gFn_th I hb).mp h0 with z | z
  · obtain ⟨-, b1, b2, b3⟩ := gFn_Z I z
    rw [b3]
    -- those of its CAR ride there as before
    have same : ∀ u, u < 40 → gAt (gFn h s) (gFn h s 1 b) (gFn h s 2 b) u = true → gZ h u ∧ h 3 u = gFn h s 3 u := by
      intro u hu q
      have q := (gAt_iff _ _ _ u).mp q
      rcases (gFn_th I hu).mp q.1 with y | y
      · exact ⟨y, (gFn_Z I y).2.2.2.symm⟩
      · exfalso
        obtain ⟨-, -, c1, c2, -⟩ := gFn_S I hu y
        have := (gPc_ok I).1 b z (by omega)
        omega
    refine ct_rank (c := fun u => gFn h s 3 u) (h 3 b) _ (fun t u ht hu pt pu e => ?_) (fun t ht pt => ?_) (fun q hq => ?_)
    · rw [A] at pt pu
      have pt := (gAt_iff _ _ _ t).mp ((Bool.and_eq_true _ _).mp pt).1
      have pu := (gAt_iff _ _ _ u).mp ((Bool.and_eq_true _ _).mp pu).1
      exact S.2.2.2.2.1 t u ht hu pt.1 pu.1 (by omega) (by omega) e
    · rw [A, q3, q3] at pt
      have pt := (Bool.and_eq_true _ _).mp pt
      have := (same t ht pt.1).2
      have := of_decide_eq_true pt.2
      omega
    · obtain ⟨w, hw, w0, w1, w2, w3⟩ := S.2.2.2.1 b hb h0 q (by rw [b3]; exact hq)
      have g := (gAt_iff (gFn h s) (gFn h s 1 b) (gFn h s 2 b) w).mpr ⟨w0, w1, w2⟩
      refine ⟨w, hw, ?_, w3⟩
      rw [A, q3, q3, g, Bool.true_and]
      have := (same w hw g).2
      exact decide_eq_true (by omega)
  · obtain ⟨hs, -, b1, b2, b3⟩ := gFn_S I hb z
    rw [b3]
    refine fb_ct_cong (fun u hu => ?_)
    rw [A, q3, q3]
    have : gAt (gFn h s) (gFn h s 1 b) (gFn h s 2 b) u = decide (h 9 u = 1) := by
      unfold gAt
      rw [decide_eq_decide]
      constructor
      · rintro ⟨x, y1, y2⟩
        rcases (gFn_th I hu).mp x with y | y
        · exfalso
          obtain ⟨-, c1, c2, -⟩ := gFn_Z I y
          have := (gPc_ok I).1 u y (by omega)
          omega
        · exact y
      · intro y
        obtain ⟨-, c0, c1, c2, -⟩ := gFn_S I hu y
        exact ⟨c0, by omega, by omega⟩
    rw [this, ← Bool.decide_and]
end SX
