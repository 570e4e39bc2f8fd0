/-- how things ride ahead of the end of a STEP: the first CAR of the first TRAIN, or that TRAIN, is empty -/
def gSp (G : GH) (T : Nat) : Prop :=
  (∀ w, 1 ≤ w → w < T → ∃ u, u < 40 ∧ 0 < G 0 u ∧ G 1 u = w) ∧
  (∀ u, u < 40 → 0 < G 0 u → G 1 u < T ∧ (G 1 u = 0 → 1 ≤ G 2 u)) ∧
  (∀ u, u < 40 → 0 < G 0 u → ∀ c, c < G 2 u → ¬ (G 1 u = 0 ∧ c = 0) → ∃ w, w < 40 ∧ 0 < G 0 w ∧ G 1 w = G 1 u ∧ G 2 w = c) ∧
  (∀ u, u < 40 → 0 < G 0 u → ∀ p, p < G 3 u → ∃ w, w < 40 ∧ 0 < G 0 w ∧ G 1 w = G 1 u ∧ G 2 w = G 2 u ∧ G 3 w = p) ∧
  (∀ t u, t < 40 → u < 40 → 0 < G 0 t → 0 < G 0 u → G 1 t = G 1 u → G 2 t = G 2 u → G 3 t = G 3 u → t = u) ∧
  (∀ t, t < 40 → G 0 t ≤ 99 ∧ G 4 t ≤ 99 ∧ G 5 t ≤ 1 ∧ (G 0 t = 0 → G 5 t = 0) ∧ G 9 t = 0) ∧ iK G
def gE0 (G : GH) : Bool := bex (fun t => decide (0 < G 0 t ∧ G 1 t = 0)) 40 0
theorem gE0_iff (G : GH) : gE0 G = true ↔ ∃ t, t < 40 ∧ 0 < G 0 t ∧ G 1 t = 0 := by
  unfold gE0
  rw [bexI]
  exact ⟨fun ⟨t, a, b⟩ => ⟨t, a, of_decide_eq_true b⟩, fun ⟨t, a, b⟩ => ⟨t, a, decide_eq_true b⟩⟩
theorem gSh_y {G : GH} (e : gE0 G = true) (a b : Nat) : gSh G a b = if a = 2 ∧ G 1 b = 0 then G 2 b - 1 else G a b := by
  unfold gSh; unfold gE0 at e; rw [if_pos e]
theorem gSh_n {G : GH} (e : ¬ gE0 G = true) (a b : Nat) : gSh G a b = if a = 1 then G 1 b - 1 else G a b := by
  unfold gSh; unfold gE0 at e; rw [if_neg e]
theorem gSh_o (G : GH) {a : Nat} (h : a ≠ 1 ∧ a ≠ 2) (b : Nat) : gSh G a b = G a b := by
  by_cases e : gE0 G = true
  · rw [gSh_y e, if_neg (fun q => h.2 q.1)]
  · rw [gSh_n e, if_neg h.1]
theorem gW_sh {G : GH} {T : Nat} (S : gSp G T) : gW (gSh G) := by
  obtain ⟨s1, s2, s3, s4, s5, s6, s7⟩ := S
  have o : ∀ {a : Nat}, (a ≠ 1 ∧ a ≠ 2) → ∀ b, gSh G a b = G a b := fun e b => gSh_o G e b
  have o0 := o (a := 0) (by decide)
  have o3 := o (a := 3) (by decide)
  have K := iK_of s7 o0 (o (by decide)) (o (by decide))
  refine ⟨fun t ht => by rw [o0, o (a := 4) (by decide), o (a := 5) (by decide), o (a := 9) (by decide)]; exact s6 t ht, ?_, ?_, ?_, ?_, K.1, K.2⟩
  · intro t ht p w hw
    rw [o0] at p
    by_cases e : gE0 G = true
    · rw [gSh_y e, if_neg (fun q => absurd q.1 (by decide))] at hw
      by_cases z : w = 0
      · obtain ⟨u, a, b, c⟩ := (gE0_iff G).mp e
        exact ⟨u, a, by rw [o0]; exact b, by rw [gSh_y e, if_neg (fun q => absurd q.1 (by decide)), c, z]⟩
      · obtain ⟨u, a, b, c⟩ := s1 w (by omega) (by have := (s2 t ht p).1; omega)
        exact ⟨u, a, by rw [o0]; exact b, by rw [gSh_y e, if_neg (fun q => absurd q.1 (by decide)), c]⟩
    · rw [gSh_n e, if_pos rfl] at hw
      obtain ⟨u, a, b, c⟩ := s1 (w + 1) (by omega) (by have := (s2 t ht p).1; omega)
      exact ⟨u, a, by rw [o0]; exact b, by rw [gSh_n e, if_pos rfl, c]; omega⟩
  · intro t ht p c hc
    rw [o0] at p
    by_cases e : gE0 G = true
    · have v1 : ∀ u, gSh G 1 u = G 1 u := fun u => by rw [gSh_y e, if_neg (fun q => absurd q.1 (by decide))]
      rw [v1]
      by_cases z : G 1 t = 0
      · rw [gSh_y e, if_pos ⟨rfl, z⟩] at hc
        obtain ⟨u, a, b, x, y⟩ := s3 t ht p (c + 1) (by omega) (by omega)
        exact ⟨u, a, by rw [o0]; exact b, by rw [v1]; exact x, by rw [gSh_y e, if_pos ⟨rfl, x.trans z⟩, y]; omega⟩
      · rw [gSh_y e, if_neg (fun q => z q.2)] at hc
        obtain ⟨u, a, b, x, y⟩ := s3 t ht p c hc (fun q => z q.1)
        exact ⟨u, a, by rw [o0]; exact b, by rw [v1]; exact x, by rw [gSh_y e, if_neg (fun q => z (x.symm.trans q.2)), y]⟩
    · have z : G 1 t ≠ 0 := fun z => e ((gE0_iff G).mpr ⟨t, ht, p, z⟩)
      have v2 : ∀ u, gSh G 2 u = G 2 u := fun u => by rw [gSh_n e, if_neg (by decide)]
      rw [v2] at hc
      obtain ⟨u, a, b, x, y⟩ := s3 t ht p c hc (fun q => z q.1)
      exact ⟨u, a, by rw [o0]; exact b, by rw [gSh_n e, gSh_n e, if_pos rfl, if_pos rfl, x], by rw [v2]; exact y⟩
  · intro t ht p q hq
    rw [o0] at p
    rw [o3] at hq
    obtain ⟨u, a, b, x, y, z⟩ := s4 t ht p q hq
    refine ⟨u, a, by rw [o0]; exact b, ?_, ?_, by rw [o3]; exact z⟩
    · by_cases e : gE0 G = true
      · rw [gSh_y e, gSh_y e, if_neg (fun q => absurd q.1 (by decide)), if_neg (fun q => absurd q.1 (by decide))]; exact x
      · rw [gSh_n e, gSh_n e, if_pos rfl, if_pos rfl, x]
    · by_cases e : gE0 G = true
      · rw [gSh_y e, gSh_y e, x, y]
      · rw [gSh_n e, gSh_n e, if_neg (by decide), if_neg (by decide), y]
  · intro t u ht hu pt pu e1 e2 e3
    rw [o0] at pt pu
    rw [o3, o3] at e3
    have a := s2 t ht pt
    have b := s2 u hu pu
    by_cases e : gE0 G = true
    · rw [gSh_y e, gSh_y e, if_neg (fun q => absurd q.1 (by decide)), if_neg (fun q => absurd q.1 (by decide))] at e1
      rw [gSh_y e, gSh_y e] at e2
      refine s5 t u ht hu pt pu e1 ?_ e3
      by_cases z : G 1 t = 0
      · rw [if_pos ⟨rfl, z⟩, if_pos ⟨rfl, e1.symm.trans z⟩] at e2
        have := a.2 z
        have := b.2 (e1.symm.trans z)
        omega
      · rw [if_neg (fun q => z q.2), if_neg (fun q => z (e1.trans q.2))] at e2
        exact e2
    · rw [gSh_n e, gSh_n e, if_pos rfl, if_pos rfl] at e1
      rw [gSh_n e, gSh_n e, if_neg (by decide), if_neg (by decide)] at e2
      have z : G 1 t ≠ 0 := fun z => e ((gE0_iff G).mpr ⟨t, ht, pt, z⟩)
      have z2 : G 1 u ≠ 0 := fun z => e ((gE0_iff G).mpr ⟨u, hu, pu, z⟩)
      exact s5 t u ht hu pt pu (by omega) e2 e3
theorem fb_ct_but0 {p : Nat → Bool} (e0 : p 0 = false) : ∀ {n : Nat}, (∀ k, 1 ≤ k → k < n → p k = true) → fb_ct p n = n - 1 := by
  intro n
  induction n with
  | zero => intro _; rfl
  | succ n ih =>
    intro h
    rw [fb_ct_succ, ih (fun k a b => h k a (by omega))]
    by_cases z : n = 0
    · subst z; rw [e0]; rfl
    · rw [if_pos (h n (by omega) (by omega))]; omega
/-- closing the ranks is that shift -/
theorem cl_sh {G Q : GH} {T : Nat} (S : gSp G T) (e0 : ∀ b, Q 0 b = G 0 b) (e1 : ∀ b, Q 1 b = G 1 b) (e2 : ∀ b, Q 2 b = G 2 b) (e3 : ∀ b, b < 40 → 0 < G 0 b → gRk Q (G 1 b) (G 2 b) b = G 3 b) {b : Nat} (hb : b < 40) (h0 : 0 < G 0 b) :
    gCl Q (gTr Q) 0 1 b = gSh G 1 b ∧ gCl Q (gTr Q) 0 2 b = gSh G 2 b ∧ gCl Q (gTr Q) 0 3 b = gSh G 3 b := by
  obtain ⟨s1, s2, s3, s4, s5, s6, s7⟩ := S
  have y : 0 < Q 0 b ∧ (Q 1 b < gTr Q ∨ (Q 1 b = gTr Q ∧ Q 2 b < 0)) := by
    have := gTr_lt (k := Q) hb (by rw [e0]; exact h0)
    rw [e0]
    exact ⟨h0, Or.inl this⟩
  have eE : gET Q = gET G := by funext o; unfold gET; simp only [e0, e1]
  have eC : ∀ o, gEC Q o = gEC G o := by intro o; funext c; unfold gEC gAt; simp only [e0, e1, e2]
  have eZ : gET G 0 = gE0 G := rfl
  have tr : ∀ w, w < T → fb_ct (gET G) w = if gE0 G = true then w else w - 1 := by
    intro w hw
    have all : ∀ k, 1 ≤ k → k < w → gET G k = true := fun k a c => (gET_iff G k).mpr (s1 k a (by omega))
    by_cases e : gE0 G = true
    · rw [if_pos e]
      exact fb_ct_all.mpr (fun k hk => by
        by_cases z : k = 0
        · subst z; exact e
        · exact all k (by omega) hk)
    · rw [if_neg e]
      exact fb_ct_but0 (p := gET G) (Bool.eq_false_iff.mpr e) all
  have car : fb_ct (gEC G (G 1 b)) (G 2 b) = if G 1 b = 0 then G 2 b - 1 else G 2 b := by
    have all : ∀ k, k < G 2 b → ¬ (G 1 b = 0 ∧ k = 0) → gEC G (G 1 b) k = true := fun k a c => by
      obtain ⟨w, x⟩ := s3 b hb h0 k a c
      exact (gEC_iff G _ _).mpr ⟨w, x⟩
    by_cases z : G 1 b = 0
    · rw [if_pos z]
      refine fb_ct_but0 (Bool.eq_false_iff.mpr (fun q => ?_)) (fun k a c => all k c (fun q => by omega))
      obtain ⟨w, a, c, d, f⟩ := (gEC_iff G _ _).mp q
      have := (s2 w a c).2 (d.trans z)
      omega
    · rw [if_neg z]
      exact fb_ct_all.mpr (fun k hk => all k hk (fun q => z q.1))
  have l := (s2 b hb h0).1
  refine ⟨?_, ?_, ?_⟩
  · rw [gCl_y y, if_pos rfl, eE, e1, tr _ l]
    by_cases e : gE0 G = true
    · rw [if_pos e, gSh_y e, if_neg (fun q => absurd q.1 (by decide))]
    · rw [if_neg e, gSh_n e, if_pos rfl]
  · rw [gCl_y y, if_neg (by decide), if_pos rfl, e1, eC, e2, car]
    by_cases e : gE0 G = true
    · rw [gSh_y e]
      by_cases z : G 1 b = 0
      · rw [if_pos z, if_pos ⟨rfl, z⟩]
      · rw [if_neg z, if_neg (fun q => z q.2)]
    · have z : G 1 b ≠ 0 := fun z => e ((gE0_iff G).mpr ⟨b, hb, h0, z⟩)
      rw [if_neg z, gSh_n e, if_neg (by decide)]
  · rw [gCl_y y, if_neg (by decide), if_neg (by decide), if_pos rfl, e1, e2, e3 b hb h0, gSh_o G (by decide)]
section SH
variable {h : GH} {T s : Nat}
theorem gD_th (I : mI h T s) {u : Nat} (hu : u < 40) : 0 < gDr h (gWt h) 0 u ↔ (gZ h u ∨ h 9 u = 1) := by
  rw [gDr_0 h _ (Or.inl rfl)]
  have a := I.1 u hu
  by_cases w : gWt h u = true
  · rw [if_pos w]
    have w := (gWt_iff h u).mp w
    refine ⟨fun q => absurd q (Nat.lt_irrefl 0), fun q => ?_⟩
    rcases q with q | q
    · exact absurd ⟨w.2.1, w.2.2.1⟩ q.2.2
    · omega
  · rw [if_neg w]
    constructor
    · intro p
      by_cases z : h 9 u = 1
      · exact Or.inr z
      · refine Or.inl ⟨hu, p, fun q => w ((gWt_iff h u).mpr ⟨p, q.1, q.2, by omega⟩)⟩
    · rintro (q | q)
      · exact q.2.1
      · by_cases z : h 0 u = 0
        · have := (a.2.2.2.2 z).2; omega
        · omega
theorem gZ_9 (I : mI h T s) {u : Nat} (z : gZ h u) : h 9 u ≠ 1 := fun q => by
  have := (I.2.1.2 u z.1 z.2.1).2.1 q
  exact z.2.2 ⟨this.1, this.2.1⟩
theorem gPc_ok (I : mI h T s) : (∀ u, gZ h u → h 1 u = s - 1 → h 2 u < gPc (gDr h (gWt h)) s) ∧ (0 < gPc (gDr h (gWt h)) s → ∃ u, gZ h u ∧ h 1 u = s - 1 ∧ h 2 u + 1 = gPc (gDr h (gWt h)) s) ∧ (s = 1 → 2 ≤ gPc (gDr h (gWt h)) s) := by
  have e9 : ∀ u, gDr h (gWt h) 9 u = h 9 u := gDr_o h _ (by decide)
  have e1 : ∀ u, gDr h (gWt h) 1 u = h 1 u := gDr_o h _ (by decide)
  have e2 : ∀ u, gDr h (gWt h) 2 u = h 2 u := gDr_o h _ (by decide)
  have a1 : ∀ u, gZ h u → h 1 u = s - 1 → h 2 u < gPc (gDr h (gWt h)) s := by
    intro u z q
    have := bmx_lt (p := fun t => decide (0 < gDr h (gWt h) 0 t ∧ gDr h (gWt h) 9 t ≠ 1 ∧ gDr h (gWt h) 1 t = s - 1)) (c := gDr h (gWt h) 2) z.1 (decide_eq_true ⟨(gD_th I z.1).mpr (Or.inl z), by rw [e9]; exact gZ_9 I z, by rw [e1]; exact q⟩)
    rw [e2] at this
    exact this
  refine ⟨a1, fun p => ?_, fun q => ?_⟩
  · obtain ⟨u, hu, x, y⟩ := bmx_at (p := fun t => decide (0 < gDr h (gWt h) 0 t ∧ gDr h (gWt h) 9 t ≠ 1 ∧ gDr h (gWt h) 1 t = s - 1)) (c := gDr h (gWt h) 2) (n := 40) p
    have x := of_decide_eq_true x
    rw [e9, e1] at x
    rw [e2] at y
    exact ⟨u, ((gD_th I hu).mp x.1).resolve_right x.2.1, x.2.2, y⟩
  · obtain ⟨u, z, y⟩ := I.2.2.2.2.2.2.1.2.1 q
    have := a1 u z (by omega)
    have : h 2 u ≠ 0 := fun x => z.2.2 ⟨y, x⟩
    omega
end SH
