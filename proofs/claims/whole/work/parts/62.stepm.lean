/-- one that rides, and not in the first CAR -/
def gZ (h : GH) (u : Nat) : Prop := u < 40 ∧ 0 < h 0 u ∧ ¬ (h 1 u = 0 ∧ h 2 u = 0)
def gZ0 (h : GH) : Prop := ∃ u, gZ h u ∧ h 1 u = 0
def gLq (h : GH) (t w : Nat) : Prop := ∃ u, gZ h u ∧ u ≠ t ∧ h 1 u = w ∧ h 2 u + 1 = gNl h t w
def iA (h : GH) : Prop := ∀ t, t < 40 → h 0 t ≤ 99 ∧ h 4 t ≤ 99 ∧ h 5 t ≤ 1 ∧ h 9 t ≤ 1 ∧ (h 0 t = 0 → h 5 t = 0 ∧ h 9 t = 0)
def iB (h : GH) (T : Nat) : Prop := (1 ≤ T ∧ T ≤ 40) ∧ ∀ t, t < 40 → 0 < h 0 t → h 1 t < T ∧ (h 9 t = 1 → h 1 t = 0 ∧ h 2 t = 0 ∧ h 10 t < T) ∧ (h 1 t = 0 → h 2 t = 0 → h 3 t < 40)
def iC (h : GH) : Prop := ∀ u, gZ h u → ∀ c, c < h 2 u → ¬ (h 1 u = 0 ∧ c = 0) → ∃ w, gZ h w ∧ h 1 w = h 1 u ∧ h 2 w = c
def iD (h : GH) : Prop := ∀ u, gZ h u → ∀ p, p < h 3 u → ∃ w, gZ h w ∧ h 1 w = h 1 u ∧ h 2 w = h 2 u ∧ h 3 w = p
def iE (h : GH) : Prop := ∀ t u, t < 40 → u < 40 → 0 < h 0 t → 0 < h 0 u → h 1 t = h 1 u → h 2 t = h 2 u → h 3 t = h 3 u → t = u
def iF (h : GH) (T s : Nat) : Prop := ∀ w, 1 ≤ w → w < T → (∃ u, gZ h u ∧ h 1 u = w) ∨ s = w + 1
def iG (h : GH) (T s : Nat) : Prop := s ≤ T ∧ (s = 1 → gZ0 h) ∧ (∀ t, t < 40 → h 9 t = 1 → s ≠ 0 ∧ (h 10 t = 0 → gZ0 h)) ∧ (s ≠ 0 → ∃ t, t < 40 ∧ 0 < h 0 t ∧ h 9 t = 1)
def iH (h : GH) (T s : Nat) : Prop := (∀ t, t < 40 → gWt h t = true → gRt h t = false ∧ h 5 t = 0) ∨ s = 0 ∨ (2 ≤ T ∧ s = T)
def iK (h : GH) : Prop := gok (gTh h) h ∧ (∀ t, t < 40 → h 0 t = 0 → ∀ k, k < 4 → h 6 (4 * t + k) = 0)
def mI (h : GH) (T s : Nat) : Prop := iA h ∧ iB h T ∧ iC h ∧ iD h ∧ iE h ∧ iF h T s ∧ iG h T s ∧ iH h T s ∧ iK h
theorem gWt_iff (h : GH) (t : Nat) : gWt h t = true ↔ 0 < h 0 t ∧ h 1 t = 0 ∧ h 2 t = 0 ∧ h 9 t = 0 := by
  unfold gWt; exact decide_eq_true_iff
theorem ct_rank {c : Nat → Nat} {n : Nat} : ∀ (m : Nat) (p : Nat → Bool), (∀ t u, t < n → u < n → p t = true → p u = true → c t = c u → t = u) → (∀ t, t < n → p t = true → c t < m) → (∀ q, q < m → ∃ t, t < n ∧ p t = true ∧ c t = q) → fb_ct p n = m := by
  intro m
  induction m with
  | zero =>
    intro p _ h1 _
    exact fb_ct_zero.mpr (fun k hk => Bool.eq_false_iff.mpr (fun q => absurd (h1 k hk q) (Nat.not_lt_zero _)))
  | succ m ih =>
    intro p hi h1 h2
    obtain ⟨t, ht, hp, e⟩ := h2 m (Nat.lt_succ_self m)
    have k := ih (fun k => if k = t then false else p k) (fun a b ha hb pa pb q => by
        by_cases x : a = t
        · rw [if_pos x] at pa; exact absurd pa (by decide)
        · rw [if_neg x] at pa
          by_cases y : b = t
          · rw [if_pos y] at pb; exact absurd pb (by decide)
          · rw [if_neg y] at pb; exact hi a b ha hb pa pb q)
      (fun a ha pa => by
        by_cases x : a = t
        · rw [if_pos x] at pa; exact absurd pa (by decide)
        · rw [if_neg x] at pa
          have := h1 a ha pa
          have : c a ≠ m := fun z => x (hi a t ha ht pa hp (z.trans e.symm))
          omega)
      (fun q hq => by
        obtain ⟨a, ha, pa, ea⟩ := h2 q (by omega)
        have x : a ≠ t := fun z => by rw [z, e] at ea; omega
        exact ⟨a, ha, by rw [if_neg x]; exact pa, ea⟩)
    have u := fb_ct_upd p false (i := t) (n := n) ht
    rw [if_pos hp] at u
    simp only [Bool.false_eq_true, if_false] at u
    omega
/-- places of those with p, none wanting, none twice: as many as there are -/
theorem ct_places {p : Nat → Bool} {c : Nat → Nat} (hi : ∀ t u, t < 40 → u < 40 → p t = true → p u = true → c t = c u → t = u) (hc : ∀ t, t < 40 → p t = true → ∀ q, q < c t → ∃ u, u < 40 ∧ p u = true ∧ c u = q) :
    (∀ t, t < 40 → p t = true → c t < fb_ct p 40) ∧ ∀ q, q < fb_ct p 40 → ∃ u, u < 40 ∧ p u = true ∧ c u = q := by
  have h2 : ∀ q, q < bmx p c 40 → ∃ u, u < 40 ∧ p u = true ∧ c u = q := by
    intro q hq
    obtain ⟨t, ht, hp, e⟩ := bmx_at (p := p) (c := c) (n := 40) (by omega)
    by_cases z : q = c t
    · exact ⟨t, ht, hp, z.symm⟩
    · exact hc t ht hp q (by omega)
  have e := ct_rank (bmx p c 40) p hi (fun t ht hp => bmx_lt ht hp) h2
  rw [e]
  exact ⟨fun t ht hp => bmx_lt ht hp, h2⟩
theorem ct_inj {P : Nat → Nat → Prop} {n : Nat} (h1 : ∀ c, c < n → ∃ u, u < 40 ∧ P u c) (h2 : ∀ u c d, P u c → P u d → c = d) : n ≤ 40 := by
  have : ∀ c, ∃ u, c < n → u < 40 ∧ P u c := fun c => by
    by_cases hc : c < n
    · obtain ⟨u, a, b⟩ := h1 c hc; exact ⟨u, fun _ => ⟨a, b⟩⟩
    · exact ⟨0, fun z => absurd z hc⟩
  obtain ⟨f, hf⟩ := Classical.axiomOfChoice this
  refine fb_holes 40 n f (fun i hi => (hf i hi).1) (fun i j hij hj e => ?_)
  have a := (hf i (by omega)).2
  have b := (hf j hj).2
  rw [e] at a
  have := h2 _ _ _ a b
  omega
section MI
variable {h : GH} {T s : Nat}
theorem mI_car (I : mI h T s) {u : Nat} (hu : u < 40) (h0 : 0 < h 0 u) : h 2 u ≤ 40 := by
  by_cases z : h 1 u = 0 ∧ h 2 u = 0
  · omega
  · have hz : gZ h u := ⟨hu, h0, z⟩
    refine ct_inj (P := fun w c => (h 2 w = c + 1 ∨ (w = u ∧ c + 1 = h 2 u)) ∧ h 2 w = c + 1) (n := h 2 u) (fun c hc => ?_) (fun w c d a b => by have := a.2; have := b.2; omega)
    by_cases e : c + 1 = h 2 u
    · exact ⟨u, hu, Or.inl e.symm, e.symm⟩
    · obtain ⟨w, a, _, b⟩ := I.2.2.1 u hz (c + 1) (by omega) (by omega)
      exact ⟨w, a.1, Or.inl b, b⟩
theorem mI_place (I : mI h T s) {u : Nat} (hu : u < 40) (h0 : 0 < h 0 u) : h 3 u < 40 := by
  by_cases z : h 1 u = 0 ∧ h 2 u = 0
  · exact ((I.2.1.2 u hu h0).2.2 z.1 z.2)
  · have hz : gZ h u := ⟨hu, h0, z⟩
    have := ct_inj (P := fun w c => h 3 w = c) (n := h 3 u + 1) (fun c hc => by
      by_cases e : c = h 3 u
      · exact ⟨u, hu, e.symm⟩
      · obtain ⟨w, a, _, _, b⟩ := I.2.2.2.1 u hz c (by omega)
        exact ⟨w, a.1, b⟩) (fun w c d a b => a.symm.trans b)
    omega
/-- the CARS of a TRAIN ahead of one that comes -/
theorem mI_nl (I : mI h T s) {t w : Nat} (ht : t < 40) (hw : gWt h t = true) (h0 : w = 0 → gZ0 h) :
    (∀ u, u < 40 → 0 < h 0 u → u ≠ t → h 1 u = w → h 2 u < gNl h t w) ∧ (0 < gNl h t w → gLq h t w) ∧ (w = 0 → 2 ≤ gNl h t w) ∧ gNl h t w ≤ 41 := by
  have t1 := (gWt_iff h t).mp hw
  have a1 : ∀ u, u < 40 → 0 < h 0 u → u ≠ t → h 1 u = w → h 2 u < gNl h t w := fun u hu p q r => bmx_lt (p := fun u => decide (0 < h 0 u ∧ u ≠ t ∧ h 1 u = w)) hu (decide_eq_true ⟨p, q, r⟩)
  have a3 : w = 0 → 2 ≤ gNl h t w := by
    intro e
    obtain ⟨u, z, q⟩ := h0 e
    have : h 2 u ≠ 0 := fun y => z.2.2 ⟨q, y⟩
    have := a1 u z.1 z.2.1 (fun y => by subst y; exact z.2.2 ⟨t1.2.1, t1.2.2.1⟩) (q.trans e.symm)
    omega
  refine ⟨a1, fun hp => ?_, a3, ?_⟩
  · obtain ⟨u, hu, p, e⟩ := bmx_at (p := fun u => decide (0 < h 0 u ∧ u ≠ t ∧ h 1 u = w)) (c := h 2) (n := 40) hp
    have p := of_decide_eq_true p
    refine ⟨u, ⟨hu, p.1, fun z => ?_⟩, p.2.1, p.2.2, e⟩
    have := a3 (p.2.2.symm.trans z.1)
    have e : h 2 u + 1 = gNl h t w := e
    omega
  · refine bmx_le (fun u hu p => ?_)
    have := mI_car I hu (of_decide_eq_true p).1
    omega
/-- those of the last CAR have the places from 0 on -/
theorem mI_ld (I : mI h T s) {t w : Nat} (ht : t < 40) (hw : gWt h t = true) (h0 : w = 0 → gZ0 h) :
    (∀ u, u < 40 → gLd h t w u = true → gZ h u ∧ h 1 u = w ∧ h 2 u + 1 = gNl h t w ∧ h 3 u < fb_ct (gLd h t w) 40) ∧ ∀ q, q < fb_ct (gLd h t w) 40 → ∃ u, gZ h u ∧ h 1 u = w ∧ h 2 u + 1 = gNl h t w ∧ h 3 u = q := by
  have t1 := (gWt_iff h t).mp hw
  obtain ⟨n1, n2, n3, n4⟩ := mI_nl I ht hw h0
  have L : ∀ u, gLd h t w u = true ↔ 0 < h 0 u ∧ u ≠ t ∧ h 1 u = w ∧ h 2 u + 1 = gNl h t w := fun u => decide_eq_true_iff
  have Z : ∀ u, u < 40 → gLd h t w u = true → gZ h u := by
    intro u hu p
    have p := (L u).mp p
    refine ⟨hu, p.1, fun z => ?_⟩
    have := n3 (p.2.2.1.symm.trans z.1)
    omega
  have K := ct_places (p := gLd h t w) (c := h 3) (fun a b ha hb pa pb e => by
      have pa := (L a).mp pa
      have pb := (L b).mp pb
      exact I.2.2.2.2.1 a b ha hb pa.1 pb.1 (by omega) (by omega) e)
    (fun a ha pa q hq => by
      have pa' := (L a).mp pa
      obtain ⟨b, z, e1, e2, e3⟩ := I.2.2.2.1 a (Z a ha pa) q hq
      refine ⟨b, z.1, (L b).mpr ⟨z.2.1, fun y => ?_, by omega, by omega⟩, e3⟩
      subst y
      exact z.2.2 ⟨t1.2.1, t1.2.2.1⟩)
  refine ⟨fun u hu p => ⟨Z u hu p, ((L u).mp p).2.2.1, ((L u).mp p).2.2.2, K.1 u hu p⟩, fun q hq => ?_⟩
  obtain ⟨u, hu, p, e⟩ := K.2 q hq
  exact ⟨u, Z u hu p, ((L u).mp p).2.2.1, ((L u).mp p).2.2.2, e⟩
end MI
theorem gLk_cong {h k : GH} (e : ∀ j, h 6 j = k 6 j) (u t : Nat) : gLk h u t = gLk k u t := by
  unfold gLk
  exact bex_cong (fun r _ _ => by rw [e])
theorem gRt_cong {h k : GH} (e : ∀ j, h 7 j = k 7 j) (t : Nat) : gRt h t = gRt k t := by
  unfold gRt
  exact bex_cong (fun r _ _ => by rw [e])
theorem iK_of {h k : GH} (I : iK h) (e0 : ∀ t, k 0 t = h 0 t) (e6 : ∀ j, k 6 j = h 6 j) (e7 : ∀ j, k 7 j = h 7 j) : iK k := by
  have eW : gTh k = gTh h := funext (fun t => by unfold gTh; rw [e0])
  refine ⟨⟨fun j hj => ?_, fun j hj => ?_⟩, fun t ht z r hr => ?_⟩
  · rw [e6, eW]; exact I.1.1 j hj
  · rw [e7, eW]; exact I.1.2 j hj
  · rw [e6]; exact I.2 t ht (by rw [← e0]; exact z) r hr
