/-- those of the first TRAIN -/
def gF1 (g : GH) (t : Nat) : Bool := decide (0 < g 0 t ∧ g 1 t = 0)
theorem gSp_ft {g : GH} (W : gW g) (hw : gWant g = false) : gSp (gDr g (gF1 g)) (gTr g) ∧ ∀ b, b < 40 → 0 < gDr g (gF1 g) 0 b → gRk (gDr g (gF1 g)) (gDr g (gF1 g) 1 b) (gDr g (gF1 g) 2 b) b = gDr g (gF1 g) 3 b := by
  obtain ⟨w1, w2, w3, w4, w5, w6, w7⟩ := id W
  have v1 : ∀ u, gDr g (gF1 g) 1 u = g 1 u := gDr_o g _ (by decide)
  have v2 : ∀ u, gDr g (gF1 g) 2 u = g 2 u := gDr_o g _ (by decide)
  have v3 : ∀ u, gDr g (gF1 g) 3 u = g 3 u := gDr_o g _ (by decide)
  have th : ∀ u, 0 < gDr g (gF1 g) 0 u ↔ (0 < g 0 u ∧ g 1 u ≠ 0) := by
    intro u
    rw [gDr_0 g _ (Or.inl rfl)]
    by_cases z : gF1 g u = true
    · rw [if_pos z]
      have := of_decide_eq_true z
      exact ⟨fun q => absurd q (Nat.lt_irrefl 0), fun q => absurd this.2 q.2⟩
    · rw [if_neg z]
      exact ⟨fun q => ⟨q, fun y => z (decide_eq_true ⟨q, y⟩)⟩, fun q => q.1⟩
  have out : ∀ t, t < 40 → gF1 g t = true → gOut g t = false := by
    intro t ht z
    have z := of_decide_eq_true z
    by_cases y : gOut g t = true
    · have : gWant g = true := (bexI _ 40).mpr ⟨t, ht, decide_eq_true ⟨z.1, z.2, y⟩⟩
      rw [hw] at this; exact absurd this (by decide)
    · exact Bool.eq_false_iff.mpr y
  have lk : ∀ u t, u < 40 → t < 40 → gF1 g t = true → gLk g u t = true → gF1 g u = true := by
    intro u t hu ht z e
    have u0 : 0 < g 0 u := by
      by_cases y : g 0 u = 0
      · obtain ⟨k, hk, q⟩ := (gLk_iff g u t).mp e
        rw [w7 u hu y k hk] at q; omega
      · omega
    have o := out t ht z
    unfold gOut at o
    have o := ((Bool.or_eq_false_iff).mp o).2
    have c0 : gCb g t = 0 := Decidable.byContradiction (fun q => absurd q (of_decide_eq_false o))
    have n0 : gTn g u = 0 := by
      by_cases y : gTn g u = 0
      · exact y
      · have := (bcl_le (q := fun u => decide (0 < g 0 u ∧ gLk g u t = true)) (T := gTn g) hu (decide_eq_true ⟨u0, e⟩) y).1
        exact absurd c0 this
    unfold gTn at n0
    rw [if_neg (by have := (w1 u hu).2.2.2.2; omega)] at n0
    exact decide_eq_true ⟨u0, n0⟩
  have thW : ∀ t, t < 40 → gTh g t = true → ¬ gF1 g t = true → gTh (gDr g (gF1 g)) t = true := by
    intro t ht a c
    unfold gTh at a ⊢
    rw [gDr_0 g _ (Or.inl rfl), if_neg c]; exact a
  have S : gSp (gDr g (gF1 g)) (gTr g) := by
    refine ⟨fun w h1 h2 => ?_, fun u hu p => ?_, fun u hu p c hc hn => ?_, fun u hu p q hq => ?_, fun t u ht hu pt pu e1 e2 e3 => ?_, fun t ht => ?_, ⟨⟨fun j hj => ?_, fun j hj => ?_⟩, fun t ht z k hk => ?_⟩⟩
    · obtain ⟨u, a, c, e⟩ := gTr_ex W h2
      exact ⟨u, a, (th u).mpr ⟨c, by omega⟩, by rw [v1]; exact e⟩
    · have p := (th u).mp p
      rw [v1]
      exact ⟨gTr_lt hu p.1, fun q => absurd q p.2⟩
    · have p := (th u).mp p
      rw [v2] at hc
      rw [v1]
      obtain ⟨w, a, c', e1, e2⟩ := w3 u hu p.1 c hc
      exact ⟨w, a, (th w).mpr ⟨c', by rw [e1]; exact p.2⟩, by rw [v1]; exact e1, by rw [v2]; exact e2⟩
    · have p := (th u).mp p
      rw [v3] at hq
      rw [v1, v2]
      obtain ⟨w, a, c', e1, e2, e3⟩ := w4 u hu p.1 q hq
      exact ⟨w, a, (th w).mpr ⟨c', by rw [e1]; exact p.2⟩, by rw [v1]; exact e1, by rw [v2]; exact e2, by rw [v3]; exact e3⟩
    · rw [v1, v1] at e1
      rw [v2, v2] at e2
      rw [v3, v3] at e3
      exact w5 t u ht hu ((th t).mp pt).1 ((th u).mp pu).1 e1 e2 e3
    · have m := w1 t ht
      rw [gDr_o g _ (a := 9) (by decide), gDr_0 g _ (a := 0) (by decide), gDr_0 g _ (a := 4) (by decide), gDr_0 g _ (a := 5) (by decide)]
      by_cases z : gF1 g t = true
      · rw [if_pos z, if_pos z, if_pos z]; exact ⟨by omega, by omega, by omega, fun _ => rfl, m.2.2.2.2⟩
      · rw [if_neg z, if_neg z, if_neg z]; exact m
    · rw [gDr_6]
      by_cases z : gF1 g (j / 4) = true
      · rw [if_pos z]; exact ⟨Nat.zero_le _, fun t e => absurd e (by omega)⟩
      · rw [if_neg z]
        have m := w6.1 j hj
        refine ⟨m.1, fun t e => thW t (by omega) (m.2 t e) (fun q => z ?_)⟩
        refine lk (j / 4) t (by omega) (by omega) q ((gLk_iff g _ t).mpr ⟨j % 4, by omega, ?_⟩)
        rw [show 4 * (j / 4) + j % 4 = j by omega]; exact e
    · rw [gDr_o g _ (by decide)]
      have m := w6.2 j hj
      refine ⟨m.1, fun t e => thW t (by omega) (m.2 t e) (fun q => ?_)⟩
      have o := out t (by omega) q
      unfold gOut at o
      rw [(gRt_iff g t).mpr ⟨j, hj, e⟩] at o
      exact absurd o (by simp)
    · rw [gDr_0 g _ (Or.inl rfl)] at z
      rw [gDr_6, show (4 * t + k) / 4 = t by omega]
      by_cases y : gF1 g t = true
      · rw [if_pos y]
      · rw [if_neg y] at z ⊢
        exact w7 t ht z k hk
  refine ⟨S, fun b hb p => ?_⟩
  obtain ⟨s1, s2, s3, s4, s5, s6, s7⟩ := S
  unfold gRk
  refine ct_rank (c := fun u => gDr g (gF1 g) 3 u) _ _ (fun t u ht hu pt pu e => ?_) (fun t ht pt => ?_) (fun q hq => ?_)
  · have pt := (gAt_iff _ _ _ t).mp ((Bool.and_eq_true _ _).mp pt).1
    have pu := (gAt_iff _ _ _ u).mp ((Bool.and_eq_true _ _).mp pu).1
    exact s5 t u ht hu pt.1 pu.1 (by omega) (by omega) e
  · exact of_decide_eq_true ((Bool.and_eq_true _ _).mp pt).2
  · obtain ⟨w, a, c, e1, e2, e3⟩ := s4 b hb p q hq
    refine ⟨w, a, (Bool.and_eq_true _ _).mpr ⟨(gAt_iff _ _ _ w).mpr ⟨c, e1, e2⟩, decide_eq_true ?_⟩, e3⟩
    have e3 : gDr g (gF1 g) 3 w = q := e3
    omega
theorem gSp_N {G : GH} {T : Nat} (S : gSp G T) (hT : T ≤ 40) : iN G := by
  obtain ⟨s1, s2, s3, s4, s5, s6, s7⟩ := S
  refine ⟨fun t ht => by have := s6 t ht; omega, fun t ht p => ⟨by have := (s2 t ht p).1; omega, ?_, ?_, fun q => ?_⟩, s7.1⟩
  · have : G 2 t ≤ 40 := by
      by_cases z : G 1 t = 0
      · refine ct_inj (P := fun w c => G 2 w = c + 1) (n := G 2 t) (fun c hc => ?_) (fun w c d a b => by omega)
        by_cases e : c + 1 = G 2 t
        · exact ⟨t, ht, e.symm⟩
        · obtain ⟨w, a, _, _, b⟩ := s3 t ht p (c + 1) (by omega) (by omega)
          exact ⟨w, a, b⟩
      · refine ct_inj (P := fun w c => G 2 w = c) (n := G 2 t) (fun c hc => ?_) (fun w c d a b => a.symm.trans b)
        obtain ⟨w, a, _, _, b⟩ := s3 t ht p c hc (fun q => z q.1)
        exact ⟨w, a, b⟩
    omega
  · have := ct_inj (P := fun w c => G 3 w = c) (n := G 3 t) (fun c hc => by
      obtain ⟨w, a, _, _, _, b⟩ := s4 t ht p c hc
      exact ⟨w, a, b⟩) (fun w c d a b => a.symm.trans b)
    omega
  · have := (s6 t ht).2.2.2.2; omega
section R42
variable {v b : Nat} {g : GH} {rt st sT so : Nat → Int32}
theorem r_t42 (hv : v < 22) (N : iN g) (rn : Int32) (km kr ask np im : Nat → Int32) (sk : Nat → Int64) (h9 : ∀ t, t < 40 → g 9 t = 0) : ∀ k i (sz tr ca pl ag mk lk st : Nat → Int32), i + k = 40 → rM v (gDr g (fun u => decide (u < i) && gF1 g u)) sz tr ca pl ag mk lk rt st sT →
    ∃ sz' tr' ca' pl' ag' mk' lk', rM v (gDr g (fun u => decide (u < 40) && gF1 g u)) sz' tr' ca' pl' ag' mk' lk' rt st sT ∧ (lF v sz sz' ∧ lF v tr tr' ∧ lF v ca ca' ∧ lF v pl pl' ∧ lF v ag ag' ∧ lF v mk mk' ∧ lG v lk lk') ∧
      mX12_ticks_42 (nI v) rn so km kr sk ask np im sT k i (nI (fb_ct (gF1 g) i)) sz tr ca pl ag mk lk st = mX12_ticks_42 (nI v) rn so km kr sk ask np im sT 0 40 (nI (fb_ct (gF1 g) 40)) sz' tr' ca' pl' ag' mk' lk' st := by
  intro k
  induction k with
  | zero =>
    intro i sz tr ca pl ag mk lk st hi M
    have : i = 40 := by omega
    subst this
    exact ⟨sz, tr, ca, pl, ag, mk, lk, M, ⟨lF_rf v _, lF_rf v _, lF_rf v _, lF_rf v _, lF_rf v _, lF_rf v _, fun _ _ => rfl⟩, rfl⟩
  | succ k ih =>
    intro i sz tr ca pl ag mk lk st hi M
    have hi40 : i < 40 := by omega
    have hs := fb_ct_succ (gF1 g) i
    have d0 : gDr g (fun u => decide (u < i) && gF1 g u) 0 i = g 0 i := gDr_n g _ (by decide) (by simp)
    have hsz : sz (40 * v + i) = nI (g 0 i) := by have := (M.1 i hi40).1; rw [d0] at this; exact this
    have n := N.1 i hi40
    have skip : ¬ gF1 g i = true → rM v (gDr g (fun u => decide (u < i + 1) && gF1 g u)) sz tr ca pl ag mk lk rt st sT := by
      intro w
      refine rM_dq M (fun u hu => ?_)
      by_cases e : u = i
      · subst e; simp [w]
      · by_cases y : u < i
        · simp [y, show u < i + 1 by omega]
        · simp [y, show ¬ u < i + 1 by omega]
    rw [mX12_ticks_42, s_isThere v hv sz i hi40, obind, hsz]
    by_cases p : 0 < g 0 i
    · have m := N.2.1 i hi40 p
      have htr : tr (40 * v + i) = nI (g 1 i) := by
        have := (M.2.1 i hi40 (by rw [d0]; exact p)).1
        rw [gDr_o g _ (by decide)] at this; exact this
      rw [if_pos (decide_eq_true ((nIp (by omega)).mpr p)), zb_t v i hv hi40, if_pos rfl, zc_t v i hv hi40, htr]
      by_cases z : g 1 i = 0
      · have w : gF1 g i = true := decide_eq_true ⟨p, z⟩
        rw [if_pos ((nI0 (by omega)).mpr z)]
        obtain ⟨lk', e1, e2⟩ := r_clears (sz := sz) (tr := tr) (ca := ca) (pl := pl) (ag := ag) (mk := mk) (lk := lk) hv hi40
        have M' := rM_drop (q := fun u => decide (u < i + 1) && gF1 g u) M hi40 (fun u => by
          by_cases e : u = i
          · subst e; simp [w]
          · by_cases y : u < i
            · simp [y, e, show u < i + 1 by omega]
            · simp [y, e, show ¬ u < i + 1 by omega]) e1
        obtain ⟨sz', tr', ca', pl', ag', mk', lk2, k1, ⟨k2, k3, k4, k5, k6, k7, k8⟩, k9⟩ := ih (i + 1) _ _ _ _ _ _ _ _ (by omega) M'
        refine ⟨sz', tr', ca', pl', ag', mk', lk2, k1, ⟨lF_tr (lF_up sz hi40 _) k2, lF_tr (lF_up tr hi40 _) k3, lF_tr (lF_up ca hi40 _) k4, lF_tr (lF_up pl hi40 _) k5, lF_tr (lF_up ag hi40 _) k6, lF_tr (lF_up mk hi40 _) k7, lG_tr (lG_clear hi40 e1) k8⟩, ?_⟩
        rw [e2, obind, xu_r, xu_r, xu_r, xu_r, xu_r, xu_r, nI_1]
        rw [hs, if_pos w] at k9
        exact k9
      · have w : ¬ gF1 g i = true := fun q => z (of_decide_eq_true q).2
        rw [if_neg (fun q => z ((nI0 (by omega)).mp q))]
        obtain ⟨sz', tr', ca', pl', ag', mk', lk2, k1, k2, k9⟩ := ih (i + 1) _ _ _ _ _ _ _ _ (by omega) (skip w)
        refine ⟨sz', tr', ca', pl', ag', mk', lk2, k1, k2, ?_⟩
        rw [hs, if_neg w] at k9
        exact k9
    · have w : ¬ gF1 g i = true := fun q => p (of_decide_eq_true q).1
      rw [if_neg (by rw [decide_eq_true_eq]; exact fun q => p ((nIp (by omega)).mp q))]
      obtain ⟨sz', tr', ca', pl', ag', mk', lk2, k1, k2, k9⟩ := ih (i + 1) _ _ _ _ _ _ _ _ (by omega) (skip w)
      refine ⟨sz', tr', ca', pl', ag', mk', lk2, k1, k2, ?_⟩
      rw [hs, if_neg w] at k9
      exact k9
end R42
