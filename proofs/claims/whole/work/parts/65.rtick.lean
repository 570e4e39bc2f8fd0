theorem gTr_ex {g : GH} (W : gW g) {w : Nat} (hw : w < gTr g) : ∃ u, u < 40 ∧ 0 < g 0 u ∧ g 1 u = w := by
  obtain ⟨t, ht, p, e⟩ := bmx_at (p := fun t => decide (0 < g 0 t)) (c := g 1) (n := 40) (show 0 < gTr g by omega)
  have p := of_decide_eq_true p
  have e : g 1 t + 1 = gTr g := e
  by_cases z : w = g 1 t
  · exact ⟨t, ht, p, z.symm⟩
  · exact W.2.1 t ht p w (by omega)
theorem gTr_40 {g : GH} (W : gW g) : gTr g ≤ 40 := ct_inj (P := fun u w => g 1 u = w) (fun w hw => by
  obtain ⟨u, a, _, b⟩ := gTr_ex W hw
  exact ⟨u, a, b⟩) (fun u c d a b => a.symm.trans b)
theorem mI_of {g : GH} (W : gW g) (hT : gTr g ≠ 0) : mI g (gTr g) 0 := by
  have h40 := gTr_40 W
  obtain ⟨w1, w2, w3, w4, w5, w6, w7⟩ := id W
  have pl : ∀ t, t < 40 → 0 < g 0 t → g 3 t < 40 := by
    intro t ht p
    have := ct_inj (P := fun u q => g 3 u = q) (n := g 3 t + 1) (fun q hq => by
      by_cases e : q = g 3 t
      · exact ⟨t, ht, e.symm⟩
      · obtain ⟨u, a, _, _, _, b⟩ := w4 t ht p q (by omega)
        exact ⟨u, a, b⟩) (fun u c d a b => a.symm.trans b)
    omega
  refine ⟨fun t ht => ?_, ⟨⟨by omega, h40⟩, fun t ht p => ⟨gTr_lt ht p, fun q => ?_, fun _ _ => pl t ht p⟩⟩, fun u z c hc hn => ?_, fun u z p hp => ?_, w5, fun w h1 h2 => ?_, ⟨Nat.zero_le _, fun q => absurd q (by decide), fun t ht q => ?_, fun q => absurd rfl q⟩, Or.inr (Or.inl rfl), w6, w7⟩
  · have := w1 t ht
    exact ⟨this.1, this.2.1, this.2.2.1, by omega, fun q => ⟨this.2.2.2.1 q, this.2.2.2.2⟩⟩
  · have := (w1 t ht).2.2.2.2; omega
  · obtain ⟨w, a, b, e1, e2⟩ := w3 u z.1 z.2.1 c hc
    exact ⟨w, ⟨a, b, fun q => hn ⟨e1.symm.trans q.1, e2.symm.trans q.2⟩⟩, e1, e2⟩
  · obtain ⟨w, a, b, e1, e2, e3⟩ := w4 u z.1 z.2.1 p hp
    exact ⟨w, ⟨a, b, fun q => z.2.2 ⟨e1.symm.trans q.1, e2.symm.trans q.2⟩⟩, e1, e2, e3⟩
  · obtain ⟨u, a, b, e⟩ := gTr_ex W h2
    exact Or.inl ⟨u, ⟨a, b, fun q => by omega⟩, e⟩
  · have := (w1 t ht).2.2.2.2; omega
theorem gTr_0 {g : GH} (h : gTr g = 0) {t : Nat} (ht : t < 40) : ¬ 0 < g 0 t := fun p => by
  have := gTr_lt ht p; omega
theorem gW_N {g : GH} (W : gW g) : iN g := by
  by_cases h : gTr g = 0
  · refine ⟨fun t ht => ?_, fun t ht p => absurd p (gTr_0 h ht), W.2.2.2.2.2.1⟩
    have := W.1 t ht; omega
  · exact mI_N (mI_of W h)
/-- a layer of the reference between STEPS -/
def rL (v : Nat) (g : GH) (sz tr ca pl ag mk lk rt : Nat → Int32) : Prop := ∀ st sT, (∀ t, t < 40 → st t = 0) → rM v g sz tr ca pl ag mk lk rt st sT
theorem rL_of {v : Nat} {g : GH} {sz tr ca pl ag mk lk rt st sT : Nat → Int32} (M : rM v g sz tr ca pl ag mk lk rt st sT) (h9 : ∀ t, t < 40 → g 9 t = 0) : rL v g sz tr ca pl ag mk lk rt := by
  intro st2 sT2 h0
  exact ⟨fun t ht => ⟨(M.1 t ht).1, by rw [h0 t ht, h9 t ht]; rfl⟩, M.2.1, fun t ht e => by rw [h9 t ht] at e; exact absurd e (by decide), M.2.2.2.1, M.2.2.2.2⟩
theorem rM_cong2 {v : Nat} {h k : GH} {sz tr ca pl ag mk lk rt st sT : Nat → Int32} (M : rM v h sz tr ca pl ag mk lk rt st sT) (e0 : ∀ t, t < 40 → k 0 t = h 0 t ∧ k 9 t = h 9 t) (e1 : ∀ t, t < 40 → 0 < h 0 t → k 1 t = h 1 t ∧ k 2 t = h 2 t ∧ k 3 t = h 3 t ∧ k 4 t = h 4 t ∧ k 5 t = h 5 t) (e9 : ∀ t, t < 40 → k 9 t ≠ 1) (e6 : ∀ j, k 6 j = h 6 j) (e7 : ∀ j, k 7 j = h 7 j) : rM v k sz tr ca pl ag mk lk rt st sT := by
  refine ⟨fun t ht => ?_, fun t ht p => ?_, fun t ht q => absurd q (e9 t ht), fun j hj => by rw [e6]; exact M.2.2.2.1 j hj, fun r hr => by rw [e7]; exact M.2.2.2.2 r hr⟩
  · rw [(e0 t ht).1, (e0 t ht).2]; exact M.1 t ht
  · rw [(e0 t ht).1] at p
    obtain ⟨a, b, c, d, e⟩ := e1 t ht p
    rw [a, b, c, d, e]; exact M.2.1 t ht p
section RT
variable {v b : Nat} {h : GH} {sz tr ca pl ag mk lk rt st sT so sf sb cs cv ut : Nat → Int32} {P : GP}
theorem r_out (hv : v < 22) (M : rM v h sz tr ca pl ag mk lk rt st sT) (N : iN h) {t : Nat} (ht : t < 40) : mX12_isOutside (nI v) (nI t) sz tr lk rt st sT = some (gOut h t) := by
  unfold mX12_isOutside gOut
  rw [r_root hv M N ht, obind]
  by_cases z : gRt h t = true
  · rw [if_pos z, z]; rfl
  · rw [if_neg z, r_call hv M N ht, obind, Bool.eq_false_iff.mpr z]
    have := gCb_lt N t
    by_cases y : gCb h t = 0
    · rw [if_pos ((bnz_m1 (by omega)).mpr y), decide_eq_false (fun q => q y)]; rfl
    · rw [if_neg (fun q => y ((bnz_m1 (by omega)).mp q)), decide_eq_true y]; rfl
theorem r_tr0 (M : rM v h sz tr ca pl ag mk lk rt st sT) (N : iN h) {t : Nat} (ht : t < 40) (h0 : 0 < h 0 t) : tr (40 * v + t) = 0 ↔ h 1 t = 0 := by
  have := N.2.1 t ht h0
  rw [(M.2.1 t ht h0).1, nI0 (by omega)]
theorem r_there (hv : v < 22) (M : rM v h sz tr ca pl ag mk lk rt st sT) (N : iN h) {t : Nat} (ht : t < 40) : mX12_isThere (nI v) (nI t) sz = some (decide (0 < h 0 t)) := by
  rw [s_isThere v hv sz t ht]
  congr 1
  rw [decide_eq_decide]; exact r_0 M N ht
theorem r_fallen (hv : v < 22) (M : rM v h sz tr ca pl ag mk lk rt st sT) (N : iN h) : mX12_isFallen (nI v) sz tr lk rt st sT = some (!gWant h) := by
  unfold mX12_isFallen gWant
  have go : ∀ k i, i + k = 40 → mX12_isFallen_2 (nI v) sz tr lk rt st sT k i = some (!bex (fun t => decide (0 < h 0 t ∧ h 1 t = 0 ∧ gOut h t = true)) k i) := by
    intro k
    induction k with
    | zero => intro i _; rfl
    | succ k ih =>
      intro i hi
      have hi40 : i < 40 := by omega
      rw [mX12_isFallen_2, r_there hv M N hi40, obind, bex]
      by_cases p : 0 < h 0 i
      · rw [if_pos (decide_eq_true p), zb_t v i hv hi40, if_pos rfl, zc_t v i hv hi40]
        by_cases z : h 1 i = 0
        · rw [if_pos ((r_tr0 M N hi40 p).mpr z), r_out hv M N hi40, obind]
          by_cases y : gOut h i = true
          · rw [if_pos y, decide_eq_true ⟨p, z, y⟩]; rfl
          · rw [if_neg y, decide_eq_false (fun q => y q.2.2), Bool.false_or]; exact ih (i + 1) (by omega)
        · rw [if_neg (fun q => z ((r_tr0 M N hi40 p).mp q)), decide_eq_false (fun q => z q.2.1), Bool.false_or]; exact ih (i + 1) (by omega)
      · rw [if_neg (by rw [decide_eq_true_eq]; exact p), decide_eq_false (fun q => p q.1), Bool.false_or]; exact ih (i + 1) (by omega)
  exact go 40 0 rfl
theorem r_mk1 (hv : v < 22) (M : rM v h sz tr ca pl ag mk lk rt st sT) (N : iN h) : mX12_isMarkedFirst (nI v) sz tr mk = some (gMk1 h) := by
  unfold mX12_isMarkedFirst gMk1
  have go : ∀ k i, i + k = 40 → mX12_isMarkedFirst_2 (nI v) sz tr mk k i = some (bex (fun t => decide (0 < h 0 t ∧ h 1 t = 0 ∧ h 5 t = 1)) k i) := by
    intro k
    induction k with
    | zero => intro i _; rfl
    | succ k ih =>
      intro i hi
      have hi40 : i < 40 := by omega
      rw [mX12_isMarkedFirst_2, r_there hv M N hi40, obind, bex]
      by_cases p : 0 < h 0 i
      · have n := N.1 i hi40
        rw [if_pos (decide_eq_true p), zb_t v i hv hi40, if_pos rfl, zc_t v i hv hi40, (M.2.1 i hi40 p).2.2.2.2]
        by_cases z : h 1 i = 0
        · rw [if_pos ((r_tr0 M N hi40 p).mpr z)]
          by_cases y : h 5 i = 1
          · rw [if_pos ((nI1' (by omega)).mpr y), decide_eq_true ⟨p, z, y⟩]; rfl
          · rw [if_neg (fun q => y ((nI1' (by omega)).mp q)), decide_eq_false (fun q => y q.2.2), Bool.false_or]; exact ih (i + 1) (by omega)
        · rw [if_neg (fun q => z ((r_tr0 M N hi40 p).mp q)), decide_eq_false (fun q => z q.2.1), Bool.false_or]; exact ih (i + 1) (by omega)
      · rw [if_neg (by rw [decide_eq_true_eq]; exact p), decide_eq_false (fun q => p q.1), Bool.false_or]; exact ih (i + 1) (by omega)
  exact go 40 0 rfl
theorem r_marks (hv : v < 22) (M : rM v h sz tr ca pl ag mk lk rt st sT) (N : iN h) : ∃ mk', lF v mk mk' ∧ rM v (if gMkB h = 0 then h else gset h 5 (gMkB h - 1) 1) sz tr ca pl ag mk' lk rt st sT ∧ mX12_marks (nI v) sz tr ca pl mk lk rt st sT = some mk' := by
  have go : ∀ k i, i + k = 40 → mX12_marks_4 (nI v) sz tr ca pl mk lk rt st sT k i (bno (bbt (fun t => decide (0 < h 0 t ∧ h 1 t = 0 ∧ gOut h t = true)) (fun t => 1000 * h 2 t + h 3 t) i)) = some (if gMkB h = 0 then mk else upd mk (40 * v + (gMkB h - 1)) 1) := by
    intro k
    induction k with
    | zero =>
      intro i hi
      rw [show i = 40 by omega, mX12_marks_4]
      have l := bbt_le (fun t => decide (0 < h 0 t ∧ h 1 t = 0 ∧ gOut h t = true)) (fun t => 1000 * h 2 t + h 3 t) 40
      unfold gMkB
      by_cases z : bbt (fun t => decide (0 < h 0 t ∧ h 1 t = 0 ∧ gOut h t = true)) (fun t => 1000 * h 2 t + h 3 t) 40 = 0
      · rw [if_pos z, if_pos ((bno_m1 (by omega)).mpr z)]
      · rw [if_neg z, if_neg (fun q => z ((bno_m1 (by omega)).mp q))]
        obtain ⟨x, hx⟩ : ∃ x, bbt (fun t => decide (0 < h 0 t ∧ h 1 t = 0 ∧ gOut h t = true)) (fun t => 1000 * h 2 t + h 3 t) 40 = x + 1 := ⟨_, (Nat.succ_pred_eq_of_pos (by omega)).symm⟩
        rw [hx, bnoS, zb_t v x hv (by omega), if_pos rfl, zc_t v x hv (by omega), Nat.add_sub_cancel]
    | succ k ih =>
      intro i hi
      have hi40 : i < 40 := by omega
      have ih1 := ih (i + 1) (by omega)
      rw [bbt_succ] at ih1
      have l := bbt_le (fun t => decide (0 < h 0 t ∧ h 1 t = 0 ∧ gOut h t = true)) (fun t => 1000 * h 2 t + h 3 t) i
      rw [mX12_marks_4, r_there hv M N hi40, obind]
      by_cases p : 0 < h 0 i
      · rw [if_pos (decide_eq_true p), zb_t v i hv hi40, if_pos rfl, zc_t v i hv hi40]
        by_cases z : h 1 i = 0
        · rw [if_pos ((r_tr0 M N hi40 p).mpr z), r_out hv M N hi40, obind]
          by_cases y : gOut h i = true
          · have pp : decide (0 < h 0 i ∧ h 1 i = 0 ∧ gOut h i = true) = true := decide_eq_true ⟨p, z, y⟩
            rw [if_pos y]
            by_cases b0 : bbt (fun t => decide (0 < h 0 t ∧ h 1 t = 0 ∧ gOut h t = true)) (fun t => 1000 * h 2 t + h 3 t) i = 0
            · rw [if_pos ⟨pp, Or.inl b0⟩, bnoS] at ih1
              rw [if_pos ((bno_m1 (by omega)).mpr b0)]
              exact ih1
            · rw [if_neg (fun q => b0 ((bno_m1 (by omega)).mp q))]
              obtain ⟨x, hx⟩ : ∃ x, bbt (fun t => decide (0 < h 0 t ∧ h 1 t = 0 ∧ gOut h t = true)) (fun t => 1000 * h 2 t + h 3 t) i = x + 1 := ⟨_, (Nat.succ_pred_eq_of_pos (by omega)).symm⟩
              have pa := of_decide_eq_true (bbt_at (p := fun t => decide (0 < h 0 t ∧ h 1 t = 0 ∧ gOut h t = true)) (c := fun t => 1000 * h 2 t + h 3 t) (n := i) b0).1
              rw [hx, Nat.add_sub_cancel] at pa
              have hx40 : x < 40 := by omega
              have c1 := N.2.1 i hi40 p
              have c2 := N.2.1 x hx40 pa.1
              rw [hx, bnoS, zb_t v x hv hx40, if_pos rfl, zc_t v x hv hx40, (M.2.1 i hi40 p).2.1, (M.2.1 x hx40 pa.1).2.1, (M.2.1 i hi40 p).2.2.1, (M.2.1 x hx40 pa.1).2.2.1]
              rw [hx, Nat.add_sub_cancel] at ih1
              by_cases d1 : h 2 i < h 2 x
              · rw [if_pos (nI_lt d1 (by omega))]
                rw [if_pos ⟨pp, Or.inr (by omega)⟩, bnoS] at ih1
                exact ih1
              · rw [if_neg (nI_nlt (by omega) (by omega))]
                by_cases d2 : h 2 i = h 2 x
                · rw [if_pos (by rw [d2])]
                  by_cases d3 : h 3 i < h 3 x
                  · rw [if_pos (nI_lt d3 (by omega))]
                    rw [if_pos ⟨pp, Or.inr (by omega)⟩, bnoS] at ih1
                    exact ih1
                  · rw [if_neg (nI_nlt (by omega) (by omega))]
                    rw [if_neg (fun q => by rcases q.2 with q | q <;> omega), bnoS] at ih1
                    exact ih1
                · rw [if_neg (fun q => d2 ((nI_eq (by omega) (by omega)).mp q))]
                  rw [if_neg (fun q => by rcases q.2 with q | q <;> omega), bnoS] at ih1
                  exact ih1
          · rw [if_neg y]
            rw [if_neg (fun q => y (of_decide_eq_true q.1).2.2)] at ih1
            exact ih1
        · rw [if_neg (fun q => z ((r_tr0 M N hi40 p).mp q))]
          rw [if_neg (fun q => z (of_decide_eq_true q.1).2.1)] at ih1
          exact ih1
      · rw [if_neg (by rw [decide_eq_true_eq]; exact p)]
        rw [if_neg (fun q => p (of_decide_eq_true q.1).1)] at ih1
        exact ih1
  unfold mX12_marks
  refine ⟨_, ?_, ?_, go 40 0 rfl⟩
  · by_cases z : gMkB h = 0
    · rw [if_pos z]; exact lF_rf v mk
    · rw [if_neg z]
      have l : gMkB h ≤ 40 := bbt_le _ _ 40
      exact lF_up mk (by omega) 1
  · by_cases z : gMkB h = 0
    · rw [if_pos z, if_pos z]; exact M
    · rw [if_neg z, if_neg z]
      have v5 : ∀ a t, ¬ (a = 5 ∧ t = gMkB h - 1) → gset h 5 (gMkB h - 1) 1 a t = h a t := fun a t q => gset_n h 1 q
      refine ⟨fun t ht => ?_, fun t ht p => ?_, fun t ht q => ?_, fun j hj => ?_, fun r hr => ?_⟩
      · rw [v5 0 t (by omega), v5 9 t (by omega)]; exact M.1 t ht
      · rw [v5 0 t (by omega)] at p
        obtain ⟨a, c, d, e, f⟩ := M.2.1 t ht p
        rw [v5 1 t (by omega), v5 2 t (by omega), v5 3 t (by omega), v5 4 t (by omega)]
        refine ⟨a, c, d, e, ?_⟩
        by_cases y : t = gMkB h - 1
        · rw [← y, pk_us, gset_s]; rfl
        · rw [pk_un (by omega), v5 5 t (by omega)]; exact f
      · rw [v5 9 t (by omega)] at q
        rw [v5 10 t (by omega)]; exact M.2.2.1 t ht q
      · rw [v5 6 j (by omega)]; exact M.2.2.2.1 j hj
      · rw [v5 7 r (by omega)]; exact M.2.2.2.2 r hr
end RT
