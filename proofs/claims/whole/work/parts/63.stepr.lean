theorem nI0 {n : Nat} (h : n < 1000000) : nI n = 0 ↔ n = 0 := nI_eq (a := n) (b := 0) (by omega) (by decide)
theorem nI1' {n : Nat} (h : n < 1000000) : nI n = 1 ↔ n = 1 := nI_eq (a := n) (b := 1) (by omega) (by decide)
theorem nIp {n : Nat} (h : n < 1000000) : 0 < nI n ↔ 0 < n := nI_ltI (a := 0) (b := n) (by decide) (by omega)
/-- numbers of a ghost -/
def iN (h : GH) : Prop := (∀ t, t < 40 → h 0 t ≤ 99 ∧ h 4 t ≤ 99 ∧ h 5 t ≤ 1 ∧ h 9 t ≤ 1) ∧ (∀ t, t < 40 → 0 < h 0 t → h 1 t < 100 ∧ h 2 t < 100 ∧ h 3 t < 100 ∧ (h 9 t = 1 → h 10 t < 100)) ∧ gok (gTh h) h
theorem mI_N {h : GH} {T s : Nat} (I : mI h T s) : iN h := by
  refine ⟨fun t ht => ?_, fun t ht hp => ?_, I.2.2.2.2.2.2.2.2.1⟩
  · have := I.1 t ht; omega
  · have a := I.2.1.2 t ht hp
    have b := I.2.1.1
    have c := mI_car I ht hp
    have d := mI_place I ht hp
    refine ⟨by omega, by omega, by omega, fun q => ?_⟩
    have := (a.2.1 q).2.2
    omega
/-- a layer of the reference in a STEP -/
def rM (v : Nat) (h : GH) (sz tr ca pl ag mk lk rt st sT : Nat → Int32) : Prop :=
  (∀ t, t < 40 → sz (40 * v + t) = nI (h 0 t) ∧ st t = nI (h 9 t)) ∧
  (∀ t, t < 40 → 0 < h 0 t → tr (40 * v + t) = nI (h 1 t) ∧ ca (40 * v + t) = nI (h 2 t) ∧ pl (40 * v + t) = nI (h 3 t) ∧ ag (40 * v + t) = nI (h 4 t) ∧ mk (40 * v + t) = nI (h 5 t)) ∧
  (∀ t, t < 40 → h 9 t = 1 → sT t = nI (h 10 t)) ∧
  (∀ j, j < 160 → lk (160 * v + j) = bno (h 6 j)) ∧ (∀ k, k < 8 → rt (8 * v + k) = bno (h 7 k))
theorem bcl_cong {p q : Nat → Bool} {T : Nat → Nat} : ∀ {n : Nat}, (∀ u, u < n → p u = q u) → bcl p T n = bcl q T n := by
  intro n
  induction n with
  | zero => intro _; rfl
  | succ n ih => intro e; rw [bcl_succ, bcl_succ, e n (by omega), ih (fun u hu => e u (by omega))]
theorem bno_m1 {n : Nat} (h : n < 1000) : bno n = -1 ↔ n = 0 := bno_eq (b := 0) h (by decide)
section SR
variable {v : Nat} {h : GH} {sz tr ca pl ag mk lk rt st sT : Nat → Int32}
theorem r_0 (M : rM v h sz tr ca pl ag mk lk rt st sT) (N : iN h) {t : Nat} (ht : t < 40) : 0 < sz (40 * v + t) ↔ 0 < h 0 t := by
  rw [(M.1 t ht).1]; exact nIp (by have := N.1 t ht; omega)
theorem r_wait (hv : v < 22) (M : rM v h sz tr ca pl ag mk lk rt st sT) (N : iN h) {t : Nat} (ht : t < 40) : mX12_isWaiting (nI v) (nI t) sz tr ca st = some (gWt h t) := by
  rw [s_isWaiting v hv sz tr ca st t ht]
  unfold gWt
  congr 1
  rw [decide_eq_decide, r_0 M N ht]
  have b := N.1 t ht
  rw [(M.1 t ht).2, nI0 (by omega)]
  by_cases h0 : 0 < h 0 t
  · obtain ⟨e1, e2, -⟩ := M.2.1 t ht h0
    have c := N.2.1 t ht h0
    rw [e1, e2, nI0 (by omega), nI0 (by omega)]
  · exact ⟨fun q => absurd q.1 h0, fun q => absurd q.1 h0⟩
theorem r_link (M : rM v h sz tr ca pl ag mk lk rt st sT) (N : iN h) {u t : Nat} (hu : u < 40) (ht : t < 40) : bhas (fun r => lk (4 * (40 * v + u) + r)) 4 (nI t) = gLk h u t := by
  rw [← bhas_g6 N.2.2 lk (160 * v) M.2.2.2.1 hu ht]
  congr 1
  funext r
  congr 1
  omega
theorem r_root (hv : v < 22) (M : rM v h sz tr ca pl ag mk lk rt st sT) (N : iN h) {t : Nat} (ht : t < 40) : mX12_isRooted (nI v) (nI t) rt = some (gRt h t) := by
  rw [s_isRooted v hv rt (nI t), bhas_g7 N.2.2 rt (8 * v) M.2.2.2.2 ht]
theorem r_tn (M : rM v h sz tr ca pl ag mk lk rt st sT) (N : iN h) {u : Nat} (hu : u < 40) (h0 : 0 < h 0 u) : (if st u = 1 then sT u else tr (40 * v + u)) = nI (gTn h u) ∧ gTn h u < 1000 := by
  have b := N.1 u hu
  have c := N.2.1 u hu h0
  unfold gTn
  rw [(M.1 u hu).2]
  by_cases e : h 9 u = 1
  · rw [if_pos e, if_pos ((nI1' (by omega)).mpr e)]
    exact ⟨M.2.2.1 u hu e, by have := c.2.2.2 e; omega⟩
  · rw [if_neg e, if_neg (fun q => e ((nI1' (by omega)).mp q))]
    exact ⟨(M.2.1 u hu h0).1, by omega⟩
theorem r_call (hv : v < 22) (M : rM v h sz tr ca pl ag mk lk rt st sT) (N : iN h) {t : Nat} (ht : t < 40) : mX12_calling (nI v) (nI t) sz tr lk st sT = some (bnz (gCb h t)) := by
  rw [s_calling v hv sz tr lk st sT (nI t) (gTn h) (fun u hu p => r_tn M N hu ((r_0 M N hu).mp p))]
  unfold gCb
  rw [bcl_cong (q := fun u => decide (0 < h 0 u ∧ gLk h u t = true)) (fun u hu => by rw [decide_eq_decide, r_0 M N hu, r_link M N hu ht])]
theorem gCb_lt (N : iN h) (t : Nat) : gCb h t < 100 := by
  refine bcl_lt (by decide) (fun u hu p => ?_)
  have p := (of_decide_eq_true p).1
  have c := N.2.1 u hu p
  unfold gTn
  split
  · rename_i e; exact c.2.2.2 e
  · exact c.1
theorem bnz_m1 {n : Nat} (h : n < 1000) : bnz n = -1 ↔ n = 0 := by
  unfold bnz
  by_cases e : n = 0
  · rw [if_pos e]; exact ⟨fun _ => e, fun _ => rfl⟩
  · rw [if_neg e]; exact ⟨fun q => absurd q (nI_m1 (by omega)), fun q => absurd q e⟩
theorem r_beside (hv : v < 22) (M : rM v h sz tr ca pl ag mk lk rt st sT) (N : iN h) {t : Nat} (ht : t < 40) : mX12_isCalledBeside (nI v) (nI t) sz tr ca lk st sT = some (gBs h t) := by
  rw [s_isCalledBeside v hv sz tr ca lk st sT (nI t)]
  unfold gBs
  congr 1
  refine bex_cong (fun u _ hu => ?_)
  have hu : u < 40 := by omega
  rw [decide_eq_decide, r_0 M N hu, r_link M N hu ht]
  have e : ∀ {a b c d : Prop}, (a → (c ↔ d)) → ((a ∧ b ∧ c) ↔ (a ∧ b ∧ d)) := fun q => ⟨fun x => ⟨x.1, x.2.1, (q x.1).mp x.2.2⟩, fun x => ⟨x.1, x.2.1, (q x.1).mpr x.2.2⟩⟩
  refine e (fun h0 => ?_)
  obtain ⟨a, b⟩ := r_tn M N hu h0
  rw [a, nI0 (by omega), gWt_iff, (M.1 u hu).2, (M.2.1 u hu h0).1, (M.2.1 u hu h0).2.1]
  have c := N.2.1 u hu h0
  have d := N.1 u hu
  rw [nI0 (by omega), nI0 (by omega), nI0 (by omega)]
  exact ⟨fun x => ⟨x.1, fun y => x.2 y.2⟩, fun x => ⟨x.1, fun y => x.2 ⟨h0, y⟩⟩⟩
theorem r_by (hv : v < 22) (M : rM v h sz tr ca pl ag mk lk rt st sT) (N : iN h) {t : Nat} (ht : t < 40) (h0 : 0 < h 0 t) {r : Nat} (hr : r < 1000) : mX12_isBy (nI v) (nI t) (nI r) sz tr ca mk lk rt st sT = some (gBy h r t) := by
  unfold mX12_isBy gBy
  by_cases e1 : r = 1
  · rw [if_pos e1, if_pos ((nI1' (by omega)).mpr e1), r_root hv M N ht, obind]
  · rw [if_neg e1, if_neg (fun q => e1 ((nI1' (by omega)).mp q))]
    by_cases e2 : r = 2
    · rw [if_pos e2, if_pos (show nI r = 2 from e2 ▸ rfl), zb_t v t hv ht, zc_t v t hv ht, if_pos rfl, (M.2.1 t ht h0).2.2.2.2]
      have b := N.1 t ht
      by_cases z : h 5 t = 1
      · rw [if_pos ((nI1' (by omega)).mpr z), decide_eq_true z]
      · rw [if_neg (fun q => z ((nI1' (by omega)).mp q)), decide_eq_false z]
    · rw [if_neg e2, if_neg (show ¬ nI r = 2 from fun q => e2 ((nI_eq (b := 2) (by omega) (by decide)).mp q))]
      by_cases e3 : r = 3
      · rw [if_pos e3, if_pos (show nI r = 3 from e3 ▸ rfl), r_call hv M N ht, obind]
        have := gCb_lt N t
        by_cases z : gCb h t = 0
        · rw [if_pos ((bnz_m1 (by omega)).mpr z), decide_eq_false (fun q => q z)]
        · rw [if_neg (fun q => z ((bnz_m1 (by omega)).mp q)), decide_eq_true z]
      · rw [if_neg e3, if_neg (show ¬ nI r = 3 from fun q => e3 ((nI_eq (b := 3) (by omega) (by decide)).mp q)), r_beside hv M N ht, obind]
theorem r_next12 (hv : v < 22) (M : rM v h sz tr ca pl ag mk lk rt st sT) (N : iN h) {r : Nat} (hr : r < 1000) (K : Int32 → Option (Int32 × Int32)) : ∀ k i, i + k = 40 →
    mX12_nextToGo_12 (nI v) sz tr ca pl mk lk rt st sT r K k i (bno (bbt (fun t => gWt h t && gBy h r t) (h 3) i)) = if gFb h r = 0 then K (nI r) else some (bno (gFb h r), nI r) := by
  intro k
  induction k with
  | zero =>
    intro i hi
    rw [show i = 40 by omega, mX12_nextToGo_12]
    have := bbt_le (fun t => gWt h t && gBy h r t) (h 3) 40
    unfold gFb
    by_cases z : bbt (fun t => gWt h t && gBy h r t) (h 3) 40 = 0
    · rw [if_pos z, if_pos ((bno_m1 (by omega)).mpr z)]
    · rw [if_neg z, if_neg (fun q => z ((bno_m1 (by omega)).mp q))]
  | succ k ih =>
    intro i hi
    have hi40 : i < 40 := by omega
    have ih1 := ih (i + 1) (by omega)
    rw [bbt_succ] at ih1
    have l := bbt_le (fun t => gWt h t && gBy h r t) (h 3) i
    rw [mX12_nextToGo_12, r_wait hv M N hi40, obind]
    by_cases w : gWt h i = true
    · have h0 := ((gWt_iff h i).mp w).1
      rw [if_pos w, r_by hv M N hi40 h0 hr, obind]
      by_cases b : gBy h r i = true
      · rw [if_pos b]
        have pp : (gWt h i && gBy h r i) = true := by rw [w, b]; rfl
        by_cases z : bbt (fun t => gWt h t && gBy h r t) (h 3) i = 0
        · rw [if_pos ⟨pp, Or.inl z⟩, bnoS] at ih1
          rw [if_pos ((bno_m1 (by omega)).mpr z)]
          exact ih1
        · rw [if_neg (fun q => z ((bno_m1 (by omega)).mp q))]
          obtain ⟨x, hx⟩ : ∃ x, bbt (fun t => gWt h t && gBy h r t) (h 3) i = x + 1 := ⟨_, (Nat.succ_pred_eq_of_pos (by omega)).symm⟩
          have pa := (bbt_at (p := fun t => gWt h t && gBy h r t) (c := h 3) (n := i) z).1
          rw [hx, Nat.add_sub_cancel] at pa
          have pa := ((gWt_iff h x).mp ((Bool.and_eq_true _ _).mp pa).1).1
          have hx40 : x < 40 := by omega
          rw [hx, bnoS, zb_t v i hv hi40, zc_t v i hv hi40, zb_t v x hv hx40, zc_t v x hv hx40, if_pos rfl, if_pos rfl, (M.2.1 i hi40 h0).2.2.1, (M.2.1 x hx40 pa).2.2.1]
          rw [hx, Nat.add_sub_cancel] at ih1
          have c1 := N.2.1 i hi40 h0
          have c2 := N.2.1 x hx40 pa
          by_cases y : h 3 i < h 3 x
          · rw [if_pos (nI_lt y (by omega))]
            rw [if_pos ⟨pp, Or.inr y⟩, bnoS] at ih1
            exact ih1
          · rw [if_neg (nI_nlt (by omega) (by omega))]
            rw [if_neg (fun q => by rcases q.2 with q | q <;> omega), bnoS] at ih1
            exact ih1
      · rw [if_neg b]
        rw [if_neg (fun q => b ((Bool.and_eq_true _ _).mp q.1).2)] at ih1
        exact ih1
    · rw [if_neg w]
      rw [if_neg (fun q => w ((Bool.and_eq_true _ _).mp q.1).1)] at ih1
      exact ih1
theorem r_next (hv : v < 22) (M : rM v h sz tr ca pl ag mk lk rt st sT) (N : iN h) (x : Int32) : mX12_nextToGo (nI v) x sz tr ca pl mk lk rt st sT = some (bno (gPk h).2, nI (gPk h).1) := by
  unfold mX12_nextToGo
  have s : ∀ r K, r < 1000 → mX12_nextToGo_12 (nI v) sz tr ca pl mk lk rt st sT r K 40 0 (-1) = if gFb h r = 0 then K (nI r) else some (bno (gFb h r), nI r) := fun r K hr => r_next12 hv M N hr K 40 0 rfl
  rw [mX12_nextToGo_2, s 1 _ (by omega)]
  unfold gPk
  by_cases e1 : gFb h 1 = 0
  · rw [if_pos e1, if_neg (fun z => z e1), mX12_nextToGo_2, s 2 _ (by omega)]
    by_cases e2 : gFb h 2 = 0
    · rw [if_pos e2, if_neg (fun z => z e2), mX12_nextToGo_2, s 3 _ (by omega)]
      by_cases e3 : gFb h 3 = 0
      · rw [if_pos e3, if_neg (fun z => z e3), mX12_nextToGo_2, s 4 _ (by omega)]
        by_cases e4 : gFb h 4 = 0
        · rw [if_pos e4, mX12_nextToGo_2, e4]; rfl
        · rw [if_neg e4]
      · rw [if_neg e3, if_pos e3]
    · rw [if_neg e2, if_pos e2]
  · rw [if_neg e1, if_pos e1]
theorem gRf_le (h : GH) (t : Nat) : gRf h t ≤ 168 := by
  unfold gRf
  have a := fb_ct_le (fun k => decide (h 7 k = t + 1)) 8
  have b := fb_sm_bound (f := fun u => if 0 < h 0 u ∧ ¬ gWt h u = true then fb_ct (fun k => decide (h 6 (4 * u + k) = t + 1)) 4 else 0) (c := 4) (n := 40) (fun u hu => by
    have := fb_ct_le (fun k => decide (h 6 (4 * u + k) = t + 1)) 4
    show (if 0 < h 0 u ∧ ¬ gWt h u = true then fb_ct (fun k => decide (h 6 (4 * u + k) = t + 1)) 4 else 0) ≤ 4
    split <;> omega)
  omega
theorem r_refs (hv : v < 22) (M : rM v h sz tr ca pl ag mk lk rt st sT) (N : iN h) {t : Nat} (ht : t < 40) (hw : gWt h t = true) : mX12_refsOf (nI v) (nI t) sz tr ca lk rt st = some (nI (gRf h t)) := by
  rw [s_refsOf v hv sz tr ca lk rt st t ht]
  unfold gRf
  have w := (gWt_iff h t).mp hw
  have e1 : fb_ct (fun r => decide (rt (8 * v + r) = nI t)) 8 = fb_ct (fun k => decide (h 7 k = t + 1)) 8 := fb_ct_cong (fun k hk => by
    rw [decide_eq_decide, M.2.2.2.2 k hk, bno_nI (by have := (N.2.2.2 k hk).1; omega) (by omega)])
  rw [e1]
  congr 2
  congr 1
  refine fb_sm_cong (fun u hu => ?_)
  have e2 : fb_ct (fun r => decide (lk (4 * (40 * v + u) + r) = nI t)) 4 = fb_ct (fun k => decide (h 6 (4 * u + k) = t + 1)) 4 := fb_ct_cong (fun k hk => by
    rw [decide_eq_decide, show 4 * (40 * v + u) + k = 160 * v + (4 * u + k) by omega, M.2.2.2.1 _ (by omega), bno_nI (by have := (N.2.2.1 (4 * u + k) (by omega)).1; omega) (by omega)])
  rw [e2]
  have key : (0 < sz (40 * v + u) ∧ ¬ (st u = st t ∧ (st u = 1 ∨ (tr (40 * v + u) = tr (40 * v + t) ∧ ca (40 * v + u) = ca (40 * v + t))))) ↔ (0 < h 0 u ∧ ¬ gWt h u = true) := by
    rw [r_0 M N hu, gWt_iff, (M.1 u hu).2, (M.1 t ht).2, w.2.2.2, (M.2.1 t ht w.1).1, (M.2.1 t ht w.1).2.1, w.2.1, w.2.2.1]
    have d := N.1 u hu
    by_cases h0 : 0 < h 0 u
    · have c := N.2.1 u hu h0
      rw [(M.2.1 u hu h0).1, (M.2.1 u hu h0).2.1, nI_eq (by omega) (by omega), nI_eq (by omega) (by omega), nI_eq (by omega) (by omega), nI1' (by omega)]
      omega
    · exact ⟨fun q => absurd q.1 h0, fun q => absurd q.1 h0⟩
  by_cases q : 0 < h 0 u ∧ ¬ gWt h u = true
  · rw [if_pos q, if_pos (key.mpr q)]
  · rw [if_neg q, if_neg (fun z => q (key.mp z))]
end SR
