def gET (k : GH) (o : Nat) : Bool := bex (fun t => decide (0 < k 0 t ∧ k 1 t = o)) 40 0
def gEC (k : GH) (o c : Nat) : Bool := bex (gAt k o c) 40 0
/-- numbered anew, up to a CAR of a TRAIN -/
def gCl (k : GH) (o c : Nat) : GH := fun a b => if 0 < k 0 b ∧ (k 1 b < o ∨ (k 1 b = o ∧ k 2 b < c)) then (if a = 1 then fb_ct (gET k) (k 1 b) else if a = 2 then fb_ct (gEC k (k 1 b)) (k 2 b) else if a = 3 then gRk k (k 1 b) (k 2 b) b else k a b) else k a b
theorem gAt_iff (k : GH) (o c t : Nat) : gAt k o c t = true ↔ 0 < k 0 t ∧ k 1 t = o ∧ k 2 t = c := decide_eq_true_iff
theorem gET_iff (k : GH) (o : Nat) : gET k o = true ↔ ∃ t, t < 40 ∧ 0 < k 0 t ∧ k 1 t = o := by
  unfold gET
  rw [bexI]
  exact ⟨fun ⟨t, a, b⟩ => ⟨t, a, of_decide_eq_true b⟩, fun ⟨t, a, b⟩ => ⟨t, a, decide_eq_true b⟩⟩
theorem gEC_iff (k : GH) (o c : Nat) : gEC k o c = true ↔ ∃ t, t < 40 ∧ 0 < k 0 t ∧ k 1 t = o ∧ k 2 t = c := by
  unfold gEC
  rw [bexI]
  exact ⟨fun ⟨t, a, b⟩ => ⟨t, a, (gAt_iff k o c t).mp b⟩, fun ⟨t, a, b⟩ => ⟨t, a, (gAt_iff k o c t).mpr b⟩⟩
theorem gCl_y {k : GH} {o c b : Nat} (e : 0 < k 0 b ∧ (k 1 b < o ∨ (k 1 b = o ∧ k 2 b < c))) (a : Nat) : gCl k o c a b = if a = 1 then fb_ct (gET k) (k 1 b) else if a = 2 then fb_ct (gEC k (k 1 b)) (k 2 b) else if a = 3 then gRk k (k 1 b) (k 2 b) b else k a b := by
  unfold gCl; rw [if_pos e]
theorem gCl_n {k : GH} {o c b : Nat} (e : ¬ (0 < k 0 b ∧ (k 1 b < o ∨ (k 1 b = o ∧ k 2 b < c)))) (a : Nat) : gCl k o c a b = k a b := by
  unfold gCl; rw [if_neg e]
theorem gCl_o (k : GH) (o c : Nat) {a : Nat} (e : a ≠ 1 ∧ a ≠ 2 ∧ a ≠ 3) (b : Nat) : gCl k o c a b = k a b := by
  unfold gCl
  by_cases q : 0 < k 0 b ∧ (k 1 b < o ∨ (k 1 b = o ∧ k 2 b < c))
  · rw [if_pos q, if_neg e.1, if_neg e.2.1, if_neg e.2.2]
  · rw [if_neg q]
theorem gCl_cong {k : GH} {o c o' c' b : Nat} (e : (0 < k 0 b ∧ (k 1 b < o ∨ (k 1 b = o ∧ k 2 b < c))) ↔ (0 < k 0 b ∧ (k 1 b < o' ∨ (k 1 b = o' ∧ k 2 b < c')))) (a : Nat) : gCl k o c a b = gCl k o' c' a b := by
  by_cases q : 0 < k 0 b ∧ (k 1 b < o ∨ (k 1 b = o ∧ k 2 b < c))
  · rw [gCl_y q, gCl_y (e.mp q)]
  · rw [gCl_n q, gCl_n (fun z => q (e.mpr z))]
theorem gCl_1le (k : GH) (o c b : Nat) : gCl k o c 1 b ≤ k 1 b := by
  by_cases q : 0 < k 0 b ∧ (k 1 b < o ∨ (k 1 b = o ∧ k 2 b < c))
  · rw [gCl_y q, if_pos rfl]; exact fb_ct_le _ _
  · rw [gCl_n q]; exact Nat.le_refl _
theorem gCl_2le (k : GH) (o c b : Nat) : gCl k o c 2 b ≤ k 2 b := by
  by_cases q : 0 < k 0 b ∧ (k 1 b < o ∨ (k 1 b = o ∧ k 2 b < c))
  · rw [gCl_y q, if_neg (by decide), if_pos rfl]; exact fb_ct_le _ _
  · rw [gCl_n q]; exact Nat.le_refl _
theorem gCl_at (k : GH) (o c t : Nat) : gAt (gCl k o c) o c t = gAt k o c t := by
  unfold gAt
  rw [decide_eq_decide, gCl_o k o c (by decide)]
  by_cases q : 0 < k 0 t ∧ (k 1 t < o ∨ (k 1 t = o ∧ k 2 t < c))
  · have a := gCl_1le k o c t
    have b := gCl_2le k o c t
    constructor
    · rintro ⟨x, y, z⟩; omega
    · rintro ⟨x, y, z⟩; omega
  · rw [gCl_n q, gCl_n q]
theorem gCl_rk (k : GH) (o c : Nat) {t : Nat} (ht : gAt k o c t = true) : gRk (gCl k o c) o c t = gRk k o c t := by
  unfold gRk
  have nq : ∀ u, gAt k o c u = true → gCl k o c 3 u = k 3 u := fun u hu => by
    have := (gAt_iff k o c u).mp hu
    exact gCl_n (by omega) 3
  refine fb_ct_cong (fun u hu => ?_)
  rw [gCl_at, nq t ht]
  by_cases z : gAt k o c u = true
  · rw [nq u z]
  · rw [Bool.eq_false_iff.mpr z, Bool.false_and, Bool.false_and]
theorem gCl_step (k : GH) (o c : Nat) : gRn (gCl k o c) o c (fb_ct (gET k) o) (fb_ct (gEC k o) c) = gCl k o (c + 1) := by
  funext a b
  by_cases z : gAt k o c b = true
  · have e := (gAt_iff k o c b).mp z
    have n : ¬ (0 < k 0 b ∧ (k 1 b < o ∨ (k 1 b = o ∧ k 2 b < c))) := by omega
    have y : 0 < k 0 b ∧ (k 1 b < o ∨ (k 1 b = o ∧ k 2 b < c + 1)) := by omega
    unfold gRn
    rw [gCl_at, if_pos z, gCl_y y, e.2.1, e.2.2, gCl_rk k o c z, gCl_n n]
  · rw [gRn_n _ o c _ _ (by rw [gCl_at]; exact z)]
    refine gCl_cong ?_ a
    have : ¬ (0 < k 0 b ∧ k 1 b = o ∧ k 2 b = c) := fun q => z ((gAt_iff k o c b).mpr q)
    omega
section SD
variable {v : Nat} {h : GH} {sz tr ca pl ag mk lk rt st sT : Nat → Int32}
theorem rM_cong {k : GH} (M : rM v h sz tr ca pl ag mk lk rt st sT) (e : ∀ a b, b < 40 → a ≠ 6 → k a b = h a b) (e6 : ∀ j, k 6 j = h 6 j) : rM v k sz tr ca pl ag mk lk rt st sT := by
  refine ⟨fun t ht => ?_, fun t ht p => ?_, fun t ht q => ?_, fun j hj => ?_, fun r hr => ?_⟩
  · rw [e 0 t ht (by decide), e 9 t ht (by decide)]; exact M.1 t ht
  · rw [e 0 t ht (by decide)] at p
    rw [e 1 t ht (by decide), e 2 t ht (by decide), e 3 t ht (by decide), e 4 t ht (by decide), e 5 t ht (by decide)]; exact M.2.1 t ht p
  · rw [e 9 t ht (by decide)] at q
    rw [e 10 t ht (by decide)]; exact M.2.2.1 t ht q
  · rw [e6]; exact M.2.2.2.1 j hj
  · rw [e 7 r (by omega) (by decide)]; exact M.2.2.2.2 r hr
theorem iN_cl {k : GH} (N : iN k) (o c : Nat) : iN (gCl k o c) := by
  refine ⟨fun t ht => ?_, fun t ht p => ?_, ?_⟩
  · rw [gCl_o k o c (by decide), gCl_o k o c (by decide), gCl_o k o c (by decide), gCl_o k o c (by decide)]; exact N.1 t ht
  · rw [gCl_o k o c (by decide)] at p
    have a := gCl_1le k o c t
    have b := gCl_2le k o c t
    have m := N.2.1 t ht p
    rw [gCl_o k o c (a := 9) (by decide), gCl_o k o c (a := 10) (by decide)]
    refine ⟨by omega, by omega, ?_, m.2.2.2⟩
    by_cases q : 0 < k 0 t ∧ (k 1 t < o ∨ (k 1 t = o ∧ k 2 t < c))
    · rw [gCl_y q, if_neg (by decide), if_neg (by decide), if_pos rfl]
      have : gRk k (k 1 t) (k 2 t) t ≤ 40 := fb_ct_le _ _
      omega
    · rw [gCl_n q]; exact m.2.2.1
  · have eW : gTh (gCl k o c) = gTh k := funext (fun t => by unfold gTh; rw [gCl_o k o c (by decide)])
    rw [eW]
    exact ⟨fun j hj => by rw [gCl_o k o c (by decide)]; exact N.2.2.1 j hj, fun j hj => by rw [gCl_o k o c (by decide)]; exact N.2.2.2 j hj⟩
theorem gCa_lt {k : GH} {t w : Nat} (ht : t < 40) (h0 : 0 < k 0 t) (e : k 1 t = w) : k 2 t < gCa k w := bmx_lt (p := fun t => decide (0 < k 0 t ∧ k 1 t = w)) ht (decide_eq_true ⟨h0, e⟩)
theorem gCa_le {k : GH} (N : iN k) (w : Nat) : gCa k w ≤ 100 := bmx_le (fun t ht p => by have := N.2.1 t ht (of_decide_eq_true p).1; omega)
theorem gTr_lt {k : GH} {t : Nat} (ht : t < 40) (h0 : 0 < k 0 t) : k 1 t < gTr k := bmx_lt (p := fun t => decide (0 < k 0 t)) ht (decide_eq_true h0)
theorem gTr_le {k : GH} (N : iN k) : gTr k ≤ 100 := bmx_le (fun t ht p => by have := N.2.1 t ht (of_decide_eq_true p); omega)
theorem gCl_cars (k : GH) (o : Nat) : gCa (gCl k o 0) o = gCa k o := by
  have key : ∀ t, (0 < k 0 t ∧ gCl k o 0 1 t = o) ↔ (0 < k 0 t ∧ k 1 t = o) := by
    intro t
    by_cases q : 0 < k 0 t ∧ (k 1 t < o ∨ (k 1 t = o ∧ k 2 t < 0))
    · have := gCl_1le k o 0 t
      omega
    · rw [gCl_n q]
  unfold gCa
  refine bmx_cong (fun t ht => ?_) (fun t ht p => ?_)
  · rw [decide_eq_decide, gCl_o k o 0 (by decide)]; exact key t
  · have := of_decide_eq_true p
    exact gCl_n (by omega) 2
theorem gIn_0 {k : GH} (o c : Nat) : gIn k o c = 0 ↔ gEC k o c = false := by
  unfold gIn
  rw [fb_ct_zero, Bool.eq_false_iff, Ne, gEC_iff]
  constructor
  · rintro e ⟨t, ht, q⟩
    exact absurd q (of_decide_eq_false (e t ht))
  · intro e t ht
    exact decide_eq_false (fun q => e ⟨t, ht, q⟩)
theorem r_cl32 (hv : v < 22) {k : GH} (N : iN k) {o : Nat} (ho : o < 100) (x3 : Int32) (K) : ∀ m f c (tr ca pl np im : Nat → Int32), c + m = gCa k o → m < f → rM v (gCl k o c) sz tr ca pl ag mk lk rt st sT →
    ∃ tr' ca' pl' np' im', rM v (gCl k (o + 1) 0) sz tr' ca' pl' ag mk lk rt st sT ∧ (lF v tr tr' ∧ lF v ca ca' ∧ lF v pl pl') ∧
      mX12_closes_32 (nI v) sz (nI (fb_ct (gET k) o)) x3 (nI o) K f (nI (fb_ct (gEC k o) c)) (nI (gCa k o)) (nI c) tr ca pl np im = K (nI (fb_ct (gET k) (o + 1))) x3 (nI (o + 1)) tr' ca' pl' np' im' := by
  have hC := gCa_le N o
  intro m
  induction m with
  | zero =>
    intro f c tr ca pl np im hm hf M
    obtain ⟨f, rfl⟩ : ∃ q, f = q + 1 := ⟨f - 1, by omega⟩
    have hc : c = gCa k o := by omega
    have M' : rM v (gCl k (o + 1) 0) sz tr ca pl ag mk lk rt st sT := by
      refine rM_cong M (fun a b hb _ => ?_) (fun j => by rw [gCl_o _ _ _ (by decide), gCl_o _ _ _ (by decide)])
      refine gCl_cong ?_ a
      have : 0 < k 0 b → k 1 b = o → k 2 b < gCa k o := fun x y => gCa_lt hb x y
      omega
    refine ⟨tr, ca, pl, np, im, M', ⟨lF_rf v _, lF_rf v _, lF_rf v _⟩, ?_⟩
    rw [mX12_closes_32, hc, if_neg (nI_nlt (by omega) (by omega)), nI_1]
    have hs := fb_ct_succ (gET k) o
    have l := fb_ct_le (gEC k o) (gCa k o)
    have l2 := fb_ct_le (gET k) o
    by_cases z : gET k o = true
    · obtain ⟨t, ht, h0, e⟩ := (gET_iff k o).mp z
      have : 0 < fb_ct (gEC k o) (gCa k o) := fb_ct_pos.mpr ⟨k 2 t, gCa_lt ht h0 e, (gEC_iff k o _).mpr ⟨t, ht, h0, e, rfl⟩⟩
      rw [if_pos ((nIp (by omega)).mpr this), hs, if_pos z, nI_1]
    · have : ¬ 0 < fb_ct (gEC k o) (gCa k o) := by
        intro q
        obtain ⟨c', hc', e⟩ := fb_ct_pos.mp q
        obtain ⟨t, ht, h0, e1, _⟩ := (gEC_iff k o c').mp e
        exact z ((gET_iff k o).mpr ⟨t, ht, h0, e1⟩)
      rw [if_neg (fun q => this ((nIp (by omega)).mp q)), hs, if_neg z, nI_1]
      rfl
  | succ m ih =>
    intro f c tr ca pl np im hm hf M
    obtain ⟨f, rfl⟩ : ∃ q, f = q + 1 := ⟨f - 1, by omega⟩
    have NN := iN_cl N o c
    rw [mX12_closes_32, if_pos (nI_lt (by omega) (by omega)), r_things hv M NN (by omega) (by omega), obind]
    have eI : gIn (gCl k o c) o c = gIn k o c := fb_ct_cong (fun t _ => gCl_at k o c t)
    have l : gIn k o c ≤ 40 := fb_ct_le _ _
    have hs := fb_ct_succ (gEC k o) c
    rw [eI, nI_1]
    by_cases z : gEC k o c = true
    · rw [if_neg (fun q => by
        have := (gIn_0 (k := k) o c).mp ((nI0 (by omega)).mp q)
        rw [z] at this; exact absurd this (by decide))]
      obtain ⟨tr1, ca1, pl1, np1, im1, M1, f1, q⟩ := r_renum (w := fb_ct (gET k) o) (d := fb_ct (gEC k o) c) hv M NN (show o < 1000 by omega) (show c < 1000 by omega) np im
      rw [gCl_step] at M1
      rw [q, obind, xu_r, xu_r, xu_r, xu_r, nI_1]
      obtain ⟨tr', ca', pl', np', im', k1, k2, k3⟩ := ih f (c + 1) tr1 ca1 pl1 np1 im1 (by omega) (by omega) M1
      rw [hs, if_pos z] at k3
      exact ⟨tr', ca', pl', np', im', k1, ⟨lF_tr f1.1 k2.1, lF_tr f1.2.1 k2.2.1, lF_tr f1.2.2 k2.2.2⟩, k3⟩
    · have M1 : rM v (gCl k o (c + 1)) sz tr ca pl ag mk lk rt st sT := by
        refine rM_cong M (fun a b hb _ => ?_) (fun j => by rw [gCl_o _ _ _ (by decide), gCl_o _ _ _ (by decide)])
        refine gCl_cong ?_ a
        have : ¬ (0 < k 0 b ∧ k 1 b = o ∧ k 2 b = c) := fun y => z ((gEC_iff k o c).mpr ⟨b, hb, y⟩)
        omega
      rw [if_pos ((nI0 (by omega)).mpr ((gIn_0 (k := k) o c).mpr (Bool.eq_false_iff.mpr z)))]
      obtain ⟨tr', ca', pl', np', im', k1, k2, k3⟩ := ih f (c + 1) tr ca pl np im (by omega) (by omega) M1
      rw [hs, if_neg z] at k3
      exact ⟨tr', ca', pl', np', im', k1, k2, k3⟩
theorem r_cl11 (hv : v < 22) {k : GH} (N : iN k) : ∀ m f o (tr ca pl np im : Nat → Int32), o + m = gTr k → m < f → rM v (gCl k o 0) sz tr ca pl ag mk lk rt st sT →
    ∃ tr' ca' pl' np' im', rM v (gCl k (gTr k) 0) sz tr' ca' pl' ag mk lk rt st sT ∧ (lF v tr tr' ∧ lF v ca ca' ∧ lF v pl pl') ∧
      mX12_closes_11 (nI v) sz f (nI (fb_ct (gET k) o)) (nI (gTr k)) (nI o) tr ca pl np im = some (tr', ca', pl', np', im') := by
  have hT := gTr_le N
  intro m
  induction m with
  | zero =>
    intro f o tr ca pl np im hm hf M
    obtain ⟨f, rfl⟩ : ∃ q, f = q + 1 := ⟨f - 1, by omega⟩
    have ho : o = gTr k := by omega
    subst ho
    refine ⟨tr, ca, pl, np, im, M, ⟨lF_rf v _, lF_rf v _, lF_rf v _⟩, ?_⟩
    rw [mX12_closes_11, if_neg (nI_nlt (by omega) (by omega))]
  | succ m ih =>
    intro f o tr ca pl np im hm hf M
    obtain ⟨f, rfl⟩ : ∃ q, f = q + 1 := ⟨f - 1, by omega⟩
    have NN := iN_cl N o 0
    rw [mX12_closes_11, if_pos (nI_lt (by omega) (by omega)), r_cars hv M NN (by omega), obind, gCl_cars]
    have hC := gCa_le N o
    obtain ⟨tr1, ca1, pl1, np1, im1, M1, f1, q⟩ := r_cl32 hv N (show o < 100 by omega) (nI (gTr k)) (fun zx2_11 zx3_11 zx4_11 za_trainOf_11 za_carOf_11 za_placeOf_11 za_newPlace_11 za_isMoved_11 => mX12_closes_11 (nI v) sz f zx2_11 zx3_11 zx4_11 za_trainOf_11 za_carOf_11 za_placeOf_11 za_newPlace_11 za_isMoved_11) (gCa k o) xfuel 0 tr ca pl np im (Nat.zero_add _) (by unfold xfuel; omega) M
    have q : mX12_closes_32 (nI v) sz (nI (fb_ct (gET k) o)) (nI (gTr k)) (nI o) (fun zx2_11 zx3_11 zx4_11 za_trainOf_11 za_carOf_11 za_placeOf_11 za_newPlace_11 za_isMoved_11 => mX12_closes_11 (nI v) sz f zx2_11 zx3_11 zx4_11 za_trainOf_11 za_carOf_11 za_placeOf_11 za_newPlace_11 za_isMoved_11) xfuel (0 : Int32) (nI (gCa k o)) (0 : Int32) tr ca pl np im = _ := q
    rw [q]
    obtain ⟨tr', ca', pl', np', im', k1, k2, k3⟩ := ih f (o + 1) tr1 ca1 pl1 np1 im1 (by omega) (by omega) M1
    exact ⟨tr', ca', pl', np', im', k1, ⟨lF_tr f1.1 k2.1, lF_tr f1.2.1 k2.2.1, lF_tr f1.2.2 k2.2.2⟩, k3⟩
theorem r_closes (hv : v < 22) {k : GH} (M : rM v k sz tr ca pl ag mk lk rt st sT) (N : iN k) (np im : Nat → Int32) :
    ∃ tr' ca' pl' np' im', rM v (gCl k (gTr k) 0) sz tr' ca' pl' ag mk lk rt st sT ∧ (lF v tr tr' ∧ lF v ca ca' ∧ lF v pl pl') ∧ mX12_closes (nI v) sz tr ca pl np im = some (tr', ca', pl', np', im') := by
  unfold mX12_closes
  rw [r_trains hv M N, obind]
  have hT := gTr_le N
  have M0 : rM v (gCl k 0 0) sz tr ca pl ag mk lk rt st sT := rM_cong M (fun a b _ _ => gCl_n (by omega) a) (fun j => gCl_o k 0 0 (by decide) j)
  obtain ⟨tr', ca', pl', np', im', k1, k2, k3⟩ := r_cl11 hv N (gTr k) xfuel 0 tr ca pl np im (Nat.zero_add _) (by unfold xfuel; omega) M0
  exact ⟨tr', ca', pl', np', im', k1, k2, k3⟩
end SD
