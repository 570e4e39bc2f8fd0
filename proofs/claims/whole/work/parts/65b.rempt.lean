section RE
variable {v b : Nat} {h g : GH} {T s : Nat} {sz tr ca pl ag mk lk rt st sT so sf sb cs cv ut : Nat → Int32} {P : GP}
theorem rM_cong3 {k : GH} (M : rM v h sz tr ca pl ag mk lk rt st sT) (e : ∀ a b, b < 40 → a ≠ 6 → k a b = h a b) (e6 : ∀ j, j < 160 → k 6 j = h 6 j) : rM v k sz tr ca pl ag mk lk rt st sT := by
  refine ⟨fun t ht => ?_, fun t ht p => ?_, fun t ht q => ?_, fun j hj => ?_, fun r hr => ?_⟩
  · rw [e 0 t ht (by decide), e 9 t ht (by decide)]; exact M.1 t ht
  · rw [e 0 t ht (by decide)] at p
    rw [e 1 t ht (by decide), e 2 t ht (by decide), e 3 t ht (by decide), e 4 t ht (by decide), e 5 t ht (by decide)]; exact M.2.1 t ht p
  · rw [e 9 t ht (by decide)] at q
    rw [e 10 t ht (by decide)]; exact M.2.2.1 t ht q
  · rw [e6 j hj]; exact M.2.2.2.1 j hj
  · rw [e 7 r (by omega) (by decide)]; exact M.2.2.2.2 r hr
theorem gDr_eq {p q : Nat → Bool} (e : ∀ u, u < 40 → p u = q u) {a c : Nat} (hc : c < 40) (ha : a ≠ 6) : gDr h p a c = gDr h q a c := by
  unfold gDr
  rw [e c hc, if_neg (fun x => ha x.1) (c := a = 6 ∧ p (c / 4) = true), if_neg (fun x => ha x.1) (c := a = 6 ∧ q (c / 4) = true)]
theorem rM_dr (M : rM v h sz tr ca pl ag mk lk rt st sT) {p : Nat → Bool} (e : ∀ u, u < 40 → p u = false) : rM v (gDr h p) sz tr ca pl ag mk lk rt st sT :=
  rM_cong3 M (fun a c hc ha => gDr_n h p ha (e c hc)) (fun j hj => by rw [gDr_6, e (j / 4) (by omega), if_neg (by decide)])
theorem rM_dq {p q : Nat → Bool} (M : rM v (gDr h p) sz tr ca pl ag mk lk rt st sT) (e : ∀ u, u < 40 → q u = p u) : rM v (gDr h q) sz tr ca pl ag mk lk rt st sT :=
  rM_cong3 M (fun a c hc ha => gDr_eq e hc ha) (fun j hj => by rw [gDr_6, gDr_6, e (j / 4) (by omega)])
theorem iN_D (I : mI h T s) (hp : (gPk h).2 = 0) : iN (gDr h (gWt h)) := by
  have N := mI_N I
  have K := iK_fn I hp
  have d : ∀ {a : Nat}, (a = 0 ∨ a = 4 ∨ a = 5) → ∀ t, gDr h (gWt h) a t ≤ h a t := fun ha t => by
    rw [gDr_0 h _ ha]; split <;> omega
  refine ⟨fun t ht => ?_, fun t ht p => ?_, ⟨fun j hj => ?_, fun j hj => ?_⟩⟩
  · have := N.1 t ht
    have a := d (a := 0) (by decide) t
    have c := d (a := 4) (by decide) t
    have e := d (a := 5) (by decide) t
    rw [gDr_o h _ (a := 9) (by decide)]
    omega
  · have a := d (a := 0) (by decide) t
    rw [gDr_o h _ (a := 1) (by decide), gDr_o h _ (a := 2) (by decide), gDr_o h _ (a := 3) (by decide), gDr_o h _ (a := 9) (by decide), gDr_o h _ (a := 10) (by decide)]
    exact N.2.1 t ht (by omega)
  · have := K.1.1 j hj
    rw [gFn_o h s (by decide)] at this
    refine ⟨this.1, fun t e => ?_⟩
    have y := this.2 t e
    unfold gTh at y ⊢
    rw [gFn_o h s (by decide)] at y; exact y
  · have := K.1.2 j hj
    rw [gFn_o h s (by decide)] at this
    refine ⟨this.1, fun t e => ?_⟩
    have y := this.2 t e
    unfold gTh at y ⊢
    rw [gFn_o h s (by decide)] at y; exact y
theorem iN_Q (I : mI h T s) (hp : (gPk h).2 = 0) : iN (gPq (gDr h (gWt h)) s) := by
  have N := iN_D I hp
  have hs := I.2.2.2.2.2.2.1.1
  have hT := I.2.1.1.2
  have c41 : gPc (gDr h (gWt h)) s ≤ 41 := bmx_le (fun t ht p => by
    have p := (of_decide_eq_true p).1
    rw [gDr_o h _ (by decide)]
    have : 0 < h 0 t := by rw [gDr_0 h _ (Or.inl rfl)] at p; split at p <;> omega
    have := mI_car I ht this
    omega)
  refine ⟨fun t ht => ?_, fun t ht p => ?_, ⟨fun j hj => ?_, fun j hj => ?_⟩⟩
  · have := N.1 t ht
    rw [gPq_o _ s (by decide), gPq_o _ s (by decide), gPq_o _ s (by decide)]
    refine ⟨this.1, this.2.1, this.2.2.1, ?_⟩
    by_cases z : s ≠ 0 ∧ gDr h (gWt h) 9 t = 1
    · rw [gPq_9 _ s z]; omega
    · rw [gPq_n _ s z]; exact this.2.2.2
  · rw [gPq_o _ s (by decide)] at p
    have := N.2.1 t ht p
    rw [gPq_o _ s (a := 3) (by decide), gPq_o _ s (a := 10) (by decide)]
    by_cases z : s ≠ 0 ∧ gDr h (gWt h) 9 t = 1
    · rw [gPq_1 _ s z, gPq_2 _ s z, gPq_9 _ s z]
      exact ⟨by omega, by omega, this.2.2.1, fun q => absurd q (by decide)⟩
    · rw [gPq_n _ s z, gPq_n _ s z, gPq_n _ s z]
      exact this
  · have := N.2.2.1 j hj
    rw [gPq_o _ s (by decide)]
    refine ⟨this.1, fun t e => ?_⟩
    have y := this.2 t e
    unfold gTh at y ⊢
    rw [gPq_o _ s (by decide)]; exact y
  · have := N.2.2.2 j hj
    rw [gPq_o _ s (by decide)]
    refine ⟨this.1, fun t e => ?_⟩
    have y := this.2 t e
    unfold gTh at y ⊢
    rw [gPq_o _ s (by decide)]; exact y
/-- what the reference's closing leaves is the shift of what stands -/
theorem rM_sh (I : mI h T s) (hp : (gPk h).2 = 0) (M : rM v (gCl (gPq (gDr h (gWt h)) s) (gTr (gPq (gDr h (gWt h)) s)) 0) sz tr ca pl ag mk lk rt st sT) : rM v (gSh (gFn h s)) sz tr ca pl ag mk lk rt st sT := by
  have S := gSp_fn I hp
  have e9 : ∀ u, gDr h (gWt h) 9 u = h 9 u := gDr_o h _ (by decide)
  have q : ∀ a b, a ≠ 3 → gPq (gDr h (gWt h)) s a b = gFn h s a b := by
    intro a b ha
    by_cases z : s ≠ 0 ∧ h 9 b = 1
    · have y := gFn_y h s z
      by_cases a1 : a = 1
      · subst a1; rw [gPq_1 _ s (by rw [e9]; exact z), y.1]
      · by_cases a2 : a = 2
        · subst a2; rw [gPq_2 _ s (by rw [e9]; exact z), y.2.1]
        · by_cases a9 : a = 9
          · subst a9; rw [gPq_9 _ s (by rw [e9]; exact z), y.2.2.2]
          · rw [gPq_o _ s ⟨a1, a2, a9⟩, gFn_o h s ⟨a1, a2, ha, a9⟩]
    · rw [gPq_n _ s (by rw [e9]; exact z), gFn_n h s z]
  have C := fun b hb h0 => cl_sh (Q := gPq (gDr h (gWt h)) s) S (fun b => q 0 b (by decide)) (fun b => q 1 b (by decide)) (fun b => q 2 b (by decide)) (fun b hb h0 => gRk_fn I hp hb h0) (b := b) hb h0
  refine rM_cong2 M (fun t ht => ?_) (fun t ht p => ?_) (fun t ht => ?_) (fun j => ?_) (fun j => ?_)
  · rw [gSh_o _ (by decide), gSh_o _ (by decide), gCl_o _ _ _ (by decide), gCl_o _ _ _ (by decide), q 0 t (by decide), q 9 t (by decide)]; exact ⟨rfl, rfl⟩
  · rw [gCl_o _ _ _ (by decide), q 0 t (by decide)] at p
    obtain ⟨c1, c2, c3⟩ := C t ht p
    rw [c1, c2, c3, gSh_o _ (a := 4) (by decide), gSh_o _ (a := 5) (by decide), gCl_o _ _ _ (a := 4) (by decide), gCl_o _ _ _ (a := 5) (by decide), q 4 t (by decide), q 5 t (by decide)]
    exact ⟨rfl, rfl, rfl, rfl, rfl⟩
  · rw [gSh_o _ (by decide)]
    have := (S.2.2.2.2.2.1 t ht).2.2.2.2
    omega
  · rw [gSh_o _ (by decide), gCl_o _ _ _ (by decide), q 6 j (by decide)]
  · rw [gSh_o _ (by decide), gCl_o _ _ _ (by decide), q 7 j (by decide)]
def gX (P : GP) (g : GH) : GM := gLp P 40 (g, gTr g, 0, true, 0, 0)
abbrev TE : Type := Int32 × Int32 × Int32 × Int32 × Bool × (Nat → Int32) × (Nat → Int32) × (Nat → Int32) × (Nat → Int32) × (Nat → Int32) × (Nat → Int32) × (Nat → Int32) × (Nat → Int64) × (Nat → Int32) × (Nat → Int32) × (Nat → Int32) × (Nat → Int32) × (Nat → Int32)
theorem r_empties (hv : v < 22) (hb : b < 2) (hF : rF b sf sb cs cv P) (hU : ut b = nI P.2.2) (hU2 : P.2.2 < 1000) (W : gW g) (hT : gTr g ≠ 0) (M : rM v g sz tr ca pl ag mk lk rt st sT) (hs : so v = nI (g 8 0)) (hs2 : g 8 0 ≤ 1000) (rn : Int32) (sk : Nat → Int64) (ask np im : Nat → Int32) :
    (mI (gX P g).1 (gX P g).2.1 (gX P g).2.2.1 ∧ (gPk (gX P g).1).2 = 0 ∧ (gX P g).1 8 0 = g 8 0) ∧
    ∃ rn' sz' tr' ca' pl' ag' mk' lk' sk' ask' np' im' st' sT', rM v (gSh (gFn (gX P g).1 (gX P g).2.2.1)) sz' tr' ca' pl' ag' mk' lk' rt st' sT' ∧ (∀ t, t < 40 → st' t = 0) ∧ (lF v sz sz' ∧ lF v tr tr' ∧ lF v ca ca' ∧ lF v pl pl' ∧ lF v ag ag' ∧ lF v mk mk' ∧ lG v lk lk') ∧
      mX12_empties (nI v) (nI b) rn 0 0 0 ut sf sb cs cv so sz tr ca pl ag mk lk rt sk ask np im st sT = some ((rn', nI (fb_ct (gWt (gX P g).1) 40), nI (gX P g).2.2.2.2.1, nI (gX P g).2.2.2.2.2, decide (fb_ct (gWt (gX P g).1) 40 = 0) && (gX P g).2.2.2.1, sz', tr', ca', pl', ag', mk', lk', sk', ask', np', im', st', sT') : TE) := by
  have N := gW_N W
  have I := mI_of W hT
  unfold mX12_empties
  rw [r_trains hv M N, obind, r_next hv M N, obind, xu_r]
  have e1 : nI (gTr g) - 1 = nI (gTr g - 1) := by rw [show gTr g = (gTr g - 1) + 1 by omega, nI_pred]; rfl
  rw [e1]
  obtain ⟨tr1, ca1, pl1, mk1, sk1, ask1, st1, sT1, rn1, ⟨I1, hp, h8⟩, ⟨M1, f1, f2, f3, f4⟩, q1⟩ := r_e20 (so := so) hv hb hF hU hU2 0 np im 40 xfuel 40 (g, gTr g, 0, true, 0, 0) tr ca pl mk sk ask st sT (fb_ct_le _ 40) (by unfold xfuel; omega) (Nat.le_refl _) I M hs hs2
  have hX : gLp P 40 (g, gTr g, 0, true, 0, 0) = gX P g := rfl
  rw [hX] at I1 hp h8 M1 q1
  refine ⟨⟨I1, hp, h8⟩, ?_⟩
  have q1 : mX12_empties_20 (nI v) (nI b) 0 ut sf sb cs cv so sz ag lk rt np im xfuel (nI (gTr g - 1)) (-1) 1 (bno (gPk g).2) (nI (gPk g).1) 0 0 tr ca pl mk sk ask st sT = _ := q1
  rw [q1]
  have N1 := mI_N I1
  obtain ⟨im2, him, q2⟩ := r_e183 hv M1 N1 0 (bno (gX P g).2.2.1) (if (gX P g).2.2.2.1 = true then 1 else 0) rn1 (nI (gX P g).2.2.2.2.1) (nI (gX P g).2.2.2.2.2) np ask1 sk1 40 0 im rfl (fun t ht => by omega)
  rw [q2]
  have M2 : rM v (gDr (gX P g).1 (fun u => decide (u < 0) && gWt (gX P g).1 u)) sz tr1 ca1 pl1 ag mk1 lk rt st1 sT1 := rM_dr M1 (fun u _ => rfl)
  obtain ⟨sz3, tr3, ca3, pl3, ag3, mk3, lk3, M3, ⟨g1, g2, g3, g4, g5, g6, g7⟩, q3⟩ := r_e221 hv (gWt (gX P g).1) np im2 him (bno (gX P g).2.2.1) (if (gX P g).2.2.2.1 = true then 1 else 0) rn1 (nI (gX P g).2.2.2.2.1) (nI (gX P g).2.2.2.2.2) sk1 ask1 40 0 sz tr1 ca1 pl1 ag mk1 lk rfl M2
  have q3 : mX12_empties_221 (nI v) np 40 0 (bno (gX P g).2.2.1) (if (gX P g).2.2.2.1 = true then 1 else 0) rn1 0 (nI (gX P g).2.2.2.2.1) (nI (gX P g).2.2.2.2.2) sz tr1 ca1 pl1 ag mk1 lk sk1 ask1 im2 st1 sT1 = _ := q3
  rw [q3, mX12_empties_221]
  have M4 := rM_dq (q := gWt (gX P g).1) M3 (fun u hu => by rw [decide_eq_true hu, Bool.true_and])
  have hs500 : (gX P g).2.2.1 < 500 := by
    have := I1.2.2.2.2.2.2.1.1
    have := I1.2.1.1.2
    omega
  obtain ⟨tr5, ca5, st5, M5, ⟨h1, h2⟩, h3, q5⟩ := r_puts hv M4 (iN_D I1 hp) hs500 (fun e t ht => by
    rw [gDr_o _ _ (by decide)]
    have a := (I1.1 t ht).2.2.2.1
    have c := I1.2.2.2.2.2.2.1.2.2.1 t ht
    by_cases z : (gX P g).1 9 t = 1
    · exact absurd e (c z).1
    · omega)
  rw [q5, obind, xu_r, xu_r]
  obtain ⟨tr6, ca6, pl6, np6, im6, M6, ⟨k1, k2, k3⟩, q6⟩ := r_closes hv M5 (iN_Q I1 hp) np im2
  rw [q6, obind, xu_r, xu_r, xu_r, xu_r]
  have M7 := rM_sh I1 hp M6
  have l40 := fb_ct_le (gWt (gX P g).1) 40
  refine ⟨rn1, sz3, tr6, ca6, pl6, ag3, mk3, lk3, sk1, ask1, np6, im6, st5, sT1, M7, h3, ⟨g1, lF_tr f1 (lF_tr g2 (lF_tr h1 k1)), lF_tr f2 (lF_tr g3 (lF_tr h2 k2)), lF_tr f3 (lF_tr g4 k3), g5, lF_tr f4 g6, g7⟩, ?_⟩
  by_cases z : fb_ct (gWt (gX P g).1) 40 = 0
  · rw [if_pos ((nI0 (by omega)).mpr z), decide_eq_true z, Bool.true_and]
    cases (gX P g).2.2.2.1 with
    | true => rw [if_pos rfl, if_neg (show ¬ (1 : Int32) = 0 by decide)]
    | false => rw [if_pos (show (if false = true then (1 : Int32) else 0) = 0 from rfl)]
  · rw [if_neg (fun q => z ((nI0 (by omega)).mp q)), decide_eq_false z, Bool.false_and]
end RE
