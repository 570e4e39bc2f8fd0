/-- things told, laid one behind the other -/
def gLys (P : NP) : Nat → GH
  | 0 => fun _ _ => 0
  | t + 1 => gNew (gLys P t) t (P 2 t) (gTrn P t) (P 0 0)
def gPx (P : NP) (m : Nat) : GH := fun a b => if a = 6 then (if b < m then P 5 b else 0) else gLys P (P 0 3) a b
/-- the heap of a text -/
def gHp (P : NP) : GH := fun a b => if a = 6 then (if b < 4 * P 0 3 then P 5 b else 0) else if a = 7 then (if b < 8 then P 7 b else 0) else gLys P (P 0 3) a b
section LY
variable {P : NP} {L : List (Nat × Nat)}
theorem gLys_o (t : Nat) {a : Nat} (h : 6 ≤ a) (b : Nat) : gLys P t a b = 0 := by
  induction t with
  | zero => rfl
  | succ t ih => rw [gLys, gNew_o h]; exact ih
theorem gLys_w (hP : nOkP P L) (I : nInv P L) : ∀ t, t ≤ P 0 3 → gW (gLys P t) ∧ (∀ u, u < t → 1 ≤ gLys P t 0 u) ∧ (∀ u, t ≤ u → gLys P t 0 u = 0) ∧ gTr (gLys P t) = (if t = 0 then 0 else gTrn P (t - 1) + 1) := by
  obtain ⟨p1, p2, p3, p4, p5, p6, p7, p8, p9, p10, p11⟩ := hP
  intro t
  induction t with
  | zero =>
    intro _
    refine ⟨⟨fun u hu => ⟨by show 0 ≤ 99; omega, by show 0 ≤ 99; omega, by show 0 ≤ 1; omega, fun _ => rfl, rfl⟩, fun u hu p => absurd p (show ¬ 0 < 0 by decide), fun u hu p => absurd p (show ¬ 0 < 0 by decide), fun u hu p => absurd p (show ¬ 0 < 0 by decide), fun u v hu hv p => absurd p (show ¬ 0 < 0 by decide), ⟨fun j hj => ⟨by show 0 ≤ 40; omega, fun s e => absurd e (show ¬ 0 = s + 1 by omega)⟩, fun k hk => ⟨by show 0 ≤ 40; omega, fun s e => absurd e (show ¬ 0 = s + 1 by omega)⟩⟩, fun u hu p k hk => rfl⟩, fun u hu => by omega, fun u _ => rfl, ?_⟩
    rw [if_pos rfl]
    exact bmx_eq (fun u hu p => absurd (of_decide_eq_true p) (show ¬ 0 < 0 by decide)) (fun h => absurd h (by decide))
  | succ t ih =>
    intro ht
    obtain ⟨W, w1, w2, w3⟩ := ih (by omega)
    have sz := I.1 t (by omega)
    have wt : gTrn P t = gTr (gLys P t) ∨ gTrn P t + 1 = gTr (gLys P t) := by
      rw [w3]
      cases t with
      | zero => left; rfl
      | succ s =>
        rw [if_neg (by omega), Nat.add_sub_cancel, gTrn]
        have := p9 (s + 1)
        omega
    refine ⟨gW_new W (by omega) (w2 t (by omega)) sz.1 (by omega) (by omega), fun u hu => ?_, fun u hu => ?_, ?_⟩
    · by_cases e : u = t
      · subst e; rw [gLys, gNew_0]; exact sz.1
      · rw [gLys, gNew_n e]; exact w1 u (by omega)
    · rw [gLys, gNew_n (by omega)]; exact w2 u (by omega)
    · rw [if_neg (by omega), gLys, gNew_tr W (by omega) (w2 t (by omega)) sz.1 wt, Nat.add_sub_cancel]
theorem gHp_w (hP : nOkP P L) (I : nInv P L) : gW (gHp P) ∧ gTr (gHp P) = gTr (gLys P (P 0 3)) ∧ ∀ t, t < 40 → (0 < gHp P 0 t ↔ t < P 0 3) := by
  obtain ⟨W, w1, w2, w3⟩ := gLys_w hP I (P 0 3) (Nat.le_refl _)
  have p4 := hP.2.2.2.1
  have th : ∀ t, t < P 0 3 → gTh (gHp P) t = true := fun t ht => decide_eq_true (show 0 < gLys P (P 0 3) 0 t by have := w1 t ht; omega)
  refine ⟨⟨W.1, W.2.1, W.2.2.1, W.2.2.2.1, W.2.2.2.2.1, ⟨fun j hj => ?_, fun k hk => ?_⟩, fun t ht h0 k hk => ?_⟩, rfl, fun t ht => ⟨fun h => ?_, fun h => ?_⟩⟩
  · show (if j < 4 * P 0 3 then P 5 j else 0) ≤ 40 ∧ ∀ t, (if j < 4 * P 0 3 then P 5 j else 0) = t + 1 → gTh (gHp P) t = true
    have := (I.2.1 (j / 4) (j % 4) (by omega)).1
    rw [show 4 * (j / 4) + j % 4 = j by omega] at this
    by_cases q : j < 4 * P 0 3
    · rw [if_pos q]; exact ⟨by omega, fun t e => th t (by omega)⟩
    · rw [if_neg q]; exact ⟨by omega, fun t e => absurd e (by omega)⟩
  · show (if k < 8 then P 7 k else 0) ≤ 40 ∧ ∀ t, (if k < 8 then P 7 k else 0) = t + 1 → gTh (gHp P) t = true
    have := (I.2.2.2.1 k).1
    rw [if_pos hk]
    exact ⟨by omega, fun t e => th t (by omega)⟩
  · have : ¬ t < P 0 3 := fun q => by
      have := w1 t q
      have h0' : gLys P (P 0 3) 0 t = 0 := h0
      omega
    show (if 4 * t + k < 4 * P 0 3 then P 5 (4 * t + k) else 0) = 0
    rw [if_neg (by omega)]
  · refine Classical.byContradiction (fun q => ?_)
    have h' : 0 < gLys P (P 0 3) 0 t := h
    rw [w2 t (by omega)] at h'
    omega
  · have := w1 t h
    show 0 < gLys P (P 0 3) 0 t
    omega
end LY
section CS
variable {P : NP} {L : List (Nat × Nat)} {un ch sm tq rn cd : Int32} {nmc ps bg lc ln rr co cf cl : Nat → Int32} {du : Bool}
theorem c_cl0 (sz ag lk rt cs tr ca pl : Nat → Int32) (fr : Nat → Int64) : ∃ (sz' ag' lk' rt' cs' : Nat → Int32) (fr' : Nat → Int64), mX10_clear sz ag lk rt cs fr = (0, 0, 0, 0, sz', ag', lk', rt', cs', fr') ∧ cY (gLys P 0) sz' ag' tr ca pl lk' rt' cs' fr' 0 0 0 0 := by
  refine ⟨_, _, _, _, _, _, rfl, ⟨fun t ht => s_fill 40 (by decide) 0 sz t ht, fun t ht p => absurd p (show ¬ 0 < 0 by decide), ⟨fun j hj => s_fill 160 (by decide) (-1) lk j hj, fun k hk => s_fill 8 (by decide) (-1) rt k hk⟩, fun w hw => ?_, fun t ht => ?_, ?_, ?_, ?_, rfl⟩⟩
  · exact absurd hw (by rw [show gTr (gLys P 0) = 0 from bmx_eq (fun u hu p => absurd (of_decide_eq_true p) (show ¬ 0 < 0 by decide)) (fun h => absurd h (by decide))]; omega)
  · have e : mJ7_fill_d0a16 40 (0 : Int64) fr t = 0 := by
      have := fillL_5 0 40 0 fr t (by decide)
      rw [if_pos (by omega)] at this
      exact this
    show zh (mJ7_fill_d0a16 40 (0 : Int64) fr t) _
    rw [e]
    refine zh_cong zh_0 (fun u hu => ?_)
    refine (Bool.eq_false_iff.mpr (fun h => ?_)).symm
    obtain ⟨k, hk, e⟩ := (gLk_iff _ _ _).mp h
    exact absurd e (show ¬ 0 = t + 1 by omega)
  · exact zh_cong zh_0 (fun u hu => rfl)
  · exact zh_cong zh_0 (fun u hu => rfl)
  · rw [show gTr (gLys P 0) = 0 from bmx_eq (fun u hu p => absurd (of_decide_eq_true p) (show ¬ 0 < 0 by decide)) (fun h => absurd h (by decide))]; rfl
theorem c_set6 (hP : nOkP P L) (I : nInv P L) (hc : cPl P L un ch sm tq rn cd nmc ps bg lc ln rr co cf cl du) : ∀ (m t : Nat) (sz ag tr ca pl lk rt cs : Nat → Int32) (fr : Nat → Int64) (th mk : Int64) (tn sp : Int32), t + m = 24 → t ≤ P 0 3 → cY (gLys P t) sz ag tr ca pl lk rt cs fr th mk tn sp →
    ∃ (sz' ag' tr' ca' pl' cs' : Nat → Int32) (th' : Int64) (tn' : Int32), mX10_settle_6 un tq ps bg ln rr m t th mk tn sp sz ag tr ca pl lk rt cs fr = mX10_settle_75 tq ln rr 24 0 th' mk tn' sp sz' ag' tr' ca' pl' lk rt cs' fr ∧ cY (gLys P (P 0 3)) sz' ag' tr' ca' pl' lk rt cs' fr th' mk tn' sp := by
  obtain ⟨p1, p2, p3, p4, p5, p6, p7, p8, p9, p10, p11⟩ := id hP
  obtain ⟨h0, h1, h2, h3, h4, h5, h6, h7, h8, h9, h10, h11, h12, h13⟩ := id hc
  intro m
  induction m with
  | zero =>
    intro t sz ag tr ca pl lk rt cs fr th mk tn sp hm ht Y
    have e : t = P 0 3 := by omega
    subst e
    refine ⟨sz, ag, tr, ca, pl, cs, th, tn, ?_, Y⟩
    rw [mX10_settle_6, ite_self]
  | succ m ih =>
    intro t sz ag tr ca pl lk rt cs fr th mk tn sp hm ht Y
    rw [mX10_settle_6, h3]
    by_cases e : t = P 0 3
    · subst e
      rw [if_neg (nI_nlt (by omega) (by omega))]
      exact ⟨sz, ag, tr, ca, pl, cs, th, tn, rfl, Y⟩
    rw [if_pos (nI_lt (by omega) (by omega))]
    obtain ⟨W, w1, w2, w3⟩ := gLys_w hP I t (by omega)
    have sz1 := I.1 t (by omega)
    have T40 := gTr_40 W
    have eS : mX11_at 24 (nI t) ps = nI (P 2 t) := by rw [s_at 24 t (by omega) (by decide)]; exact (h6 t (by omega)).2
    have eB : mX11_at 24 (nI t) bg = nI (P 3 t) := by rw [s_at 24 t (by omega) (by decide)]; exact h7 t (by omega)
    have p9t := p9 t
    -- the thing is laid in TRAIN w
    have lay : ∀ (w : Nat) (cs1 : Nat → Int32), w = gTrn P t → (w = gTr (gLys P t) ∨ w + 1 = gTr (gLys P t)) → (∀ x, x < w + 1 → cs1 x = nI (gCa (gLys P t) x)) → ∀ K, ∃ (sz' ag' tr' ca' pl' cs' : Nat → Int32) (th' : Int64), mX10_settle_39 un ps ag ca fr lk pl rt sz tr mk sp th t K (nI (w + 1)) cs1 = K th' mk (nI (w + 1)) sp sz' ag' tr' ca' pl' lk rt cs' fr ∧ cY (gLys P (t + 1)) sz' ag' tr' ca' pl' lk rt cs' fr th' mk (nI (w + 1)) sp := by
      intro w cs1 hw hw2 hcs K
      obtain ⟨tr', ca', pl', cs', a1, a2, a3⟩ := c_new (U := P 0 0) W (by omega) (w2 t (by omega)) sz1.1 (by omega) (by omega) hw2 Y hcs
      refine ⟨upd sz t (nI (P 2 t)), upd ag t 0, tr', ca', pl', cs', th ||| mX11_bit (nI t), ?_, ?_⟩
      · unfold mX10_settle_39
        rw [eS, a1, xlet_eq]
        simp only [xu_q]
        rw [nI_pred, h0, a2, xlet_eq]
        simp only [xu_q]
      · rw [gLys, ← hw]; exact a3
    have tnE : tn = nI (gTr (gLys P t)) := Y.2.2.2.2.2.2.2.1
    have csE := Y.2.2.2.1
    have new : ∀ K, gTrn P t = gTr (gLys P t) → ∃ (sz' ag' tr' ca' pl' cs' : Nat → Int32) (th' : Int64), mX10_settle_35 un ps ag ca cs fr lk pl rt sz tr mk sp th tn t K = K th' mk (nI (gTrn P t + 1)) sp sz' ag' tr' ca' pl' lk rt cs' fr ∧ cY (gLys P (t + 1)) sz' ag' tr' ca' pl' lk rt cs' fr th' mk (nI (gTrn P t + 1)) sp := by
      intro K hw
      obtain ⟨sz', ag', tr', ca', pl', cs', th', a1, a2⟩ := lay (gTrn P t) (upd cs (gTrn P t) 0) rfl (Or.inl hw) (fun x hx => by
        by_cases q : x = gTrn P t
        · rw [q, pk_us, hw]
          have : gCa (gLys P t) (gTr (gLys P t)) = 0 := bmx_eq (fun u hu p => by
            have p := of_decide_eq_true p
            have := gTr_lt hu p.1
            omega) (fun h => absurd h (by decide))
          rw [this]; rfl
        · rw [pk_un q]; exact csE x (by omega)) K
      refine ⟨sz', ag', tr', ca', pl', cs', th', ?_, a2⟩
      unfold mX10_settle_35 mX10_beginTrain
      rw [tnE, ← hw, s_put 42 (gTrn P t) (by omega) (by decide), xlet_eq, xlet_eq]
      simp only [xu_q]
      rw [nI_1]
      exact a1
    by_cases t0 : t = 0
    · have hw : gTrn P t = gTr (gLys P t) := by rw [w3, if_pos t0, t0]; rfl
      rw [if_pos (show nI t = 0 by rw [t0]; rfl)]
      obtain ⟨sz', ag', tr', ca', pl', cs', th', a1, a2⟩ := new (fun zf_there_6 zf_marked_6 zf_trains_6 zf_step_6 za_size_6 za_age_6 za_train_6 za_car_6 za_place_6 za_links_6 za_roots_6 za_cars_6 za_from_6 => mX10_settle_6 un tq ps bg ln rr m (t + 1) zf_there_6 zf_marked_6 zf_trains_6 zf_step_6 za_size_6 za_age_6 za_train_6 za_car_6 za_place_6 za_links_6 za_roots_6 za_cars_6 za_from_6) hw
      rw [h3] at a1
      rw [a1]
      have := ih (t + 1) _ _ _ _ _ _ _ _ _ _ _ _ _ (by omega) (by omega) a2
      rw [h3] at this
      exact this
    · rw [if_neg (show ¬ nI t = 0 from nI_ne0 (by omega) (by omega)), eB]
      have w3' : gTr (gLys P t) = gTrn P (t - 1) + 1 := by rw [w3, if_neg t0]
      have gt : gTrn P t = gTrn P (t - 1) + P 3 t := by
        obtain ⟨s, rfl⟩ : ∃ s, t = s + 1 := ⟨t - 1, by omega⟩
        rw [gTrn, Nat.add_sub_cancel]
      by_cases b0 : P 3 t = 0
      · rw [if_pos (show nI (P 3 t) = 0 by rw [b0]; rfl)]
        obtain ⟨sz', ag', tr', ca', pl', cs', th', a1, a2⟩ := lay (gTrn P t) cs rfl (Or.inr (by omega)) (fun x hx => csE x (by omega)) (fun zf_there_6 zf_marked_6 zf_trains_6 zf_step_6 za_size_6 za_age_6 za_train_6 za_car_6 za_place_6 za_links_6 za_roots_6 za_cars_6 za_from_6 => mX10_settle_6 un tq ps bg ln rr m (t + 1) zf_there_6 zf_marked_6 zf_trains_6 zf_step_6 za_size_6 za_age_6 za_train_6 za_car_6 za_place_6 za_links_6 za_roots_6 za_cars_6 za_from_6)
        rw [h3, show nI (gTrn P t + 1) = tn by rw [tnE, w3']; congr 1; omega] at a1
        rw [a1]
        rw [show nI (gTrn P t + 1) = tn by rw [tnE, w3']; congr 1; omega] at a2
        have := ih (t + 1) _ _ _ _ _ _ _ _ _ _ _ _ _ (by omega) (by omega) a2
        rw [h3] at this
        exact this
      · have hw : gTrn P t = gTr (gLys P t) := by omega
        rw [if_neg (show ¬ nI (P 3 t) = 0 from nI_ne0 (by omega) (by omega))]
        obtain ⟨sz', ag', tr', ca', pl', cs', th', a1, a2⟩ := new (fun zf_there_6 zf_marked_6 zf_trains_6 zf_step_6 za_size_6 za_age_6 za_train_6 za_car_6 za_place_6 za_links_6 za_roots_6 za_cars_6 za_from_6 => mX10_settle_6 un tq ps bg ln rr m (t + 1) zf_there_6 zf_marked_6 zf_trains_6 zf_step_6 za_size_6 za_age_6 za_train_6 za_car_6 za_place_6 za_links_6 za_roots_6 za_cars_6 za_from_6) hw
        rw [h3] at a1
        rw [a1]
        have := ih (t + 1) _ _ _ _ _ _ _ _ _ _ _ _ _ (by omega) (by omega) a2
        rw [h3] at this
        exact this
end CS
