def gCv (h : GH) (w : Nat) : Nat := if w = 0 ∧ gCa h 0 = 0 then 1 else gCa h w
section C2
variable {h : GH} {T n s : Nat} {f : Nat → Nat} {sz ag tr ca pl lk rt cs wa : Nat → Int32} {fr ab : Nat → Int64} {th mk ro le : Int64} {tn sp : Int32} {P : GP}
theorem c_ab {k : GH} (hab : ∀ w, w < 42 → zh (ab w) (fun t => decide (0 < h 0 t ∧ gTn h t = w))) {t w : Nat} (ht : t < 40) (hw : w < 42) (h0 : 0 < h 0 t) (hT : gTn h t = 0) (e0 : ∀ u, u < 40 → k 0 u = h 0 u) (e1 : gTn k t = w) (e2 : ∀ u, u < 40 → u ≠ t → gTn k u = gTn h u) :
    ∀ x, x < 42 → zh (mX11_putMask 42 (nI w) ((mX11_maskAt 42 (nI w) (vp_updL ab (0 : Int32).toNatClampNeg ((ab (0 : Int32).toNatClampNeg) &&& ((mX11_bit (nI t)) ^^^ (-1))))) ||| (mX11_bit (nI t))) (vp_updL ab (0 : Int32).toNatClampNeg ((ab (0 : Int32).toNatClampNeg) &&& ((mX11_bit (nI t)) ^^^ (-1)))) x) (fun u => decide (0 < k 0 u ∧ gTn k u = x)) := by
  have c0 : (0 : Int32).toNatClampNeg = 0 := rfl
  rw [c0, s_maskAt 42 w hw (by decide), s_putMask 42 w hw (by decide)]
  have a1 : ∀ x, x < 42 → zh (vp_updL ab 0 (ab 0 &&& (mX11_bit (nI t) ^^^ (-1))) x) (fun u => decide (0 < h 0 u ∧ gTn h u = x) && !decide (u = t)) := by
    intro x hx
    by_cases z : x = 0
    · subst z
      rw [pk_uLs]
      exact zh_del ht (hab 0 hx) (fun u _ => rfl)
    · rw [pk_uLn z]
      refine zh_cong (hab x hx) (fun u hu => ?_)
      by_cases y : u = t
      · subst y
        rw [decide_eq_false (show ¬ (0 < h 0 u ∧ gTn h u = x) from fun q => z (q.2.symm.trans hT)), Bool.false_and]
      · rw [decide_eq_false y]; simp
  intro x hx
  by_cases z : x = w
  · subst z
    rw [pk_uLs]
    refine zh_ins ht (a1 x hx) (fun u hu => ?_)
    by_cases y : u = t
    · subst y
      rw [decide_eq_true (show 0 < k 0 u ∧ gTn k u = x from ⟨by rw [e0 u hu]; exact h0, e1⟩), decide_eq_true (show u = u from rfl), Bool.or_true]
    · rw [e0 u hu, e2 u hu y, decide_eq_false y]; simp
  · rw [pk_uLn z]
    refine zh_cong (a1 x hx) (fun u hu => ?_)
    by_cases y : u = t
    · subst y
      rw [decide_eq_true (show u = u from rfl), decide_eq_false (show ¬ (0 < k 0 u ∧ gTn k u = x) from fun q => z (q.2.symm.trans e1))]; simp
    · rw [e0 u hu, e2 u hu y, decide_eq_false y]; simp
theorem gNl_ca (I : mI h T s) {t w : Nat} (ht : t < 40) (hw : gWt h t = true) (h0 : w = 0 → gZ0 h) : gNl h t w = gCa h w := by
  have t1 := (gWt_iff h t).mp hw
  obtain ⟨n1, n2, n3, n4⟩ := mI_nl I ht hw h0
  refine (bmx_eq (fun u hu p => ?_) (fun p => ?_)).symm
  · have p := of_decide_eq_true p
    by_cases e : u = t
    · subst e
      have := n3 (by omega)
      omega
    · exact n1 u hu p.1 e p.2
  · obtain ⟨u, z, a, b, c⟩ := n2 p
    exact ⟨u, z.1, decide_eq_true ⟨z.2.1, b⟩, c⟩
theorem gCv_stay (h : GH) (t w x : Nat) : gCv (gSy h t w) x = gCv h x := by
  have e : ∀ x, gCa (gSy h t w) x = gCa h x := fun x => by
    unfold gCa
    refine bmx_cong (fun u hu => ?_) (fun u hu _ => gSy_o h t w (by decide) u)
    rw [gSy_o h t w (by decide), gSy_o h t w (by decide)]
  unfold gCv
  rw [e, e]
theorem gCv_lay (I : mI h T s) {t w x U : Nat} (ht : t < 40) (hw : gWt h t = true) (h0 : w = 0 → gZ0 h) (hx : x ≠ w) : gCv (gLy h t w U) x = gCv h x := by
  have t1 := (gWt_iff h t).mp hw
  have v0 : ∀ u, gLy h t w U 0 u = h 0 u := gLy_o h t w U (by decide)
  by_cases z : x = 0
  · subst z
    have a : gCa (gLy h t w U) 0 ≤ gCa h 0 := bmx_le (fun u hu p => by
      have p := of_decide_eq_true p
      rw [v0] at p
      by_cases e : u = t
      · subst e; rw [gLy_1] at p; exact absurd p.2.symm hx
      · rw [gLy_n h t w U e] at p ⊢
        exact gCa_lt hu p.1 p.2)
    have b : ∀ m, 1 ≤ m → gCa (gLy h t w U) 0 ≤ m → gCa h 0 ≤ m := fun m h1 h2 => bmx_le (fun u hu p => by
      have p := of_decide_eq_true p
      by_cases e : u = t
      · subst e; omega
      · have := gCa_lt (k := gLy h t w U) (w := 0) hu (by rw [v0]; exact p.1) (by rw [gLy_n h t w U e]; exact p.2)
        rw [gLy_n h t w U e] at this
        omega)
    have c : 1 ≤ gCa h 0 := by have := gCa_lt ht t1.1 t1.2.1; omega
    unfold gCv
    by_cases y : gCa (gLy h t w U) 0 = 0
    · have := b 1 (by omega) (by omega)
      rw [if_pos ⟨rfl, y⟩, if_neg (by omega)]; omega
    · have := b (gCa (gLy h t w U) 0) (by omega) (Nat.le_refl _)
      rw [if_neg (by omega), if_neg (by omega)]; omega
  · unfold gCv
    rw [if_neg (fun q => z q.1), if_neg (fun q => z q.1)]
    unfold gCa
    refine bmx_cong (fun u hu => ?_) (fun u hu p => ?_)
    · rw [v0, decide_eq_decide]
      by_cases e : u = t
      · subst e; rw [gLy_1]
        exact ⟨fun q => absurd q.2.symm hx, fun q => absurd (q.2.symm.trans t1.2.1) z⟩
      · rw [gLy_n h t w U e]
    · have p := of_decide_eq_true p
      have e : u ≠ t := fun e => by subst e; exact z (p.2.symm.trans t1.2.1)
      exact gLy_n h t w U e
theorem gCv_lay2 (I : mI h T s) {t w U : Nat} (ht : t < 40) (hw : gWt h t = true) (h0 : w = 0 → gZ0 h) : gCv (gLy h t w U) w = if gNw h t w U = true then gNl h t w + 1 else gNl h t w := by
  have t1 := (gWt_iff h t).mp hw
  obtain ⟨n1, n2, n3, n4⟩ := mI_nl I ht hw h0
  obtain ⟨c1, c2, c3⟩ := gNc_le h t w U
  have v0 : ∀ u, gLy h t w U 0 u = h 0 u := gLy_o h t w U (by decide)
  have e : gCa (gLy h t w U) w = if gNw h t w U = true then gNl h t w + 1 else gNl h t w := by
    refine bmx_eq (fun u hu p => ?_) (fun p => ?_)
    · have p := of_decide_eq_true p
      rw [v0] at p
      by_cases e : u = t
      · subst e
        rw [gLy_2]
        cases y : gNw h u w U with
        | true => rw [if_pos rfl]; omega
        | false => have := c2 y; rw [if_neg (by decide)]; omega
      · rw [gLy_n h t w U e] at p ⊢
        have := n1 u hu p.1 e p.2
        split <;> omega
    · cases y : gNw h t w U with
      | true => exact ⟨t, ht, decide_eq_true ⟨by rw [v0]; exact t1.1, gLy_1 h t w U⟩, by rw [gLy_2, if_pos rfl, c3 y]⟩
      | false =>
        refine ⟨t, ht, decide_eq_true ⟨by rw [v0]; exact t1.1, gLy_1 h t w U⟩, ?_⟩
        rw [gLy_2, if_neg (by decide)]
        exact (c2 y).2
  unfold gCv
  rw [e, if_neg]
  rintro ⟨a, b⟩
  subst a
  have := n3 rfl
  rw [e] at b
  split at b <;> omega
theorem gTn_ly (h : GH) (t w U : Nat) (h9 : h 9 t = 0) : gTn (gLy h t w U) t = w ∧ ∀ u, u ≠ t → gTn (gLy h t w U) u = gTn h u := by
  refine ⟨?_, fun u e => ?_⟩
  · unfold gTn
    rw [gLy_o h t w U (a := 9) (by decide), h9, if_neg (by decide), gLy_1]
  · unfold gTn
    rw [gLy_n h t w U e, gLy_n h t w U e, gLy_n h t w U e]
theorem gTn_sy (h : GH) (t w : Nat) : gTn (gSy h t w) t = w ∧ ∀ u, u ≠ t → gTn (gSy h t w) u = gTn h u := by
  refine ⟨?_, fun u e => ?_⟩
  · unfold gTn
    rw [gSy_9, if_pos rfl, gSy_10]
  · unfold gTn
    rw [gSy_n h t w e, gSy_n h t w e, gSy_n h t w e]
/-- the mask of those that wait, one less -/
theorem c_le {k : GH} (hle : zh le (gWt h)) {t : Nat} (ht : t < 40) (e1 : ∀ u, gWt k u = true → u ≠ t ∧ gWt h u = true) (e2 : ∀ u, u ≠ t → gWt h u = true → gWt k u = true) : zh (le &&& (mX11_bit (nI t) ^^^ (-1))) (gWt k) := by
  refine zh_del ht hle (fun u hu => ?_)
  by_cases z : gWt k u = true
  · have := e1 u z
    rw [z, this.2, decide_eq_false this.1]; rfl
  · rw [Bool.eq_false_iff.mpr z]
    by_cases y : u = t
    · rw [decide_eq_true y]; simp
    · rw [Bool.eq_false_iff.mpr (fun q => z (e2 u y q))]; rfl
theorem c_mk {k : GH} (hmk : zh mk (fun t => decide (h 5 t = 1))) {t : Nat} (ht : t < 40) (e1 : k 5 t = 0) (e2 : ∀ u, u ≠ t → k 5 u = h 5 u) : zh (mk &&& (mX11_bit (nI t) ^^^ (-1))) (fun t => decide (k 5 t = 1)) := by
  refine zh_del ht hmk (fun u hu => ?_)
  by_cases y : u = t
  · subst y; rw [e1]; simp
  · rw [e2 u y, decide_eq_false y]; simp
/-- a TRAIN is begun -/
theorem c_begin (I : mI h T s) (hcs : ∀ w, w < T → cs w = nI (gCv h w)) {T' r : Nat} (hT : T' = if r < 3 ∧ T = 1 then 2 else T) : ∀ w, w < T' → (if r < 3 ∧ T = 1 then upd cs 1 0 else cs) w = nI (gCv h w) := by
  intro w hw
  by_cases z : r < 3 ∧ T = 1
  · rw [if_pos z] at hT ⊢
    by_cases y : w = 1
    · subst y
      rw [pk_us]
      have : gCa h 1 = 0 := by
        refine bmx_eq (fun u hu p => ?_) (fun p => absurd p (by decide))
        have p := of_decide_eq_true p
        have := (I.2.1.2 u hu p.1).1
        omega
      unfold gCv
      rw [if_neg (fun q => absurd q.1 (by decide)), this]; rfl
    · rw [pk_un y]; exact hcs w (by omega)
  · rw [if_neg z] at hT ⊢
    exact hcs w (by omega)
theorem cM_lay (I : mI h T s) (M : cM h T sz ag tr ca pl lk rt cs fr mk tn sp ab ro le) {t w T' U : Nat} {cs1 : Nat → Int32} (ht : t < 40) (hw : gWt h t = true) (h0 : w = 0 → gZ0 h) (hwT : w < T') (hT' : T' ≤ 41) (hcs : ∀ w, w < T' → cs1 w = nI (gCv h w)) (hU : U < 1000) :
    ∃ tr' ca' pl' cs', mX10_lay (nI t) (nI w) (nI U) sz tr ca pl cs1 = (tr', ca', pl', cs') ∧
      cM (gLy h t w U) T' sz ag tr' ca' pl' lk rt cs' fr (mk &&& (mX11_bit (nI t) ^^^ (-1))) (nI T') sp (mX11_putMask 42 (nI w) ((mX11_maskAt 42 (nI w) (vp_updL ab (0 : Int32).toNatClampNeg ((ab (0 : Int32).toNatClampNeg) &&& ((mX11_bit (nI t)) ^^^ (-1))))) ||| (mX11_bit (nI t))) (vp_updL ab (0 : Int32).toNatClampNeg ((ab (0 : Int32).toNatClampNeg) &&& ((mX11_bit (nI t)) ^^^ (-1))))) ro (le &&& (mX11_bit (nI t) ^^^ (-1))) := by
  obtain ⟨m1, m2, ⟨m3, m3'⟩, m4, m5, m6, m7, m8, m9, m10, m11⟩ := M
  have t1 := (gWt_iff h t).mp hw
  have N := mI_N I
  obtain ⟨n1, n2, n3, n4⟩ := mI_nl I ht hw h0
  have v0 : ∀ u, gLy h t w U 0 u = h 0 u := gLy_o h t w U (by decide)
  have v6 : ∀ u, gLy h t w U 6 u = h 6 u := gLy_o h t w U (by decide)
  have v7 : ∀ u, gLy h t w U 7 u = h 7 u := gLy_o h t w U (by decide)
  have hm : cs1 w = nI (gNl h t w) := by
    rw [hcs w hwT, gNl_ca I ht hw h0]
    unfold gCv
    rw [if_neg]
    rintro ⟨a, b⟩
    subst a
    have := n3 rfl
    rw [gNl_ca I ht hw h0] at this
    omega
  have L := c_lay (sz := sz) (tr := tr) (ca := ca) (pl := pl) (cs := cs1) (S := h 0) (Wf := h 1) (C := fun u => if h 9 u = 1 then 1000 else h 2 u) m1 (fun u hu => by have := N.1 u hu; omega) (fun u hu p => ⟨(m2 u hu p).2.1, by have := N.2.1 u hu p; omega⟩) (fun u hu p => ⟨(m2 u hu p).2.2.1, by
    have := N.2.1 u hu p
    show (if h 9 u = 1 then 1000 else h 2 u) ≤ 1000
    split <;> omega⟩) (t := t) (w := w) (m := gNl h t w) (U := U) ht (by omega) (by omega) hm hU
  have eL : ∀ u, u < 40 → decide (0 < h 0 u ∧ u ≠ t ∧ h 1 u = w ∧ (if h 9 u = 1 then 1000 else h 2 u) + 1 = gNl h t w) = gLd h t w u := by
    intro u hu
    unfold gLd
    rw [decide_eq_decide]
    by_cases z : h 9 u = 1
    · rw [if_pos z]
      constructor
      · rintro ⟨a, b, c, d⟩; omega
      · rintro ⟨a, b, c, d⟩
        have := (I.2.1.2 u hu a).2.1 z
        have := n3 (by omega)
        omega
    · rw [if_neg z]
  have eS : fb_sm (fun u => if decide (0 < h 0 u ∧ u ≠ t ∧ h 1 u = w ∧ (if h 9 u = 1 then 1000 else h 2 u) + 1 = gNl h t w) = true then h 0 u else 0) 40 = fb_sm (fun u => if gLd h t w u = true then h 0 u else 0) 40 := fb_sm_cong (fun u hu => by rw [eL u hu])
  have eT : fb_ct (fun u => decide (0 < h 0 u ∧ u ≠ t ∧ h 1 u = w ∧ (if h 9 u = 1 then 1000 else h 2 u) + 1 = gNl h t w)) 40 = fb_ct (gLd h t w) 40 := fb_ct_cong eL
  have eN : (gNl h t w = 0 ∨ U < fb_sm (fun u => if gLd h t w u = true then h 0 u else 0) 40 + h 0 t) ↔ gNw h t w U = true := by unfold gNw; rw [decide_eq_true_iff]
  simp only [eS, eT, eN] at L
  refine ⟨_, _, _, _, L, fun u hu => by rw [v0]; exact m1 u hu, fun u hu p => ?_, ⟨fun j hj => by rw [v6]; exact m3 j hj, fun k hk => by rw [v7]; exact m3' k hk⟩, fun x hx => ?_, fun u hu => zh_cong (m5 u hu) (fun y _ => (gLk_cong v6 y u).symm), ?_, rfl, by rw [gLy_o h t w U (by decide)]; exact m8, ?_, zh_cong m10 (fun u _ => (gRt_cong v7 u).symm), ?_⟩
  · rw [v0] at p
    obtain ⟨a, b, c, d⟩ := m2 u hu p
    rw [gLy_o h t w U (a := 4) (by decide), gLy_o h t w U (a := 9) (by decide)]
    by_cases e : u = t
    · subst e
      rw [gLy_1, gLy_2, gLy_3, pk_us, pk_us, pk_us, t1.2.2.2, if_neg (show ¬ (0 : Nat) = 1 by decide)]
      exact ⟨a, rfl, rfl, rfl⟩
    · rw [gLy_n h t w U e, gLy_n h t w U e, gLy_n h t w U e, pk_un e, pk_un e, pk_un e]
      exact ⟨a, b, c, d⟩
  · show _ = nI (gCv (gLy h t w U) x)
    by_cases e : x = w
    · subst e
      rw [gCv_lay2 I ht hw h0]
      by_cases y : gNw h t x U = true
      · rw [if_pos y, if_pos y, pk_us]
      · rw [if_neg y, if_neg y]; exact hm
    · rw [gCv_lay I ht hw h0 e]
      by_cases y : gNw h t w U = true
      · rw [if_pos y, pk_un e]; exact hcs x hx
      · rw [if_neg y]; exact hcs x hx
  · exact c_mk m6 ht (gLy_5 h t w U) (fun u e => gLy_n h t w U e)
  · have g := gTn_ly h t w U t1.2.2.2
    exact c_ab m9 ht (by omega) t1.1 (by unfold gTn; rw [t1.2.2.2, if_neg (by decide)]; exact t1.2.1) (fun u _ => v0 u) g.1 (fun u _ e => g.2 u e)
  · refine c_le m11 ht (gLy_Z I ht hw h0).2.2.2 (fun u e z => ?_)
    unfold gWt at z ⊢
    rw [gLy_n h t w U e, gLy_n h t w U e, gLy_n h t w U e, gLy_n h t w U e]; exact z
theorem cM_stay (I : mI h T s) (M : cM h T sz ag tr ca pl lk rt cs fr mk tn sp ab ro le) {t w T' : Nat} {cs1 : Nat → Int32} (ht : t < 40) (hw : gWt h t = true) (hwT : w < T') (hT' : T' ≤ 41) (hcs : ∀ w, w < T' → cs1 w = nI (gCv h w)) :
      cM (gSy h t w) T' sz ag tr (upd ca t 1000) pl lk rt cs1 fr (mk &&& (mX11_bit (nI t) ^^^ (-1))) (nI T') sp (mX11_putMask 42 (nI w) ((mX11_maskAt 42 (nI w) (vp_updL ab (0 : Int32).toNatClampNeg ((ab (0 : Int32).toNatClampNeg) &&& ((mX11_bit (nI t)) ^^^ (-1))))) ||| (mX11_bit (nI t))) (vp_updL ab (0 : Int32).toNatClampNeg ((ab (0 : Int32).toNatClampNeg) &&& ((mX11_bit (nI t)) ^^^ (-1))))) ro (le &&& (mX11_bit (nI t) ^^^ (-1))) := by
  obtain ⟨m1, m2, ⟨m3, m3'⟩, m4, m5, m6, m7, m8, m9, m10, m11⟩ := M
  have t1 := (gWt_iff h t).mp hw
  have v0 : ∀ u, gSy h t w 0 u = h 0 u := gSy_o h t w (by decide)
  have v6 : ∀ u, gSy h t w 6 u = h 6 u := gSy_o h t w (by decide)
  have v7 : ∀ u, gSy h t w 7 u = h 7 u := gSy_o h t w (by decide)
  refine ⟨fun u hu => by rw [v0]; exact m1 u hu, fun u hu p => ?_, ⟨fun j hj => by rw [v6]; exact m3 j hj, fun k hk => by rw [v7]; exact m3' k hk⟩, fun x hx => ?_, fun u hu => zh_cong (m5 u hu) (fun y _ => (gLk_cong v6 y u).symm), ?_, rfl, by rw [gSy_o h t w (by decide)]; exact m8, ?_, zh_cong m10 (fun u _ => (gRt_cong v7 u).symm), ?_⟩
  · rw [v0] at p
    obtain ⟨a, b, c, d⟩ := m2 u hu p
    rw [gSy_o h t w (a := 4) (by decide), gSy_o h t w (a := 1) (by decide), gSy_o h t w (a := 2) (by decide), gSy_o h t w (a := 3) (by decide)]
    by_cases e : u = t
    · subst e
      rw [gSy_9, if_pos rfl, pk_us]
      exact ⟨a, b, rfl, d⟩
    · rw [gSy_n h t w e, pk_un e]
      exact ⟨a, b, c, d⟩
  · show _ = nI (gCv (gSy h t w) x)
    rw [gCv_stay]; exact hcs x hx
  · exact c_mk m6 ht (gSy_5 h t w) (fun u e => gSy_n h t w e)
  · have g := gTn_sy h t w
    exact c_ab m9 ht (by omega) t1.1 (by unfold gTn; rw [t1.2.2.2, if_neg (by decide)]; exact t1.2.1) (fun u _ => v0 u) g.1 (fun u _ e => g.2 u e)
  · refine c_le m11 ht (fun u z => gSy_W z) (fun u e z => ?_)
    unfold gWt at z ⊢
    rw [gSy_n h t w e, gSy_n h t w e, gSy_n h t w e, gSy_n h t w e]; exact z
end C2
