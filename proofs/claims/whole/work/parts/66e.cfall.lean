theorem gMv_067 (P : GP) (X : GM) (r t : Nat) {a : Nat} (ha : a = 0 ∨ a = 6 ∨ a = 7) (u : Nat) : (gMv P X r t).1 a u = X.1 a u := by
  by_cases e : P.1 (X.1 8 0) (X.1 0 t) (gRf X.1 t) (X.1 4 t) = true
  · rw [gMv_stay e]; exact gSy_o X.1 t (gTo X r t) (by omega) u
  · rw [gMv_lay e]; exact gLy_o X.1 t (gTo X r t) P.2.2 (by omega) u
theorem gLp_067 (P : GP) {a : Nat} (ha : a = 0 ∨ a = 6 ∨ a = 7) (u : Nat) : ∀ (k : Nat) (X : GM), (gLp P k X).1 a u = X.1 a u
  | 0, X => rfl
  | k + 1, X => by
    rw [gLp]
    split
    · rfl
    · rw [gLp_067 P ha u k, gMv_067 P X _ _ ha]
section CE
variable {h : GH} {T n s : Nat} {f : Nat → Nat} {sz ag tr ca pl lk rt cs wa : Nat → Int32} {fr ab : Nat → Int64} {th mk ro le : Int64} {tn sp : Int32}
def cD (h : GH) (q : Nat → Bool) (sz lk : Nat → Int32) (fr : Nat → Int64) (th mk : Int64) : Prop := (∀ t, t < 40 → sz t = nI (gDr h q 0 t)) ∧ (∀ j, j < 160 → lk j = bno (gDr h q 6 j)) ∧ (∀ t, t < 40 → zh (fr t) (fun u => gLk (gDr h q) u t)) ∧ zh th (gTh (gDr h q)) ∧ zh mk (fun t => decide (gDr h q 5 t = 1))
theorem c_drop28 (vt : Int32) (th mk : Int64) (sz lk : Nat → Int32) : ∀ k i (fr : Nat → Int64), i + k = 40 → ∃ fr', (∀ x, x < 40 → fr' x = if i ≤ x then fr x &&& (mX11_bit vt ^^^ (-1)) else fr x) ∧ mX10_drop_28 vt th mk sz k i lk fr = (th &&& (mX11_bit vt ^^^ (-1)), mk &&& (mX11_bit vt ^^^ (-1)), mX11_put 40 vt 0 sz, lk, fr') := by
  intro k
  induction k with
  | zero =>
    intro i fr hi
    exact ⟨fr, fun x hx => by rw [if_neg (by omega)], by rw [mX10_drop_28, xlet_eq]⟩
  | succ k ih =>
    intro i fr hi
    rw [mX10_drop_28, zc i (by omega)]
    obtain ⟨fr', e1, e2⟩ := ih (i + 1) (vp_updL fr i (fr i &&& (mX11_bit vt ^^^ (-1)))) (by omega)
    refine ⟨fr', fun x hx => ?_, e2⟩
    rw [e1 x hx]
    by_cases z : x = i
    · subst z; rw [if_neg (by omega), if_pos (Nat.le_refl _), pk_uLs]
    · rw [pk_uLn z]
      by_cases y : i + 1 ≤ x
      · rw [if_pos y, if_pos (by omega)]
      · rw [if_neg y, if_neg (by omega)]
theorem c_drop2 {t : Nat} (ht : t < 40) (th mk : Int64) (sz : Nat → Int32) (fr : Nat → Int64) : ∀ k i (lk : Nat → Int32), i + k = 4 → ∃ lk' fr', (∀ j, j < 160 → lk' j = if 4 * t + i ≤ j ∧ j < 4 * t + 4 then -1 else lk j) ∧ (∀ x, x < 40 → fr' x = fr x &&& (mX11_bit (nI t) ^^^ (-1))) ∧ mX10_drop_2 (nI t) th mk sz fr k i lk = (th &&& (mX11_bit (nI t) ^^^ (-1)), mk &&& (mX11_bit (nI t) ^^^ (-1)), upd sz t 0, lk', fr') := by
  intro k
  induction k with
  | zero =>
    intro i lk hi
    obtain ⟨fr', e1, e2⟩ := c_drop28 (nI t) th mk sz lk 40 0 fr rfl
    refine ⟨lk, fr', fun j hj => by rw [if_neg (by omega)], fun x hx => by rw [e1 x hx, if_pos (Nat.zero_le _)], ?_⟩
    rw [mX10_drop_2, e2, s_put 40 t ht (by decide)]
  | succ k ih =>
    intro i lk hi
    rw [mX10_drop_2, zi_k, s_put 160 _ (by omega) (by decide), xlet_eq]
    obtain ⟨lk', fr', e1, e2, e3⟩ := ih (i + 1) (upd lk (4 * t + i) (-1)) (by omega)
    refine ⟨lk', fr', fun j hj => ?_, e2, e3⟩
    rw [e1 j hj]
    by_cases z : j = 4 * t + i
    · subst z; rw [if_neg (by omega), if_pos (by omega)]; exact pk_us
    · rw [pk_un z]
      by_cases y : 4 * t + (i + 1) ≤ j ∧ j < 4 * t + 4
      · rw [if_pos y, if_pos (by omega)]
      · rw [if_neg y, if_neg (by omega)]
theorem gLk_dr (h : GH) (q : Nat → Bool) (u t : Nat) : gLk (gDr h q) u t = (gLk h u t && !q u) := by
  unfold gLk
  by_cases z : q u = true
  · rw [z]
    rw [Bool.not_true, Bool.and_false]
    refine Bool.eq_false_iff.mpr (fun e => ?_)
    obtain ⟨k, hk, e⟩ := (bexI _ 4).mp e
    have e := of_decide_eq_true e
    rw [gDr_6, show (4 * u + k) / 4 = u by omega, if_pos z] at e
    omega
  · rw [Bool.eq_false_iff.mpr z, Bool.not_false, Bool.and_true]
    refine bex_cong (fun k _ hk => ?_)
    rw [gDr_6, show (4 * u + k) / 4 = u by omega, if_neg z]
theorem cD_drop {q q' : Nat → Bool} (D : cD h q sz lk fr th mk) {t : Nat} (ht : t < 40) (hq : ∀ u, q' u = (q u || decide (u = t))) {lk' : Nat → Int32} {fr' : Nat → Int64} (hl : ∀ j, j < 160 → lk' j = if 4 * t ≤ j ∧ j < 4 * t + 4 then -1 else lk j) (hf : ∀ x, x < 40 → fr' x = fr x &&& (mX11_bit (nI t) ^^^ (-1))) :
    cD h q' (upd sz t 0) lk' fr' (th &&& (mX11_bit (nI t) ^^^ (-1))) (mk &&& (mX11_bit (nI t) ^^^ (-1))) := by
  obtain ⟨d1, d2, d3, d4, d5⟩ := D
  have qt : q' t = true := by rw [hq, decide_eq_true rfl, Bool.or_true]
  have qn : ∀ u, u ≠ t → q' u = q u := fun u e => by rw [hq, decide_eq_false e, Bool.or_false]
  have v : ∀ {a : Nat}, (a = 0 ∨ a = 4 ∨ a = 5) → ∀ u, u ≠ t → gDr h q' a u = gDr h q a u := fun ha u e => by
    rw [gDr_0 h _ ha, gDr_0 h _ ha, qn u e]
  have vt : ∀ {a : Nat}, (a = 0 ∨ a = 4 ∨ a = 5) → gDr h q' a t = 0 := fun ha => by rw [gDr_0 h _ ha, if_pos qt]
  refine ⟨fun u hu => ?_, fun j hj => ?_, fun u hu => ?_, ?_, ?_⟩
  · by_cases e : u = t
    · subst e; rw [pk_us, vt (by decide)]; rfl
    · rw [pk_un e, v (by decide) u e]; exact d1 u hu
  · rw [hl j hj, gDr_6]
    have := d2 j hj
    rw [gDr_6] at this
    by_cases e : j / 4 = t
    · rw [if_pos (by omega), e, qt, if_pos rfl]; rfl
    · rw [if_neg (by omega), qn _ e]; exact this
  · rw [hf u hu]
    refine zh_del ht (d3 u hu) (fun y hy => ?_)
    show gLk (gDr h q') y u = (gLk (gDr h q) y u && _)
    rw [gLk_dr, gLk_dr, hq, Bool.not_or, Bool.and_assoc]
  · refine zh_del ht d4 (fun u hu => ?_)
    unfold gTh
    by_cases e : u = t
    · subst e; rw [vt (by decide)]; simp
    · rw [v (by decide) u e, decide_eq_false e]; simp
  · exact c_mk (h := gDr h q) d5 ht (vt (by decide)) (fun u e => v (by decide) u e)
theorem cD_eq {q q' : Nat → Bool} (D : cD h q sz lk fr th mk) (e : ∀ u, u < 40 → q' u = q u) : cD h q' sz lk fr th mk := by
  obtain ⟨d1, d2, d3, d4, d5⟩ := D
  have v : ∀ {a : Nat}, (a = 0 ∨ a = 4 ∨ a = 5) → ∀ u, u < 40 → gDr h q' a u = gDr h q a u := fun ha u hu => by
    rw [gDr_0 h _ ha, gDr_0 h _ ha, e u hu]
  refine ⟨fun u hu => by rw [v (by decide) u hu]; exact d1 u hu, fun j hj => ?_, fun u hu => zh_cong (d3 u hu) (fun y hy => by rw [gLk_dr, gLk_dr, e y hy]), zh_cong d4 (fun u hu => by unfold gTh; rw [v (by decide) u hu]), zh_cong d5 (fun u hu => by rw [v (by decide) u hu])⟩
  have := d2 j hj
  rw [gDr_6] at this ⊢
  rw [e (j / 4) (by omega)]; exact this
theorem c_fall3 {p : Nat → Bool} {grp : Int64} (hg : zh grp p) : ∀ k i (sz lk : Nat → Int32) (fr : Nat → Int64) (th mk : Int64), i + k = 40 → cD h (fun u => decide (u < i) && p u) sz lk fr th mk →
    ∃ th' mk' sz' lk' fr', cD h p sz' lk' fr' th' mk' ∧ mX3_fall_3 grp k i (nI (fb_ct p i)) th mk sz lk fr = (nI (fb_ct p 40), th', mk', sz', lk', fr') := by
  intro k
  induction k with
  | zero =>
    intro i sz lk fr th mk hi D
    have : i = 40 := by omega
    subst this
    exact ⟨th, mk, sz, lk, fr, cD_eq D (fun u hu => by rw [decide_eq_true hu, Bool.true_and]), by rw [mX3_fall_3]⟩
  | succ k ih =>
    intro i sz lk fr th mk hi D
    have hi40 : i < 40 := by omega
    have hs := fb_ct_succ p i
    rw [mX3_fall_3, zh_in hg hi40]
    by_cases w : p i = true
    · rw [if_pos w]
      unfold mX10_drop
      obtain ⟨lk', fr', e1, e2, e3⟩ := c_drop2 hi40 th mk sz fr 4 0 lk rfl
      rw [e3, xlet_eq, xu_r, xu_r, xu_r, xu_r, nI_1]
      rw [if_pos w] at hs
      rw [← hs]
      exact ih (i + 1) _ _ _ _ _ (by omega) (cD_drop D hi40 (fun u => by
        by_cases e : u = i
        · subst e; simp [w]
        · by_cases y : u < i
          · simp [y, e, show u < i + 1 by omega]
          · simp [y, e, show ¬ u < i + 1 by omega]) (fun j hj => by rw [e1 j hj]; rfl) e2)
    · rw [if_neg w]
      rw [if_neg w] at hs
      have hs : fb_ct p (i + 1) = fb_ct p i := hs
      rw [← hs]
      exact ih (i + 1) _ _ _ _ _ (by omega) (cD_eq D (fun u hu => by
        by_cases e : u = i
        · subst e; simp [w]
        · by_cases y : u < i
          · simp [y, show u < i + 1 by omega]
          · simp [y, show ¬ u < i + 1 by omega]))
theorem c_fall {p : Nat → Bool} {grp : Int64} (hg : zh grp p) (h1 : ∀ t, t < 40 → sz t = nI (h 0 t)) (h2 : ∀ j, j < 160 → lk j = bno (h 6 j)) (h3 : ∀ t, t < 40 → zh (fr t) (fun u => gLk h u t)) (h4 : zh th (gTh h)) (h5 : zh mk (fun t => decide (h 5 t = 1))) :
    ∃ th' mk' sz' lk' fr', cD h p sz' lk' fr' th' mk' ∧ mX3_fall grp 0 th mk sz lk fr = (nI (fb_ct p 40), th', mk', sz', lk', fr') := by
  unfold mX3_fall
  have v : ∀ {a : Nat}, a ≠ 6 → ∀ u, gDr h (fun u => decide (u < 0) && p u) a u = h a u := fun ha u => gDr_n h _ ha (by simp)
  refine c_fall3 hg 40 0 sz lk fr th mk rfl ⟨fun t ht => by rw [v (by decide)]; exact h1 t ht, fun j hj => by rw [gDr_6, if_neg (by simp)]; exact h2 j hj, fun t ht => zh_cong (h3 t ht) (fun u hu => by rw [gLk_dr]; simp), zh_cong h4 (fun u hu => by unfold gTh; rw [v (by decide)]), zh_cong h5 (fun u hu => by rw [v (by decide)])⟩
/-- those that STAYED are seated -/
theorem c_couple39 (I : mI h T s) (hW : cW h n f wa) (hs0 : s ≠ 0) (hca : ∀ t, t < 40 → 0 < h 0 t → ca t = nI (if h 9 t = 1 then 1000 else h 2 t)) {m : Nat} (hsT : s ≤ 42) (hm : cs (s - 1) = nI m) (cs1 : Nat → Int32) : ∀ k i (tr1 ca1 pl1 : Nat → Int32), i + k = 40 →
    (∀ t, t < 40 → 0 < h 0 t → tr1 t = (if h 9 t = 1 ∧ h 3 t < i then nI (s - 1) else tr t) ∧ ca1 t = (if h 9 t = 1 ∧ h 3 t < i then nI m else ca t) ∧ pl1 t = if h 9 t = 1 ∧ h 3 t < i then nI (fb_ct (fun u => decide (h 9 u = 1 ∧ h 3 u < h 3 t)) 40) else pl t) →
    ∃ tr2 ca2 pl2, (∀ t, t < 40 → 0 < h 0 t → tr2 t = (if h 9 t = 1 then nI (s - 1) else tr t) ∧ ca2 t = (if h 9 t = 1 then nI m else ca t) ∧ pl2 t = if h 9 t = 1 then nI (fb_ct (fun u => decide (h 9 u = 1 ∧ h 3 u < h 3 t)) 40) else pl t) ∧
      mX3_couple_39 (nI n) (nI (s - 1)) wa cs k i (nI (fb_ct (fun u => decide (h 9 u = 1 ∧ h 3 u < i)) 40)) tr1 ca1 pl1 cs1 = (tr2, ca2, pl2, cs1) := by
  have hn := hW.1
  have th : ∀ u, u < 40 → h 9 u = 1 → 0 < h 0 u ∧ h 1 u = 0 ∧ h 2 u = 0 := fun u hu z => by
    have p : 0 < h 0 u := by
      by_cases y : h 0 u = 0
      · have := ((I.1 u hu).2.2.2.2 y).2; omega
      · omega
    have := (I.2.1.2 u hu p).2.1 z
    exact ⟨p, this.1, this.2.1⟩
  have end' : ∀ i (tr1 ca1 pl1 : Nat → Int32), n ≤ i → (∀ t, t < 40 → 0 < h 0 t → tr1 t = (if h 9 t = 1 ∧ h 3 t < i then nI (s - 1) else tr t) ∧ ca1 t = (if h 9 t = 1 ∧ h 3 t < i then nI m else ca t) ∧ pl1 t = if h 9 t = 1 ∧ h 3 t < i then nI (fb_ct (fun u => decide (h 9 u = 1 ∧ h 3 u < h 3 t)) 40) else pl t) → ∀ t, t < 40 → 0 < h 0 t → tr1 t = (if h 9 t = 1 then nI (s - 1) else tr t) ∧ ca1 t = (if h 9 t = 1 then nI m else ca t) ∧ pl1 t = if h 9 t = 1 then nI (fb_ct (fun u => decide (h 9 u = 1 ∧ h 3 u < h 3 t)) 40) else pl t := by
    intro i tr1 ca1 pl1 hi e t ht p
    have ix : (h 9 t = 1 ∧ h 3 t < i) ↔ h 9 t = 1 := ⟨fun q => q.1, fun q => ⟨q, by
      have x := th t ht q
      have := (hW.2.2 t ht x.1 x.2.1 x.2.2).1
      omega⟩⟩
    have := e t ht p
    simp only [ix] at this
    exact this
  intro k
  induction k with
  | zero =>
    intro i tr1 ca1 pl1 hi e
    exact ⟨tr1, ca1, pl1, end' i tr1 ca1 pl1 (by omega) e, by rw [mX3_couple_39, ite_self]⟩
  | succ k ih =>
    intro i tr1 ca1 pl1 hi e
    rw [mX3_couple_39]
    by_cases l : i < n
    · obtain ⟨w40, wi, w0, wp⟩ := hW.2.1 i l
      rw [if_pos (nI_lt l (by omega)), zc i (by omega), wi, s_at 40 _ w40 (by decide)]
      obtain ⟨e1, e2, e3⟩ := e (f i) w40 w0
      have N := mI_N I
      have h3 : h 9 (f i) = 1 → h 3 (f i) = i := fun z => wp (th _ w40 z).2.1 (th _ w40 z).2.2
      by_cases z : h 9 (f i) = 1
      · have z3 := h3 z
        rw [if_neg (fun q => by omega), hca _ w40 w0, if_pos z] at e2
        rw [if_pos (by rw [e2]; rfl), s_put 40 _ w40 (by decide), xlet_eq, s_put 40 _ w40 (by decide), xlet_eq, s_put 40 _ w40 (by decide), xlet_eq, s_at 42 _ (by omega) (by decide), hm, nI_1]
        have cnt : fb_ct (fun u => decide (h 9 u = 1 ∧ h 3 u < i + 1)) 40 = fb_ct (fun u => decide (h 9 u = 1 ∧ h 3 u < i)) 40 + 1 := by
          have u := fb_ct_upd (fun u => decide (h 9 u = 1 ∧ h 3 u < i)) true (i := f i) (n := 40) w40
          rw [if_neg (by rw [decide_eq_true_eq]; exact fun q => by omega), if_pos rfl] at u
          have : fb_ct (fun k => if k = f i then true else decide (h 9 k = 1 ∧ h 3 k < i)) 40 = fb_ct (fun u => decide (h 9 u = 1 ∧ h 3 u < i + 1)) 40 := fb_ct_cong (fun k hk => by
            by_cases y : k = f i
            · subst y; rw [if_pos rfl, decide_eq_true ⟨z, by omega⟩]
            · rw [if_neg y, decide_eq_decide]
              refine ⟨fun q => ⟨q.1, by omega⟩, fun q => ⟨q.1, ?_⟩⟩
              have x := th k hk q.1
              have := (hW.2.2 k hk x.1 x.2.1 x.2.2).2
              have : h 3 k ≠ i := fun w => y (by rw [← w]; exact this.symm)
              omega)
          omega
        rw [← cnt]
        refine ih (i + 1) _ _ _ (by omega) (fun t ht p => ?_)
        by_cases y : t = f i
        · subst y
          rw [pk_us, pk_us, pk_us, if_pos ⟨z, by omega⟩, if_pos ⟨z, by omega⟩, if_pos ⟨z, by omega⟩, z3]
          exact ⟨rfl, rfl, rfl⟩
        · rw [pk_un y, pk_un y, pk_un y]
          have ix : (h 9 t = 1 ∧ h 3 t < i + 1) ↔ (h 9 t = 1 ∧ h 3 t < i) := by
            refine ⟨fun q => ⟨q.1, ?_⟩, fun q => ⟨q.1, by omega⟩⟩
            have x := th t ht q.1
            have := (hW.2.2 t ht x.1 x.2.1 x.2.2).2
            have : h 3 t ≠ i := fun w => y (by rw [← w]; exact this.symm)
            omega
          simp only [ix]
          exact e t ht p
      · have c2 := N.2.1 (f i) w40 w0
        rw [if_neg (fun q => z q.1), hca _ w40 w0, if_neg z] at e2
        rw [if_neg (by rw [e2]; exact fun q => by have := (nI_eq (b := 1000) (by omega) (by decide)).mp q; omega)]
        have ix : ∀ t, t < 40 → ((h 9 t = 1 ∧ h 3 t < i + 1) ↔ (h 9 t = 1 ∧ h 3 t < i)) := by
          intro t ht
          refine ⟨fun q => ⟨q.1, ?_⟩, fun q => ⟨q.1, by omega⟩⟩
          have x := th t ht q.1
          have := (hW.2.2 t ht x.1 x.2.1 x.2.2).2
          have : h 3 t ≠ i := fun w => z (by rw [← w, this]; exact q.1)
          omega
        have cnt : fb_ct (fun u => decide (h 9 u = 1 ∧ h 3 u < i)) 40 = fb_ct (fun u => decide (h 9 u = 1 ∧ h 3 u < i + 1)) 40 := fb_ct_cong (fun u hu => by rw [decide_eq_decide]; exact (ix u hu).symm)
        rw [cnt]
        refine ih (i + 1) _ _ _ (by omega) (fun t ht p => ?_)
        simp only [ix t ht]
        exact e t ht p
    · rw [if_neg (nI_nlt (by omega) (by omega))]
      exact ⟨tr1, ca1, pl1, end' i tr1 ca1 pl1 (by omega) e, rfl⟩
end CE
