theorem gFn_67 (h : GH) (s : Nat) : (∀ j, gFn h s 6 j = gDr h (gWt h) 6 j) ∧ (∀ j, gFn h s 7 j = h 7 j) ∧ (∀ j, gFn h s 0 j = gDr h (gWt h) 0 j) ∧ (∀ j, gFn h s 4 j = gDr h (gWt h) 4 j) ∧ (∀ j, gFn h s 5 j = gDr h (gWt h) 5 j) :=
  ⟨fun j => gFn_o h s (by decide) j, fun j => by rw [gFn_o h s (by decide), gDr_o h _ (by decide)], fun j => gFn_o h s (by decide) j, fun j => gFn_o h s (by decide) j, fun j => gFn_o h s (by decide) j⟩
section CS
variable {h g : GH} {T n s : Nat} {f : Nat → Nat} {sz ag tr ca pl lk rt cs wa code cf cl : Nat → Int32} {fr ab : Nat → Int64} {th mk ro le : Int64} {tn sp un : Int32} {P : GP}
/-- the CARS when those that STAYED sit -/
theorem gPc_cv (I : mI h T s) (hs : s ≠ 0) : gCv h (s - 1) = gPc (gDr h (gWt h)) s := by
  have s1 : s - 1 = 0 → s = 1 := fun q => by omega
  obtain ⟨p1, p2, p3⟩ := gPc_ok I
  have eq : ∀ (hz : s - 1 = 0 → gZ0 h), gCa h (s - 1) = gPc (gDr h (gWt h)) s := by
    intro hz
    refine bmx_eq (fun t ht p => ?_) (fun p => ?_)
    · have p := of_decide_eq_true p
      by_cases z : h 1 t = 0 ∧ h 2 t = 0
      · have := p3 (s1 (p.2.symm.trans z.1))
        rw [z.2]; exact Nat.lt_of_lt_of_le Nat.zero_lt_two this
      · exact p1 t ⟨ht, p.1, z⟩ p.2
    · obtain ⟨u, z, a, b⟩ := p2 p
      exact ⟨u, z.1, decide_eq_true ⟨z.2.1, a⟩, b⟩
  have hz : s - 1 = 0 → gZ0 h := fun q => I.2.2.2.2.2.2.1.2.1 (s1 q)
  have e := eq hz
  unfold gCv
  rw [if_neg, e]
  rintro ⟨a, b⟩
  have := p3 (s1 a)
  rw [a] at e
  rw [← e, b] at this
  exact absurd this (by decide)
theorem gCe_fn (I : mI h T s) {w : Nat} (hw : w < T) : gCe (gFn h s) w = if s ≠ 0 ∧ w = s - 1 then gCv h w + 1 else gCv h w := by
  obtain ⟨p1, p2, p3⟩ := gPc_ok I
  by_cases z : s ≠ 0 ∧ w = s - 1
  · rw [if_pos z, z.2, gPc_cv I z.1]
    obtain ⟨t, ht, tp, st⟩ := I.2.2.2.2.2.2.1.2.2.2 z.1
    obtain ⟨-, a, b, c, -⟩ := gFn_S I ht st
    have e : gCa (gFn h s) (s - 1) = gPc (gDr h (gWt h)) s + 1 := by
      refine bmx_eq (fun u hu p => ?_) (fun _ => ⟨t, ht, decide_eq_true ⟨a, b⟩, by rw [c]⟩)
      have p := of_decide_eq_true p
      rcases (gFn_th I hu).mp p.1 with y | y
      · obtain ⟨-, x1, x2, -⟩ := gFn_Z I y
        have := p1 u y (by omega)
        omega
      · obtain ⟨-, -, -, x, -⟩ := gFn_S I hu y
        omega
    unfold gCe
    rw [if_neg, e]
    rintro ⟨x, y⟩
    exact y ((gE0_iff _).mpr ⟨t, ht, a, by omega⟩)
  · rw [if_neg z]
    have key : ∀ u, u < 40 → 0 < gFn h s 0 u → gFn h s 1 u = w → gZ h u ∧ h 1 u = w ∧ gFn h s 2 u = h 2 u := by
      intro u hu a b
      rcases (gFn_th I hu).mp a with y | y
      · obtain ⟨-, x1, x2, -⟩ := gFn_Z I y
        exact ⟨y, by omega, x2⟩
      · obtain ⟨hs, -, x, -, -⟩ := gFn_S I hu y
        exact absurd ⟨hs, by omega⟩ z
    by_cases w0 : w = 0
    · subst w0
      by_cases e0 : gE0 (gFn h s) = true
      · have e : gCa (gFn h s) 0 = gCa h 0 := by
          obtain ⟨t, ht, a, b⟩ := (gE0_iff _).mp e0
          obtain ⟨y, x1, x2⟩ := key t ht a b
          have y2 : h 2 t ≠ 0 := fun q => y.2.2 ⟨x1, q⟩
          have lt := gCa_lt ht y.2.1 x1
          refine (bmx_eq (fun u hu p => ?_) (fun p => ?_)).symm
          · have p := of_decide_eq_true p
            have l2 := gCa_lt (k := gFn h s) ht a b
            by_cases q : h 1 u = 0 ∧ h 2 u = 0
            · omega
            · have qz : gZ h u := ⟨hu, p.1, q⟩
              obtain ⟨c1, c2, c3, -⟩ := gFn_Z I qz
              have := gCa_lt (k := gFn h s) (w := 0) hu c1 (c2.trans p.2)
              omega
          · obtain ⟨u, hu, a', b'⟩ := bmx_at (p := fun t => decide (0 < gFn h s 0 t ∧ gFn h s 1 t = 0)) (c := gFn h s 2) (n := 40) p
            have a' := of_decide_eq_true a'
            obtain ⟨qz, c1, c2⟩ := key u hu a'.1 a'.2
            exact ⟨u, hu, decide_eq_true ⟨qz.2.1, c1⟩, by rw [← c2]; exact b'⟩
        have : gCa h 0 ≠ 0 := by
          obtain ⟨t, ht, a, b⟩ := (gE0_iff _).mp e0
          obtain ⟨y, x1, x2⟩ := key t ht a b
          have := gCa_lt ht y.2.1 x1
          omega
        unfold gCe gCv
        rw [if_neg (fun q => q.2 e0), if_neg (fun q => this q.2), e]
      · have : gCa h 0 ≤ 1 := bmx_le (fun u hu p => by
          have p := of_decide_eq_true p
          by_cases q : h 1 u = 0 ∧ h 2 u = 0
          · omega
          · exfalso
            obtain ⟨c1, c2, c3, -⟩ := gFn_Z I (show gZ h u from ⟨hu, p.1, q⟩)
            exact e0 ((gE0_iff _).mpr ⟨u, hu, c1, c2.trans p.2⟩))
        unfold gCe gCv
        rw [if_pos ⟨rfl, e0⟩]
        by_cases y : gCa h 0 = 0
        · rw [if_pos ⟨rfl, y⟩]
        · rw [if_neg (fun q => y q.2)]; omega
    · unfold gCe gCv
      rw [if_neg (fun q => w0 q.1), if_neg (fun q => w0 q.1)]
      refine bmx_cong (fun u hu => ?_) (fun u hu p => ?_)
      · rw [decide_eq_decide]
        constructor
        · rintro ⟨a, b⟩
          obtain ⟨y, x1, x2⟩ := key u hu a b
          exact ⟨y.2.1, x1⟩
        · rintro ⟨a, b⟩
          obtain ⟨c1, c2, c3, -⟩ := gFn_Z I (show gZ h u from ⟨hu, a, fun q => w0 (b.symm.trans q.1)⟩)
          exact ⟨c1, c2.trans b⟩
      · have p := of_decide_eq_true p
        exact (gFn_Z I (show gZ h u from ⟨hu, p.1, fun q => w0 (p.2.symm.trans q.1)⟩)).2.2.1
theorem c_pass2 (sp : Int32) (hsz : ∀ t, t < 40 → sz t = nI (h 0 t)) (hb : ∀ t, t < 40 → h 0 t ≤ 99 ∧ h 4 t ≤ 99) (hsp : sp = nI (h 8 0)) (h8 : h 8 0 < 999) : ∀ k i (ag1 : Nat → Int32), i + k = 40 → (∀ t, t < 40 → 0 < h 0 t → ag1 t = nI (if t < i ∧ h 4 t < 99 then h 4 t + 1 else h 4 t)) →
    ∃ ag2, (∀ t, t < 40 → 0 < h 0 t → ag2 t = nI (gPa h 4 t)) ∧ mX10_pass_2 sp sz k i ag1 = (nI (gPa h 8 0), ag2) := by
  intro k
  induction k with
  | zero =>
    intro i ag1 hi e
    refine ⟨ag1, fun t ht p => ?_, ?_⟩
    · rw [e t ht p, gPa_4]
      by_cases z : h 4 t < 99
      · rw [if_pos ⟨by omega, z⟩, if_pos ⟨p, z⟩]
      · rw [if_neg (fun q => z q.2), if_neg (fun q => z q.2)]
    · rw [mX10_pass_2, hsp, if_pos (show nI (h 8 0) < 999 from nI_lt (b := 999) h8 (by decide)), nI_1, gPa_8]
  | succ k ih =>
    intro i ag1 hi e
    have hi40 : i < 40 := by omega
    have b := hb i hi40
    rw [mX10_pass_2, zc i (by omega), hsz i hi40]
    by_cases p : 0 < h 0 i
    · have ei := e i hi40 p
      rw [if_neg (fun q => by omega)] at ei
      rw [if_pos ((nIp (by omega)).mpr p), ei]
      by_cases z : h 4 i < 99
      · rw [if_pos (show nI (h 4 i) < 99 from nI_lt (b := 99) z (by decide)), nI_1]
        refine ih (i + 1) _ (by omega) (fun t ht q => ?_)
        by_cases y : t = i
        · subst y; rw [pk_us, if_pos ⟨by omega, z⟩]
        · rw [pk_un y, e t ht q]
          have ix : (t < i + 1 ∧ h 4 t < 99) ↔ (t < i ∧ h 4 t < 99) := ⟨fun q => ⟨by omega, q.2⟩, fun q => ⟨by omega, q.2⟩⟩
          simp only [ix]
      · rw [if_neg (show ¬ nI (h 4 i) < 99 from nI_nlt (b := 99) (by omega) (by omega))]
        refine ih (i + 1) _ (by omega) (fun t ht q => ?_)
        rw [e t ht q]
        have ix : (t < i + 1 ∧ h 4 t < 99) ↔ (t < i ∧ h 4 t < 99) := ⟨fun q => ⟨by
          by_cases y : t = i
          · subst y; exact absurd q.2 z
          · omega, q.2⟩, fun q => ⟨by omega, q.2⟩⟩
        simp only [ix]
    · rw [if_neg (fun q => p ((nIp (by omega)).mp q))]
      refine ih (i + 1) _ (by omega) (fun t ht q => ?_)
      rw [e t ht q]
      have ix : (t < i + 1 ∧ h 4 t < 99) ↔ (t < i ∧ h 4 t < 99) := ⟨fun w => ⟨by
        by_cases y : t = i
        · subst y; exact absurd q p
        · omega, w.2⟩, fun q => ⟨by omega, q.2⟩⟩
      simp only [ix]
theorem c_pass (hsz : ∀ t, t < 40 → sz t = nI (h 0 t)) (hb : ∀ t, t < 40 → h 0 t ≤ 99 ∧ h 4 t ≤ 99) (hsp : sp = nI (h 8 0)) (h8 : h 8 0 < 999) (ha : ∀ t, t < 40 → 0 < h 0 t → ag t = nI (h 4 t)) : ∃ ag2, (∀ t, t < 40 → 0 < h 0 t → ag2 t = nI (gPa h 4 t)) ∧ mX10_pass sp sz ag = (nI (gPa h 8 0), ag2) :=
  c_pass2 sp hsz hb hsp h8 40 0 ag rfl (fun t ht p => by rw [if_neg (by omega)]; exact ha t ht p)
theorem gTr_cong {h k : GH} (e0 : ∀ t, t < 40 → k 0 t = h 0 t) (e1 : ∀ t, t < 40 → 0 < h 0 t → k 1 t = h 1 t) : gTr k = gTr h :=
  bmx_cong (fun t ht => by rw [e0 t ht]) (fun t ht p => e1 t ht (of_decide_eq_true p))
theorem gCa_cong {h k : GH} (e0 : ∀ t, t < 40 → k 0 t = h 0 t) (e1 : ∀ t, t < 40 → 0 < h 0 t → k 1 t = h 1 t) (e2 : ∀ t, t < 40 → 0 < h 0 t → k 2 t = h 2 t) (w : Nat) : gCa k w = gCa h w :=
  bmx_cong (fun t ht => by
    rw [e0 t ht, decide_eq_decide]
    exact ⟨fun q => ⟨q.1, by rw [← e1 t ht q.1]; exact q.2⟩, fun q => ⟨q.1, by rw [e1 t ht q.1]; exact q.2⟩⟩) (fun t ht p => e2 t ht (of_decide_eq_true p).1)
/-- a STEP ends with the ages -/
theorem cY_pa (W : gW h) {ag2 : Nat → Int32} (Y : cY h sz ag tr ca pl lk rt cs fr th mk tn sp) (h8 : h 8 0 < 999) (h2 : ∀ t, t < 40 → 0 < h 0 t → ag2 t = nI (gPa h 4 t)) : cY (gPa h) sz ag2 tr ca pl lk rt cs fr th mk tn (nI (gPa h 8 0)) := by
  obtain ⟨y1, y2, ⟨y3, y4⟩, y5, y6, y7, y8, y9, y10⟩ := Y
  have o : ∀ {a : Nat}, (a ≠ 4 ∧ a ≠ 8) → ∀ t, gPa h a t = h a t := fun e t => gPa_o h e t
  have eT : gTr (gPa h) = gTr h := gTr_cong (fun t _ => o (by decide) t) (fun t _ _ => o (by decide) t)
  have eC : ∀ w, gCa (gPa h) w = gCa h w := gCa_cong (fun t _ => o (by decide) t) (fun t _ _ => o (by decide) t) (fun t _ _ => o (by decide) t)
  refine ⟨fun t ht => by rw [o (by decide)]; exact y1 t ht, fun t ht p => ?_, ⟨fun j hj => by rw [o (by decide)]; exact y3 j hj, fun k hk => by rw [o (by decide)]; exact y4 k hk⟩, fun w hw => by rw [eC]; exact y5 w (by rw [← eT]; exact hw), fun t ht => zh_cong (y6 t ht) (fun u _ => (gLk_cong (o (by decide)) u t).symm), zh_cong y7 (fun t _ => by unfold gTh; rw [o (by decide)]), zh_cong y8 (fun t _ => by rw [o (by decide)]), by rw [eT]; exact y9, rfl⟩
  rw [o (by decide)] at p
  rw [o (a := 1) (by decide), o (a := 2) (by decide), o (a := 3) (by decide)]
  exact ⟨h2 t ht p, (y2 t ht p).2⟩
abbrev CT : Type := Int32 × Int32 × Int32 × Bool × Int64 × Int64 × Int32 × Int32 × Int32 × Int32 × Int32 × Bool × Int32 × (Nat → Int32) × (Nat → Int32) × (Nat → Int32) × (Nat → Int64) × Int64 × Int64 × Int32 × Int32 × (Nat → Int32) × (Nat → Int32) × (Nat → Int32) × (Nat → Int32) × (Nat → Int32) × (Nat → Int32) × (Nat → Int32) × (Nat → Int64)
end CS
