theorem gLk_src {h : GH} (K : iK h) {u t : Nat} (hu : u < 40) (e : gLk h u t = true) : 0 < h 0 u := by
  by_cases y : h 0 u = 0
  · obtain ⟨k, hk, q⟩ := (gLk_iff h u t).mp e
    rw [K.2 u hu y k hk] at q; omega
  · omega
theorem gCb_ne {h : GH} {t : Nat} : gCb h t ≠ 0 ↔ ∃ u, u < 40 ∧ 0 < h 0 u ∧ gLk h u t = true ∧ gTn h u ≠ 0 := by
  constructor
  · intro q
    obtain ⟨u, hu, a, b⟩ := bcl_at (q := fun u => decide (0 < h 0 u ∧ gLk h u t = true)) (T := gTn h) (n := 40) q
    have a := of_decide_eq_true a
    refine ⟨u, hu, a.1, a.2, fun z => q ?_⟩
    have b : gTn h u = gCb h t := b
    exact b.symm.trans z
  · rintro ⟨u, hu, a, b, c⟩
    exact (bcl_le (q := fun u => decide (0 < h 0 u ∧ gLk h u t = true)) (T := gTn h) hu (decide_eq_true ⟨a, b⟩) c).1
theorem and0 {m x : Int64} {p q : Nat → Bool} (hm : zh m p) (hx : zh x q) : ¬ m &&& x = 0 ↔ ∃ u, u < 40 ∧ p u = true ∧ q u = true := by
  rw [zh_ne (zh_and hm hx)]
  exact ⟨fun ⟨u, a, b⟩ => ⟨u, a, (Bool.and_eq_true _ _).mp b⟩, fun ⟨u, a, b, c⟩ => ⟨u, a, (Bool.and_eq_true _ _).mpr ⟨b, c⟩⟩⟩
theorem zm_neg1 (m : Int64) {p : Nat → Bool} (h : zh m p) (t : Nat) (ht : t < 40) : zm (m ^^^ (-1)) t = !p t := by
  rw [zm_not, zh_at h ht, decide_eq_true (show t < 64 by omega), Bool.true_and]
/-- those of a set outside another -/
theorem andn0 {m x : Int64} {p q : Nat → Bool} (hm : zh m p) (hx : zh x q) : ¬ m &&& (x ^^^ (-1)) = 0 ↔ ∃ u, u < 40 ∧ p u = true ∧ q u = false := by
  rw [zh_ne (zh_andn hm hx)]
  constructor
  · rintro ⟨u, a, b⟩
    have b := (Bool.and_eq_true _ _).mp b
    exact ⟨u, a, b.1, by simpa using b.2⟩
  · rintro ⟨u, a, b, c⟩
    exact ⟨u, a, (Bool.and_eq_true _ _).mpr ⟨b, by rw [c]; rfl⟩⟩
section CP
variable {h : GH} {T n s : Nat} {f : Nat → Nat} {sz ag tr ca pl lk rt cs wa : Nat → Int32} {fr ab : Nat → Int64} {th mk ro le : Int64} {tn sp : Int32}
theorem c_refd {t : Nat} {p : Nat → Bool} {grp : Int64} (hfr : ∀ t, t < 40 → zh (fr t) (fun u => gLk h u t)) (hro : zh ro (gRt h)) (hg : zh grp p) (ht : t < 40) : mX10_isReferredTo (nI t) ro grp fr = (gRt h t || bex (fun u => gLk h u t && !p u) 40 0) := by
  unfold mX10_isReferredTo
  rw [zh_in hro ht, s_maskAt 40 t ht (by decide)]
  by_cases z : gRt h t = true
  · rw [if_pos z, z]; rfl
  · rw [if_neg z, Bool.eq_false_iff.mpr z, Bool.false_or]
    by_cases y : bex (fun u => gLk h u t && !p u) 40 0 = true
    · rw [y, if_neg]
      obtain ⟨u, hu, q⟩ := (bexI _ 40).mp y
      have q := (Bool.and_eq_true _ _).mp q
      exact (andn0 (hfr t ht) hg).mpr ⟨u, hu, q.1, by simpa using q.2⟩
    · rw [if_pos, Bool.eq_false_iff.mpr y]
      refine Decidable.byContradiction (fun q => ?_)
      obtain ⟨u, hu, a, b⟩ := (andn0 (hfr t ht) hg).mp q
      exact y ((bexI _ 40).mpr ⟨u, hu, (Bool.and_eq_true _ _).mpr ⟨a, by rw [b]; rfl⟩⟩)
theorem c_out {t : Nat} (K : iK h) (hfr : ∀ t, t < 40 → zh (fr t) (fun u => gLk h u t)) (hro : zh ro (gRt h)) {grp : Int64} (hg : zh grp (fun t => decide (0 < h 0 t ∧ gTn h t = 0))) (ht : t < 40) : mX10_isReferredTo (nI t) ro grp fr = gOut h t := by
  rw [c_refd hfr hro hg ht]
  unfold gOut
  congr 1
  rw [Bool.eq_iff_iff, bexI, decide_eq_true_iff, gCb_ne]
  constructor
  · rintro ⟨u, hu, q⟩
    have q := (Bool.and_eq_true _ _).mp q
    have a := gLk_src K hu q.1
    refine ⟨u, hu, a, q.1, fun z => ?_⟩
    have := q.2
    rw [decide_eq_true ⟨a, z⟩] at this
    exact absurd this (by decide)
  · rintro ⟨u, hu, a, b, c⟩
    exact ⟨u, hu, (Bool.and_eq_true _ _).mpr ⟨b, by rw [decide_eq_false (fun q => c q.2)]; rfl⟩⟩
theorem c_want (I : mI h T s) (M : cM h T sz ag tr ca pl lk rt cs fr mk tn sp ab ro le) (h9 : ∀ t, t < 40 → h 9 t = 0) : mX3_firstTrainIsWanted ro ab fr = gWant h := by
  obtain ⟨m1, m2, m3, m4, m5, m6, m7, m8, m9, m10, m11⟩ := M
  have K := I.2.2.2.2.2.2.2.2
  have a0 := m9 0 (by decide)
  unfold mX3_firstTrainIsWanted gWant
  have go : ∀ k i, i + k = 40 → mX3_firstTrainIsWanted_4 ro ab fr k i false = bex (fun t => decide (0 < h 0 t ∧ h 1 t = 0 ∧ gOut h t = true)) k i := by
    intro k
    induction k with
    | zero => intro i _; rfl
    | succ k ih =>
      intro i hi
      have hi40 : i < 40 := by omega
      have tn0 : gTn h i = h 1 i := by unfold gTn; rw [if_neg (by have := h9 i hi40; omega)]
      rw [mX3_firstTrainIsWanted_4, if_neg (by decide), show (0 : Int32).toNatClampNeg = 0 from rfl, zh_in a0 hi40, tn0, bex]
      by_cases p : 0 < h 0 i ∧ h 1 i = 0
      · rw [if_pos (decide_eq_true p), c_out K m5 m10 a0 hi40]
        by_cases z : gOut h i = true
        · rw [if_pos z, decide_eq_true ⟨p.1, p.2, z⟩, Bool.true_or]
          cases k with
          | zero => rw [mX3_firstTrainIsWanted_4]
          | succ k => rw [mX3_firstTrainIsWanted_4, if_pos rfl]
        · rw [if_neg z, decide_eq_false (fun q => z q.2.2), Bool.false_or]; exact ih (i + 1) (by omega)
      · rw [if_neg (by rw [decide_eq_true_eq]; exact p), decide_eq_false (fun q => p ⟨q.1, q.2.1⟩), Bool.false_or]; exact ih (i + 1) (by omega)
  exact go 40 0 rfl
theorem c_fb77 (hW : cW h n f wa) (hfr : ∀ t, t < 40 → zh (fr t) (fun u => gLk h u t)) {able oth : Int64} {A : Nat → Bool} (hA : zh able A) (r : Nat) (hr : 1 ≤ r ∧ r ≤ 4) (hAw : ∀ t, t < 40 → A t = true → gWt h t = true)
    (hB : ∀ t, t < 40 → gWt h t = true → ((A t = true ∧ (r ≤ 2 ∨ ¬ fr t &&& oth = 0)) ↔ gBy h r t = true)) : ∀ k i, i + k = 40 → (∀ t, t < 40 → gWt h t = true → gBy h r t = true → i ≤ h 3 t) →
    mX3_firstBy_77 (nI r) (nI n) wa fr k i able oth = bno (gFb h r) := by
  have hn := hW.1
  have none : (∀ t, t < 40 → gWt h t = true → gBy h r t = true → False) → (-1 : Int32) = bno (gFb h r) := by
    intro q
    have : gFb h r = 0 := bbt_none.mpr (fun t ht => Bool.eq_false_iff.mpr (fun z => by
      have z := (Bool.and_eq_true _ _).mp z
      exact q t ht z.1 z.2))
    rw [this]; rfl
  have pl : ∀ t, t < 40 → gWt h t = true → h 3 t < n ∧ f (h 3 t) = t := fun t ht w => by
    have w := (gWt_iff h t).mp w
    exact hW.2.2 t ht w.1 w.2.1 w.2.2.1
  intro k
  induction k with
  | zero =>
    intro i hi h0
    have : i = 40 := by omega
    subst this
    have e := none (fun t ht w b => by have := h0 t ht w b; have := (pl t ht w).1; omega)
    rw [mX3_firstBy_77, ite_self]; exact e
  | succ k ih =>
    intro i hi h0
    rw [mX3_firstBy_77]
    by_cases l : i < n
    · rw [if_pos (nI_lt l (by omega))]
      obtain ⟨w40, wi, wp⟩ := hW.2.1 i l
      by_cases ab0 : able = 0
      · rw [if_pos ab0]
        refine none (fun t ht w b => ?_)
        have := ((hB t ht w).mpr b).1
        rw [(zh_eq0 hA).mp ab0 t ht] at this
        exact absurd this (by decide)
      · rw [if_neg ab0, zc i (by omega), wi, zh_in hA w40]
        have nx : gBy h r (f i) = false ∨ gWt h (f i) = false → ∀ t, t < 40 → gWt h t = true → gBy h r t = true → i + 1 ≤ h 3 t := by
          intro q t ht w b
          have x := h0 t ht w b
          by_cases z : h 3 t = i
          · have y := (pl t ht w).2
            rw [z] at y
            rw [y] at q
            rcases q with q | q
            · rw [q] at b; exact absurd b (by decide)
            · rw [q] at w; exact absurd w (by decide)
          · omega
        have yes : gWt h (f i) = true → gBy h r (f i) = true → nI (f i) = bno (gFb h r) := by
          intro w b
          have w' := (gWt_iff h _).mp w
          have e3 := wp.2 w'.2.1 w'.2.2.1
          have : gFb h r = f i + 1 := bbt_eq w40 ((Bool.and_eq_true _ _).mpr ⟨w, b⟩) (fun u hu q ne => by
            have q := (Bool.and_eq_true _ _).mp q
            have x := h0 u hu q.1 q.2
            have y := (pl u hu q.1).2
            have : h 3 u ≠ i := fun z => ne (by rw [← y, z])
            omega)
          rw [this, bnoS]
        by_cases a : A (f i) = true
        · have w := hAw _ w40 a
          rw [if_pos a, s_maskAt 40 _ w40 (by decide)]
          by_cases r2 : r ≤ 2
          · rw [if_neg (show ¬ 2 < nI r from nI_nlt (a := 2) (by omega) (by decide))]
            exact yes w ((hB _ w40 w).mp ⟨a, Or.inl r2⟩)
          · rw [if_pos (show 2 < nI r from nI_lt (a := 2) (by omega) (by omega))]
            by_cases z : fr (f i) &&& oth = 0
            · rw [if_pos z]
              refine ih (i + 1) (by omega) (nx (Or.inl (Bool.eq_false_iff.mpr (fun q => ?_))))
              rcases ((hB _ w40 w).mpr q).2 with x | x
              · exact r2 x
              · exact x z
            · rw [if_neg z]
              exact yes w ((hB _ w40 w).mp ⟨a, Or.inr z⟩)
        · rw [if_neg a]
          refine ih (i + 1) (by omega) (nx ?_)
          by_cases w : gWt h (f i) = true
          · exact Or.inl (Bool.eq_false_iff.mpr (fun q => a ((hB _ w40 w).mpr q).1))
          · exact Or.inr (Bool.eq_false_iff.mpr w)
    · rw [if_neg (nI_nlt (by omega) (by omega))]
      exact none (fun t ht w b => by have := h0 t ht w b; have := (pl t ht w).1; omega)
theorem c_firstBy (I : mI h T s) (M : cM h T sz ag tr ca pl lk rt cs fr mk tn sp ab ro le) (hW : cW h n f wa) (r : Nat) (hr : 1 ≤ r ∧ r ≤ 4) : mX3_firstBy (nI r) ro le (nI n) wa ab mk fr = bno (gFb h r) := by
  obtain ⟨m1, m2, m3, m4, m5, m6, m7, m8, m9, m10, m11⟩ := M
  have K := I.2.2.2.2.2.2.2.2
  have a0 := m9 0 (by decide)
  have c0 : (0 : Int32).toNatClampNeg = 0 := rfl
  unfold mX3_firstBy
  have m38 : ∀ {x : Int64}, r ≠ 3 → mX3_firstBy_38 (nI r) le (nI n) wa ab fr x = mX3_firstBy_77 (nI r) (nI n) wa fr 40 0 x (ab 0 &&& (le ^^^ (-1))) := fun hx => by
    unfold mX3_firstBy_38
    rw [if_neg (show ¬ nI r = 3 from fun q => hx ((nI_eq (b := 3) (by omega) (by decide)).mp q)), c0]
  by_cases e1 : r = 1
  · rw [if_pos (show nI r = 1 from e1 ▸ rfl), m38 (by omega)]
    refine c_fb77 hW m5 (zh_and m11 m10) r hr (fun t ht a => ((Bool.and_eq_true _ _).mp a).1) (fun t ht w => ?_) 40 0 rfl (fun t _ _ _ => Nat.zero_le _)
    unfold gBy
    rw [if_pos e1, w, Bool.true_and]
    exact ⟨fun q => q.1, fun q => ⟨q, Or.inl (by omega)⟩⟩
  · rw [if_neg (show ¬ nI r = 1 from fun q => e1 ((nI1' (by omega)).mp q))]
    by_cases e2 : r = 2
    · rw [if_pos (show nI r = 2 from e2 ▸ rfl), m38 (by omega)]
      refine c_fb77 hW m5 (zh_and m11 m6) r hr (fun t ht a => ((Bool.and_eq_true _ _).mp a).1) (fun t ht w => ?_) 40 0 rfl (fun t _ _ _ => Nat.zero_le _)
      unfold gBy
      rw [if_neg e1, if_pos e2, w, Bool.true_and]
      exact ⟨fun q => q.1, fun q => ⟨q, Or.inl (by omega)⟩⟩
    · rw [if_neg (show ¬ nI r = 2 from fun q => e2 ((nI_eq (b := 2) (by omega) (by decide)).mp q))]
      by_cases e3 : r = 3
      · unfold mX3_firstBy_38
        rw [if_pos (show nI r = 3 from e3 ▸ rfl), c0]
        refine c_fb77 hW m5 m11 r hr (fun t ht a => a) (fun t ht w => ?_) 40 0 rfl (fun t _ _ _ => Nat.zero_le _)
        unfold gBy
        rw [if_neg e1, if_neg e2, if_pos e3, decide_eq_true_iff, gCb_ne, andn0 (m5 t ht) a0]
        constructor
        · rintro ⟨-, q⟩
          obtain ⟨u, hu, x, y⟩ := q.resolve_left (by omega)
          have u0 := gLk_src K hu x
          exact ⟨u, hu, u0, x, fun z => (of_decide_eq_false y) ⟨u0, z⟩⟩
        · rintro ⟨u, hu, x, y, z⟩
          exact ⟨w, Or.inr ⟨u, hu, y, decide_eq_false (fun q => z q.2)⟩⟩
      · rw [m38 e3]
        have e4 : r = 4 := by omega
        refine c_fb77 hW m5 m11 r hr (fun t ht a => a) (fun t ht w => ?_) 40 0 rfl (fun t _ _ _ => Nat.zero_le _)
        unfold gBy gBs
        rw [if_neg e1, if_neg e2, if_neg e3, bexI, and0 (m5 t ht) (zh_andn a0 m11)]
        constructor
        · rintro ⟨-, q⟩
          obtain ⟨u, hu, x, y⟩ := q.resolve_left (by omega)
          have y := (Bool.and_eq_true _ _).mp y
          have y1 := of_decide_eq_true y.1
          exact ⟨u, hu, decide_eq_true ⟨y1.1, x, y1.2, by simpa using y.2⟩⟩
        · rintro ⟨u, hu, q⟩
          obtain ⟨x, y, z, t'⟩ := of_decide_eq_true q
          exact ⟨w, Or.inr ⟨u, hu, y, (Bool.and_eq_true _ _).mpr ⟨decide_eq_true ⟨x, z⟩, by rw [Bool.eq_false_iff.mpr t']; rfl⟩⟩⟩
theorem c_choose (I : mI h T s) (M : cM h T sz ag tr ca pl lk rt cs fr mk tn sp ab ro le) (hW : cW h n f wa) (x : Int32) : mX3_choose ro le (nI n) x wa ab mk fr = (decide ((gPk h).2 ≠ 0), bno (gPk h).2, nI (gPk h).1) := by
  unfold mX3_choose
  have F := fun r hr => c_firstBy I M hW r hr
  have hle : ∀ r, gFb h r ≤ 40 := fun r => bbt_le _ _ 40
  have stop : ∀ k i q, gFb h q ≠ 0 → mX3_choose_7 ro le (nI n) wa ab mk fr k i (bno (gFb h q)) (nI q) = (true, bno (gFb h q), nI q) := by
    intro k i q hq
    have := hle q
    cases k with
    | zero => rw [mX3_choose_7, if_neg (fun z => hq ((bno_m1 (by omega)).mp z))]
    | succ k => rw [mX3_choose_7, if_neg (fun z => hq ((bno_m1 (by omega)).mp z))]
  unfold gPk
  rw [mX3_choose_7, if_pos rfl, F 1 (by decide)]
  by_cases e1 : gFb h 1 = 0
  · rw [if_neg (fun z => z e1), e1, mX3_choose_7, if_pos (show bno 0 = -1 from rfl), F 2 (by decide)]
    by_cases e2 : gFb h 2 = 0
    · rw [if_neg (fun z => z e2), e2, mX3_choose_7, if_pos (show bno 0 = -1 from rfl), F 3 (by decide)]
      by_cases e3 : gFb h 3 = 0
      · rw [if_neg (fun z => z e3), e3, mX3_choose_7, if_pos (show bno 0 = -1 from rfl), F 4 (by decide)]
        by_cases e4 : gFb h 4 = 0
        · rw [e4, mX3_choose_7, if_pos (show bno 0 = -1 from rfl)]; rfl
        · rw [stop 0 5 4 e4, decide_eq_true (show (4, gFb h 4).2 ≠ 0 from e4)]
      · rw [if_pos e3, stop 1 4 3 e3, decide_eq_true (show (3, gFb h 3).2 ≠ 0 from e3)]
    · rw [if_pos e2, stop 2 3 2 e2, decide_eq_true (show (2, gFb h 2).2 ≠ 0 from e2)]
  · rw [if_pos e1, stop 3 2 1 e1, decide_eq_true (show (1, gFb h 1).2 ≠ 0 from e1)]
end CP
