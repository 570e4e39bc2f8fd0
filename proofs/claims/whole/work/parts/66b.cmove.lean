/-- the class's tests and sums answer so -/
def cF (code cf cl : Nat → Int32) (P : GP) : Prop := ∀ a z c d : Nat, a ≤ 1000 → z ≤ 99 → c ≤ 200 → d ≤ 99 → ∀ fa : Nat → Int32, fa 0 = nI a → fa 1 = nI z → fa 2 = nI c → fa 3 = nI d →
  (∀ (tp : Int32) (sk : Nat → Int32), ∃ x tp' sk', mX9_run 0 tp fa sk code cf cl = (x, tp', sk') ∧ (x = 0 ↔ P.1 a z c d = false)) ∧
  (∀ (tp : Int32) (sk : Nat → Int32), ∃ x tp' sk', mX9_run 2 tp fa sk code cf cl = (x, tp', sk') ∧ (if x < 0 then 0 else if 99 < x then 99 else x) = nI (P.2.1 a z c d))
theorem c_lay {sz tr ca pl cs : Nat → Int32} {S Wf C : Nat → Nat} (hs : ∀ u, u < 40 → sz u = nI (S u)) (hs2 : ∀ u, u < 40 → S u < 1000) (hw : ∀ u, u < 40 → 0 < S u → tr u = nI (Wf u) ∧ Wf u < 1000) (hc : ∀ u, u < 40 → 0 < S u → ca u = nI (C u) ∧ C u ≤ 1000) {t w m U : Nat} (ht : t < 40) (hw42 : w < 42) (hm : m ≤ 1000) (hcs : cs w = nI m) (hU : U < 1000) :
    mX10_lay (nI t) (nI w) (nI U) sz tr ca pl cs =
      (upd tr t (nI w), upd ca t (nI (if m = 0 ∨ U < fb_sm (fun u => if decide (0 < S u ∧ u ≠ t ∧ Wf u = w ∧ C u + 1 = m) = true then S u else 0) 40 + S t then m else m - 1)), upd pl t (nI (if m = 0 ∨ U < fb_sm (fun u => if decide (0 < S u ∧ u ≠ t ∧ Wf u = w ∧ C u + 1 = m) = true then S u else 0) 40 + S t then 0 else fb_ct (fun u => decide (0 < S u ∧ u ≠ t ∧ Wf u = w ∧ C u + 1 = m)) 40)), if m = 0 ∨ U < fb_sm (fun u => if decide (0 < S u ∧ u ≠ t ∧ Wf u = w ∧ C u + 1 = m) = true then S u else 0) 40 + S t then upd cs w (nI (m + 1)) else cs) := by
  have e126 : ∀ (x y : Int32) (q : Nat → Int32), mX10_lay_126 (nI t) (nI w) tr ca pl x y q = (upd tr t (nI w), upd ca t x, upd pl t y, q) := by
    intro x y q
    unfold mX10_lay_126
    rw [s_put 40 t ht (by decide), s_put 40 t ht (by decide), s_put 40 t ht (by decide), xlet_eq, xlet_eq, xlet_eq]
  have eAt : mX11_at 42 (nI w) cs = nI m := by rw [s_at 42 w hw42 (by decide), hcs]
  have back : nI m - 1 + 1 = nI m := Int32.sub_add_cancel _ _
  have e108 : mX10_lay_108 (nI t) (nI w) tr ca pl cs = (upd tr t (nI w), upd ca t (nI m), upd pl t (nI 0), upd cs w (nI (m + 1))) := by
    unfold mX10_lay_108
    rw [eAt, back, s_put 42 w hw42 (by decide), xlet_eq, e126, nI_1]
    rfl
  have eS : mX11_at 40 (nI t) sz = nI (S t) := by rw [s_at 40 t ht (by decide), hs t ht]
  have hcar : ∀ u, u < 40 → 0 < S u → (ca u = nI m - 1 ↔ C u + 1 = m) := by
    intro u hu p
    obtain ⟨a, b⟩ := hc u hu p
    rw [a]
    cases m with
    | zero =>
      rw [show nI 0 - 1 = (-1 : Int32) from rfl]
      exact ⟨fun q => absurd q (nI_m1 (by omega)), fun q => by omega⟩
    | succ m =>
      rw [nI_pred, nI_eq (by omega) (by omega)]
      omega
  unfold mX10_lay
  have go : ∀ k i, i + k = 40 → mX10_lay_21 (nI t) (nI w) (nI U) sz tr ca pl cs k i (nI (fb_sm (fun u => if decide (0 < S u ∧ u ≠ t ∧ Wf u = w ∧ C u + 1 = m) = true then S u else 0) i)) (nI (fb_ct (fun u => decide (0 < S u ∧ u ≠ t ∧ Wf u = w ∧ C u + 1 = m)) i)) =
      (upd tr t (nI w), upd ca t (nI (if m = 0 ∨ U < fb_sm (fun u => if decide (0 < S u ∧ u ≠ t ∧ Wf u = w ∧ C u + 1 = m) = true then S u else 0) 40 + S t then m else m - 1)), upd pl t (nI (if m = 0 ∨ U < fb_sm (fun u => if decide (0 < S u ∧ u ≠ t ∧ Wf u = w ∧ C u + 1 = m) = true then S u else 0) 40 + S t then 0 else fb_ct (fun u => decide (0 < S u ∧ u ≠ t ∧ Wf u = w ∧ C u + 1 = m)) 40)), if m = 0 ∨ U < fb_sm (fun u => if decide (0 < S u ∧ u ≠ t ∧ Wf u = w ∧ C u + 1 = m) = true then S u else 0) 40 + S t then upd cs w (nI (m + 1)) else cs) := by
    have hbd : fb_sm (fun u => if decide (0 < S u ∧ u ≠ t ∧ Wf u = w ∧ C u + 1 = m) = true then S u else 0) 40 ≤ 40 * 1000 := by
      refine fb_sm_bound (fun u hu => ?_)
      have := hs2 u hu
      split <;> omega
    have hst := hs2 t ht
    intro k
    induction k with
    | zero =>
      intro i hi
      have : i = 40 := by omega
      subst this
      rw [mX10_lay_21, eAt, eS, e108, nI_add]
      by_cases m0 : m = 0
      · rw [if_pos (Or.inl m0), if_pos (Or.inl m0), if_pos (Or.inl m0)]
        subst m0
        rw [if_pos (show nI 0 - 1 < 0 by decide)]
      · obtain ⟨q, rfl⟩ : ∃ q, m = q + 1 := ⟨m - 1, by omega⟩
        rw [nI_pred, if_neg (nI_pos (by omega))]
        by_cases l : U < fb_sm (fun u => if decide (0 < S u ∧ u ≠ t ∧ Wf u = w ∧ C u + 1 = q + 1) = true then S u else 0) 40 + S t
        · rw [if_pos (nI_lt l (by omega)), if_pos (Or.inr l), if_pos (Or.inr l), if_pos (Or.inr l)]
        · have nn : ¬ (q + 1 = 0 ∨ U < fb_sm (fun u => if decide (0 < S u ∧ u ≠ t ∧ Wf u = w ∧ C u + 1 = q + 1) = true then S u else 0) 40 + S t) := fun z => by rcases z with z | z; exact absurd z (by omega); exact l z
          rw [if_neg (nI_nlt (by omega) (by omega)), e126, if_neg nn, if_neg nn, if_neg nn]
          rfl
    | succ k ih =>
      intro i hi
      have hi40 : i < 40 := by omega
      have ih1 := ih (i + 1) (by omega)
      rw [fb_sm_succ, fb_ct_succ] at ih1
      rw [mX10_lay_21, zc i (by omega)]
      by_cases e : i = t
      · rw [if_pos (show nI i = nI t by rw [e])]
        rw [if_neg (fun q => (of_decide_eq_true q).2.1 e), if_neg (fun q => (of_decide_eq_true q).2.1 e)] at ih1
        exact ih1
      · rw [if_neg (fun q => e ((nI_eq (by omega) (by omega)).mp q)), hs i hi40]
        by_cases p : 0 < S i
        · rw [if_pos ((nIp (by have := hs2 i hi40; omega)).mpr p), (hw i hi40 p).1]
          have hwi := (hw i hi40 p).2
          by_cases z : Wf i = w
          · rw [if_pos (show nI (Wf i) = nI w by rw [z]), eAt]
            by_cases y : C i + 1 = m
            · have dd : decide (0 < S i ∧ i ≠ t ∧ Wf i = w ∧ C i + 1 = m) = true := decide_eq_true ⟨p, e, z, y⟩
              rw [if_pos ((hcar i hi40 p).mpr y), nI_add, nI_1]
              rw [if_pos dd, if_pos dd] at ih1
              exact ih1
            · rw [if_neg (fun q => y ((hcar i hi40 p).mp q))]
              rw [if_neg (fun q => y (of_decide_eq_true q).2.2.2), if_neg (fun q => y (of_decide_eq_true q).2.2.2)] at ih1
              exact ih1
          · rw [if_neg (fun q => z ((nI_eq (by omega) (by omega)).mp q))]
            rw [if_neg (fun q => z (of_decide_eq_true q).2.2.1), if_neg (fun q => z (of_decide_eq_true q).2.2.1)] at ih1
            exact ih1
        · rw [if_neg (fun q => p ((nIp (by have := hs2 i hi40; omega)).mp q))]
          rw [if_neg (fun q => p (of_decide_eq_true q).1), if_neg (fun q => p (of_decide_eq_true q).1)] at ih1
          exact ih1
  exact go 40 0 rfl
section CV
variable {h : GH} {T n s : Nat} {f : Nat → Nat} {sz ag tr ca pl lk rt cs wa : Nat → Int32} {fr ab : Nat → Int64} {th mk ro le : Int64} {tn sp : Int32} {P : GP}
theorem c_weigh2 (N : iN h) (K : iK h) (M : cM h T sz ag tr ca pl lk rt cs fr mk tn sp ab ro le) {t : Nat} (ht : t < 40) (hw : gWt h t = true) (fa : Nat → Int32) :
    ∃ fa', mX3_weigh (nI t) le fa sp sz ag lk rt fr = fa' ∧ fa' 0 = nI (h 8 0) ∧ fa' 1 = nI (h 0 t) ∧ fa' 2 = nI (gRf h t) ∧ fa' 3 = nI (h 4 t) := by
  obtain ⟨m1, m2, ⟨m3, m3'⟩, m4, m5, m6, m7, m8, m9, m10, m11⟩ := M
  have w := (gWt_iff h t).mp hw
  have eR : mX10_refs (nI t) le lk rt fr = nI (gRf h t) := by
    rw [s_refs t ht le _ m11 lk rt fr _ (m5 t ht)]
    unfold gRf
    have e1 : fb_ct (fun r => decide (rt r = nI t)) 8 = fb_ct (fun k => decide (h 7 k = t + 1)) 8 := fb_ct_cong (fun k hk => by
      rw [decide_eq_decide, m3' k hk, bno_nI (by have := (N.2.2.2 k hk).1; omega) (by omega)])
    rw [e1]
    congr 2
    refine fb_sm_cong (fun u hu => ?_)
    have e2 : fb_ct (fun r => decide (lk (4 * u + r) = nI t)) 4 = fb_ct (fun k => decide (h 6 (4 * u + k) = t + 1)) 4 := fb_ct_cong (fun k hk => by
      rw [decide_eq_decide, m3 _ (by omega), bno_nI (by have := (N.2.2.1 (4 * u + k) (by omega)).1; omega) (by omega)])
    rw [e2]
    by_cases z : 0 < h 0 u ∧ ¬ gWt h u = true
    · rw [if_pos z]
      by_cases y : gLk h u t = true
      · rw [if_pos (show (gLk h u t && !gWt h u) = true by rw [y, Bool.eq_false_iff.mpr z.2]; rfl)]
      · rw [if_neg (fun q => y ((Bool.and_eq_true _ _).mp q).1)]
        refine (fb_ct_zero.mpr (fun k hk => decide_eq_false (fun q => y ((gLk_iff h u t).mpr ⟨k, hk, q⟩)))).symm
    · rw [if_neg z, if_neg (fun q => z (by
        have q := (Bool.and_eq_true _ _).mp q
        exact ⟨gLk_src K hu q.1, by simpa using q.2⟩))]
  unfold mX3_weigh
  rw [show (0 : Int32) = nI 0 from rfl, show (1 : Int32) = nI 1 from rfl, show (2 : Int32) = nI 2 from rfl, show (3 : Int32) = nI 3 from rfl, s_put 4 0 (by decide) (by decide), xlet_eq, s_put 4 1 (by decide) (by decide), xlet_eq, s_put 4 2 (by decide) (by decide), xlet_eq, s_put 4 3 (by decide) (by decide), xlet_eq, eR, s_at 40 t ht (by decide), s_at 40 t ht (by decide), m1 t ht, (m2 t ht w.1).1, m8]
  refine ⟨_, rfl, ?_, ?_, ?_, ?_⟩
  · rw [pk_un (by decide), pk_un (by decide), pk_un (by decide), pk_us]
  · rw [pk_un (by decide), pk_un (by decide), pk_us]
  · rw [pk_un (by decide), pk_us]
  · exact pk_us
theorem c_target (I : mI h T s) (M : cM h T sz ag tr ca pl lk rt cs fr mk tn sp ab ro le) {r t : Nat} (hr : 1 ≤ r ∧ r ≤ 4) (ht : t < 40) (hb : gBy h r t = true) (X : GM) (hX : X.1 = h ∧ X.2.1 = T) :
    mX3_target (nI t) (nI r) ab tn cs fr = (nI (gTo X r t), nI (gTT X r), if r < 3 ∧ T = 1 then upd cs 1 0 else cs) := by
  obtain ⟨m1, m2, m3, m4, m5, m6, m7, m8, m9, m10, m11⟩ := M
  have K := I.2.2.2.2.2.2.2.2
  have hT := I.2.1.1
  unfold mX3_target gTo gTT
  rw [hX.1, hX.2]
  by_cases e4 : r = 4
  · rw [if_pos (show nI r = 4 from e4 ▸ rfl), if_neg (show ¬ r < 3 by omega), if_neg (show ¬ r = 3 by omega), if_neg (fun q => by omega), if_neg (fun q => by omega), m7]
    rfl
  · rw [if_neg (show ¬ nI r = 4 from fun q => e4 ((nI_eq (b := 4) (by omega) (by decide)).mp q))]
    by_cases e3 : r = 3
    · rw [if_pos (show nI r = 3 from e3 ▸ rfl), if_neg (show ¬ r < 3 by omega), if_pos e3, if_neg (fun q => by omega), if_neg (fun q => by omega), m7]
      have c0 : gCb h t ≠ 0 := by
        unfold gBy at hb
        rw [if_neg (by omega), if_neg (by omega), if_pos e3] at hb
        exact of_decide_eq_true hb
      have cT : gCb h t < T := bcl_lt hT.1 (fun u hu p => by
        have p := of_decide_eq_true p
        obtain ⟨a, b, c⟩ := I.2.1.2 u hu p.1
        unfold gTn
        split
        · rename_i q; exact (b q).2.2
        · exact a)
      have go : ∀ k i, i + k = 42 → 1 ≤ i → i ≤ gCb h t → mX3_target_33 (nI t) ab (nI T) cs fr k i = (nI (gCb h t), nI T, cs) := by
        intro k
        induction k with
        | zero => intro i hi h1 h2; omega
        | succ k ih =>
          intro i hi h1 h2
          rw [mX3_target_33, if_pos (nI_lt (by omega) (by omega)), s_maskAt 40 t ht (by decide), s_maskAt 42 i (by omega) (by decide)]
          have ne := and0 (m5 t ht) (m9 i (by omega))
          by_cases z : i = gCb h t
          · rw [if_neg, z]
            obtain ⟨u, hu, a, b⟩ := bcl_at (q := fun u => decide (0 < h 0 u ∧ gLk h u t = true)) (T := gTn h) (n := 40) c0
            have a := of_decide_eq_true a
            exact ne.mpr ⟨u, hu, a.2, decide_eq_true ⟨a.1, b.trans z.symm⟩⟩
          · rw [if_pos]
            · exact ih (i + 1) (by omega) (by omega) (by omega)
            · refine Decidable.byContradiction (fun q => ?_)
              obtain ⟨u, hu, a, b⟩ := ne.mp q
              have b := of_decide_eq_true b
              have := (bcl_le (q := fun u => decide (0 < h 0 u ∧ gLk h u t = true)) (T := gTn h) hu (decide_eq_true ⟨b.1, a⟩) (by omega)).2
              have : gCb h t ≤ gTn h u := this
              omega
      exact go 41 1 rfl (Nat.le_refl 1) (by omega)
    · rw [if_neg (show ¬ nI r = 3 from fun q => e3 ((nI_eq (b := 3) (by omega) (by decide)).mp q)), if_pos (show r < 3 by omega), m7]
      have r3 : r < 3 := by omega
      by_cases t1 : T = 1
      · subst t1
        rw [if_pos (show nI 1 = 1 from rfl), if_pos (show (1 : Nat) = 1 from rfl), if_pos (show r < 3 ∧ (1 : Nat) = 1 from ⟨r3, rfl⟩), if_pos (show r < 3 ∧ (1 : Nat) = 1 from ⟨r3, rfl⟩)]
        unfold mX10_beginTrain
        rw [show nI 1 = (1 : Int32) from rfl, show (1 : Int32) = nI 1 from rfl, s_put 42 1 (by decide) (by decide), xlet_eq, xlet_eq, xu_r]
        rfl
      · rw [if_neg (show ¬ nI T = 1 from fun q => t1 ((nI1' (by omega)).mp q)), if_neg (show ¬ T = 1 from t1), if_neg (show ¬ (r < 3 ∧ T = 1) from fun q => t1 q.2), if_neg (show ¬ (r < 3 ∧ T = 1) from fun q => t1 q.2)]
        obtain ⟨q, rfl⟩ : ∃ q, T = q + 1 := ⟨T - 1, by omega⟩
        rw [nI_pred]
        rfl
end CV
