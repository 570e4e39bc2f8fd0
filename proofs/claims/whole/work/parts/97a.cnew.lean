/-- as c_lay, nothing being known of where the thing itself was -/
theorem c_layN {sz tr ca pl cs : Nat → Int32} {S Wf C : Nat → Nat} {t w m U : Nat} (hs : ∀ u, u < 40 → sz u = nI (S u)) (hs2 : ∀ u, u < 40 → S u < 1000) (hw : ∀ u, u < 40 → u ≠ t → 0 < S u → tr u = nI (Wf u) ∧ Wf u < 1000) (hc : ∀ u, u < 40 → u ≠ t → 0 < S u → ca u = nI (C u) ∧ C u ≤ 1000) (ht : t < 40) (hw42 : w < 42) (hm : m ≤ 1000) (hcs : cs w = nI m) (hU : U < 1000) :
    mX10_lay (nI t) (nI w) (nI U) sz tr ca pl cs =
      (upd tr t (nI w), upd ca t (nI (if m = 0 ∨ U < fb_sm (fun u => if decide (0 < S u ∧ u ≠ t ∧ Wf u = w ∧ C u + 1 = m) = true then S u else 0) 40 + S t then m else m - 1)), upd pl t (nI (if m = 0 ∨ U < fb_sm (fun u => if decide (0 < S u ∧ u ≠ t ∧ Wf u = w ∧ C u + 1 = m) = true then S u else 0) 40 + S t then 0 else fb_ct (fun u => decide (0 < S u ∧ u ≠ t ∧ Wf u = w ∧ C u + 1 = m)) 40)), if m = 0 ∨ U < fb_sm (fun u => if decide (0 < S u ∧ u ≠ t ∧ Wf u = w ∧ C u + 1 = m) = true then S u else 0) 40 + S t then upd cs w (nI (m + 1)) else cs) := by
  have e126 : ∀ (x y : Int32) (q : Nat → Int32), mX10_lay_126 (nI t) (nI w) tr ca pl x y q = (upd tr t (nI w), upd ca t x, upd pl t y, q) := by
    intro x y q
    unfold mX10_lay_126
    rw [s_put 40 t ht (by decide), s_put 40 t ht (by decide), s_put 40 t ht (by decide), xlet_eq, xlet_eq, xlet_eq]
  have eAt : mX11_at 42 (nI w) cs = nI m := by rw [s_at 42 w hw42 (by decide), hcs]
  have back : nI m - 1 + 1 = nI m := Int32.sub_add_cancel _ _
  have e108 : mX10_lay_108 (nI t) (nI w) tr ca pl cs = (upd tr t (nI w), upd ca t (nI m), upd pl t (nI 0), upd cs w (nI (m + 1))) := by
    unfold mX10_lay_108
    rw [eAt, back, s_put 42 w hw42 (by decide), xlet_eq, e126, nI_1]
    rfl
  have eS : mX11_at 40 (nI t) sz = nI (S t) := by rw [s_at 40 t ht (by decide), hs t ht]
  have hcar : ∀ u, u < 40 → u ≠ t → 0 < S u → (ca u = nI m - 1 ↔ C u + 1 = m) := by
    intro u hu e p
    obtain ⟨a, b⟩ := hc u hu e p
    rw [a]
    cases m with
    | zero =>
      rw [show nI 0 - 1 = (-1 : Int32) from rfl]
      exact ⟨fun q => absurd q (nI_m1 (by omega)), fun q => by omega⟩
    | succ m =>
      rw [nI_pred, nI_eq (by omega) (by omega)]
      omega
  unfold mX10_lay
  have go : ∀ k i, i + k = 40 → mX10_lay_21 (nI t) (nI w) (nI U) sz tr ca pl cs k i (nI (fb_sm (fun u => if decide (0 < S u ∧ u ≠ t ∧ Wf u = w ∧ C u + 1 = m) = true then S u else 0) i)) (nI (fb_ct (fun u => decide (0 < S u ∧ u ≠ t ∧ Wf u = w ∧ C u + 1 = m)) i)) =
      (upd tr t (nI w), upd ca t (nI (if m = 0 ∨ U < fb_sm (fun u => if decide (0 < S u ∧ u ≠ t ∧ Wf u = w ∧ C u + 1 = m) = true then S u else 0) 40 + S t then m else m - 1)), upd pl t (nI (if m = 0 ∨ U < fb_sm (fun u => if decide (0 < S u ∧ u ≠ t ∧ Wf u = w ∧ C u + 1 = m) = true then S u else 0) 40 + S t then 0 else fb_ct (fun u => decide (0 < S u ∧ u ≠ t ∧ Wf u = w ∧ C u + 1 = m)) 40)), if m = 0 ∨ U < fb_sm (fun u => if decide (0 < S u ∧ u ≠ t ∧ Wf u = w ∧ C u + 1 = m) = true then S u else 0) 40 + S t then upd cs w (nI (m + 1)) else cs) := by
    have hbd : fb_sm (fun u => if decide (0 < S u ∧ u ≠ t ∧ Wf u = w ∧ C u + 1 = m) = true then S u else 0) 40 ≤ 40 * 1000 := by
      refine fb_sm_bound (fun u hu => ?_)
      have := hs2 u hu
      split <;> omega
    have hst := hs2 t ht
    intro k
    induction k with
    | zero =>
      intro i hi
      have : i = 40 := by omega
      subst this
      rw [mX10_lay_21, eAt, eS, e108, nI_add]
      by_cases m0 : m = 0
      · rw [if_pos (Or.inl m0), if_pos (Or.inl m0), if_pos (Or.inl m0)]
        subst m0
        rw [if_pos (show nI 0 - 1 < 0 by decide)]
      · obtain ⟨q, rfl⟩ : ∃ q, m = q + 1 := ⟨m - 1, by omega⟩
        rw [nI_pred, if_neg (nI_pos (by omega))]
        by_cases l : U < fb_sm (fun u => if decide (0 < S u ∧ u ≠ t ∧ Wf u = w ∧ C u + 1 = q + 1) = true then S u else 0) 40 + S t
        · rw [if_pos (nI_lt l (by omega)), if_pos (Or.inr l), if_pos (Or.inr l), if_pos (Or.inr l)]
        · have nn : ¬ (q + 1 = 0 ∨ U < fb_sm (fun u => if decide (0 < S u ∧ u ≠ t ∧ Wf u = w ∧ C u + 1 = q + 1) = true then S u else 0) 40 + S t) := fun z => by rcases z with z | z; exact absurd z (by omega); exact l z
          rw [if_neg (nI_nlt (by omega) (by omega)), e126, if_neg nn, if_neg nn, if_neg nn]
          rfl
    | succ k ih =>
      intro i hi
      have hi40 : i < 40 := by omega
      have ih1 := ih (i + 1) (by omega)
      rw [fb_sm_succ, fb_ct_succ] at ih1
      rw [mX10_lay_21, zc i (by omega)]
      by_cases e : i = t
      · rw [if_pos (show nI i = nI t by rw [e])]
        rw [if_neg (fun q => (of_decide_eq_true q).2.1 e), if_neg (fun q => (of_decide_eq_true q).2.1 e)] at ih1
        exact ih1
      · rw [if_neg (fun q => e ((nI_eq (by omega) (by omega)).mp q)), hs i hi40]
        by_cases p : 0 < S i
        · rw [if_pos ((nIp (by have := hs2 i hi40; omega)).mpr p), (hw i hi40 e p).1]
          have hwi := (hw i hi40 e p).2
          by_cases z : Wf i = w
          · rw [if_pos (show nI (Wf i) = nI w by rw [z]), eAt]
            by_cases y : C i + 1 = m
            · have dd : decide (0 < S i ∧ i ≠ t ∧ Wf i = w ∧ C i + 1 = m) = true := decide_eq_true ⟨p, e, z, y⟩
              rw [if_pos ((hcar i hi40 e p).mpr y), nI_add, nI_1]
              rw [if_pos dd, if_pos dd] at ih1
              exact ih1
            · rw [if_neg (fun q => y ((hcar i hi40 e p).mp q))]
              rw [if_neg (fun q => y (of_decide_eq_true q).2.2.2), if_neg (fun q => y (of_decide_eq_true q).2.2.2)] at ih1
              exact ih1
          · rw [if_neg (fun q => z ((nI_eq (by omega) (by omega)).mp q))]
            rw [if_neg (fun q => z (of_decide_eq_true q).2.2.1), if_neg (fun q => z (of_decide_eq_true q).2.2.1)] at ih1
            exact ih1
        · rw [if_neg (fun q => p ((nIp (by have := hs2 i hi40; omega)).mp q))]
          rw [if_neg (fun q => p (of_decide_eq_true q).1), if_neg (fun q => p (of_decide_eq_true q).1)] at ih1
          exact ih1
  exact go 40 0 rfl
section CN
variable {g : GH} {t z w U : Nat}
theorem gNew_ca (W : gW g) (ht : t < 40) (h0 : g 0 t = 0) (hz : 1 ≤ z) : gCa (gNew g t z w U) w = (if gNw (gZs g t z) t w U = true then gCa g w + 1 else gCa g w) ∧ ∀ x, x ≠ w → gCa (gNew g t z w U) x = gCa g x := by
  obtain ⟨c1, c2, c3⟩ := gNc_le (gZs g t z) t w U
  rw [gZs_nl h0] at c1 c2 c3
  have ne : ∀ u, 0 < g 0 u → u ≠ t := fun u hu e => by subst e; omega
  refine ⟨?_, fun x hx => ?_⟩
  · refine bmx_eq (fun u hu p => ?_) (fun p => ?_)
    · have p := of_decide_eq_true p
      by_cases e : u = t
      · subst e
        rw [gNew_2]
        cases en : gNw (gZs g u z) u w U with
        | true => have := c3 en; rw [if_pos rfl]; omega
        | false => have := c2 en; rw [if_neg (by decide)]; omega
      · rw [gNew_n e, gNew_n e] at p
        rw [gNew_n e]
        have := gCa_lt hu p.1 p.2
        split <;> omega
    · refine ⟨t, ht, decide_eq_true ⟨by rw [gNew_0]; omega, gNew_1⟩, ?_⟩
      rw [gNew_2]
      cases en : gNw (gZs g t z) t w U with
      | true => have := c3 en; rw [if_pos rfl]; omega
      | false => have := c2 en; rw [if_neg (by decide)]; omega
  · refine bmx_cong (fun u hu => ?_) (fun u hu p => ?_)
    · rw [decide_eq_decide]
      by_cases e : u = t
      · subst e
        rw [gNew_1, h0]
        exact ⟨fun q => absurd q.2.symm hx, fun q => absurd q.1 (by omega)⟩
      · rw [gNew_n e, gNew_n e]
    · have p := of_decide_eq_true p
      exact gNew_n (ne u p.1)
theorem gNew_tr (W : gW g) (ht : t < 40) (h0 : g 0 t = 0) (hz : 1 ≤ z) (hw : w = gTr g ∨ w + 1 = gTr g) : gTr (gNew g t z w U) = w + 1 := by
  refine bmx_eq (fun u hu p => ?_) (fun _ => ⟨t, ht, decide_eq_true (by rw [gNew_0]; omega), by rw [gNew_1]⟩)
  have p := of_decide_eq_true p
  by_cases e : u = t
  · subst e; rw [gNew_1]; omega
  · rw [gNew_n e] at p ⊢
    have := gTr_lt hu p
    omega
theorem gW_lt (W : gW g) {u : Nat} (hu : u < 40) (h : 0 < g 0 u) : g 1 u < 40 ∧ g 2 u < 40 := by
  have a := gTr_lt hu h
  have b := gCa_lt hu h rfl
  have c := gTr_40 W
  have d := gCa_40 W (g 1 u)
  omega
/-- the class lays a new thing -/
theorem c_new (W : gW g) (ht : t < 40) (h0 : g 0 t = 0) (hz : 1 ≤ z) (hz2 : z ≤ 99) (hU : U < 1000) (hw : w = gTr g ∨ w + 1 = gTr g) {sz ag tr ca pl lk rt cs cs1 : Nat → Int32} {fr : Nat → Int64} {th mk : Int64} {tn sp : Int32} (Y : cY g sz ag tr ca pl lk rt cs fr th mk tn sp) (hc1 : ∀ x, x < w + 1 → cs1 x = nI (gCa g x)) :
    ∃ (tr' ca' pl' cs' : Nat → Int32), mX10_add (nI t) (nI z) th sz ag = (th ||| mX11_bit (nI t), upd sz t (nI z), upd ag t 0) ∧ mX10_lay (nI t) (nI w) (nI U) (upd sz t (nI z)) tr ca pl cs1 = (tr', ca', pl', cs') ∧ cY (gNew g t z w U) (upd sz t (nI z)) (upd ag t 0) tr' ca' pl' lk rt cs' fr (th ||| mX11_bit (nI t)) mk (nI (w + 1)) sp := by
  obtain ⟨y1, y2, ⟨y3, y4⟩, y5, y6, y7, y8, y9, y10⟩ := Y
  have T40 := gTr_40 W
  have C40 := gCa_40 W w
  have ne : ∀ u, 0 < g 0 u → u ≠ t := fun u hu e => by subst e; omega
  have lay := c_layN (sz := upd sz t (nI z)) (tr := tr) (ca := ca) (pl := pl) (cs := cs1) (S := gZs g t z 0) (Wf := g 1) (C := g 2) (t := t) (w := w) (m := gCa g w) (U := U)
    (fun u hu => by
      by_cases e : u = t
      · subst e; rw [pk_us, gZs_0]
      · rw [pk_un e, gZs_o (Or.inl e)]; exact y1 u hu)
    (fun u hu => by
      by_cases e : u = t
      · subst e; rw [gZs_0]; omega
      · rw [gZs_o (Or.inl e)]; have := (W.1 u hu).1; omega)
    (fun u hu e p => by
      rw [gZs_o (Or.inl e)] at p
      exact ⟨(y2 u hu p).2.1, by have := gW_lt W hu p; omega⟩)
    (fun u hu e p => by
      rw [gZs_o (Or.inl e)] at p
      exact ⟨(y2 u hu p).2.2.1, by have := gW_lt W hu p; omega⟩)
    ht (by omega) (by omega) (hc1 w (by omega)) hU
  have eLd : ∀ u, decide (0 < gZs g t z 0 u ∧ u ≠ t ∧ g 1 u = w ∧ g 2 u + 1 = gCa g w) = gLd (gZs g t z) t w u := fun u => by
    unfold gLd
    rw [gZs_nl h0, gZs_o (a := 1) (Or.inr (by decide)), gZs_o (a := 2) (Or.inr (by decide))]
  simp only [eLd] at lay
  have eNw : (gCa g w = 0 ∨ U < fb_sm (fun u => if gLd (gZs g t z) t w u = true then gZs g t z 0 u else 0) 40 + gZs g t z 0 t) ↔ gNw (gZs g t z) t w U = true := by
    unfold gNw
    rw [decide_eq_true_iff, gZs_nl h0]
  obtain ⟨k1, k2⟩ := gNew_ca (w := w) (U := U) W ht h0 hz
  have eNc : gNc (gZs g t z) t w U = if gNw (gZs g t z) t w U = true then gCa g w else gCa g w - 1 := by
    unfold gNc
    rw [gZs_nl h0]
  have eNp : gNp (gZs g t z) t w U = if gNw (gZs g t z) t w U = true then 0 else fb_ct (gLd (gZs g t z) t w) 40 := rfl
  refine ⟨upd tr t (nI w), upd ca t (nI (gNc (gZs g t z) t w U)), upd pl t (nI (gNp (gZs g t z) t w U)), if gNw (gZs g t z) t w U = true then upd cs1 w (nI (gCa g w + 1)) else cs1, ?_, ?_, ?_⟩
  · unfold mX10_add
    rw [s_put 40 t ht (by decide), s_put 40 t ht (by decide), xlet_eq, xlet_eq]
  · rw [lay, eNc, eNp]
    by_cases q : gNw (gZs g t z) t w U = true
    · rw [if_pos (eNw.mpr q), if_pos (eNw.mpr q), if_pos (eNw.mpr q), if_pos q, if_pos q, if_pos q]
    · rw [if_neg (fun y => q (eNw.mp y)), if_neg (fun y => q (eNw.mp y)), if_neg (fun y => q (eNw.mp y)), if_neg q, if_neg q, if_neg q]
  · refine ⟨fun u hu => ?_, fun u hu p => ?_, ⟨fun j hj => by rw [gNew_o (by decide)]; exact y3 j hj, fun k hk => by rw [gNew_o (by decide)]; exact y4 k hk⟩, fun x hx => ?_, fun u hu => ?_, ?_, ?_, by rw [gNew_tr W ht h0 hz hw], by rw [gNew_o (by decide)]; exact y10⟩
    · by_cases e : u = t
      · subst e; rw [pk_us, gNew_0]
      · rw [pk_un e, gNew_n e]; exact y1 u hu
    · by_cases e : u = t
      · subst e
        rw [pk_us, pk_us, pk_us, pk_us, gNew_4, gNew_1, gNew_2, gNew_3]
        exact ⟨rfl, rfl, rfl, rfl⟩
      · rw [gNew_n e] at p
        rw [pk_un e, pk_un e, pk_un e, pk_un e, gNew_n e, gNew_n e, gNew_n e, gNew_n e]
        exact y2 u hu p
    · rw [gNew_tr W ht h0 hz hw] at hx
      by_cases e : x = w
      · subst e
        rw [k1]
        by_cases q : gNw (gZs g t z) t x U = true
        · rw [if_pos q, if_pos q, pk_us]
        · rw [if_neg q, if_neg q]; exact hc1 x (by omega)
      · rw [k2 x e]
        by_cases q : gNw (gZs g t z) t w U = true
        · rw [if_pos q, pk_un e]; exact hc1 x hx
        · rw [if_neg q]; exact hc1 x hx
    · refine zh_cong (y6 u hu) (fun x hx => gLk_cong (fun j => (gNew_o (by decide) j).symm) x u)
    · refine zh_cong (zh_or y7 (zh_bit ht)) (fun u hu => ?_)
      unfold gTh
      by_cases e : u = t
      · subst e; rw [gNew_0, decide_eq_true (show u = u from rfl), Bool.or_true, decide_eq_true (show 0 < z by omega)]
      · rw [gNew_n e, decide_eq_false e, Bool.or_false]
    · refine zh_cong y8 (fun u hu => ?_)
      by_cases e : u = t
      · subst e; rw [gNew_5, (W.1 u hu).2.2.2.1 h0]
      · rw [gNew_n e]
end CN
