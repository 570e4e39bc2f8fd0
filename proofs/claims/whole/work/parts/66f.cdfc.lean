theorem gTr_sh {G : GH} {T : Nat} (S : gSp G T) (hT : 1 ≤ T) : gTr (gSh G) = if gE0 G = true then T else T - 1 := by
  obtain ⟨s1, s2, s3, s4, s5, s6, s7⟩ := S
  have o0 : ∀ t, gSh G 0 t = G 0 t := gSh_o G (by decide)
  by_cases e : gE0 G = true
  · rw [if_pos e]
    have v : ∀ t, gSh G 1 t = G 1 t := fun t => by rw [gSh_y e, if_neg (fun q => absurd q.1 (by decide))]
    refine bmx_eq (fun t ht p => ?_) (fun _ => ?_)
    · rw [v]; exact (s2 t ht (by have := of_decide_eq_true p; rw [o0] at this; exact this)).1
    · by_cases z : T = 1
      · obtain ⟨t, ht, p, q⟩ := (gE0_iff G).mp e
        exact ⟨t, ht, decide_eq_true (by rw [o0]; exact p), by rw [v]; omega⟩
      · obtain ⟨t, ht, p, q⟩ := s1 (T - 1) (by omega) (by omega)
        exact ⟨t, ht, decide_eq_true (by rw [o0]; exact p), by rw [v]; omega⟩
  · rw [if_neg e]
    have v : ∀ t, gSh G 1 t = G 1 t - 1 := fun t => by rw [gSh_n e, if_pos rfl]
    refine bmx_eq (fun t ht p => ?_) (fun hp => ?_)
    · have p := of_decide_eq_true p
      rw [o0] at p
      have := (s2 t ht p).1
      have : G 1 t ≠ 0 := fun q => e ((gE0_iff G).mpr ⟨t, ht, p, q⟩)
      rw [v]; omega
    · obtain ⟨t, ht, p, q⟩ := s1 (T - 1) (by omega) (by omega)
      exact ⟨t, ht, decide_eq_true (by rw [o0]; exact p), by rw [v]; omega⟩
theorem gCa_sh {G : GH} {T : Nat} (S : gSp G T) (w : Nat) : gCa (gSh G) w = if gE0 G = true then (if w = 0 then gCa G 0 - 1 else gCa G w) else gCa G (w + 1) := by
  obtain ⟨s1, s2, s3, s4, s5, s6, s7⟩ := S
  have o0 : ∀ t, gSh G 0 t = G 0 t := gSh_o G (by decide)
  by_cases e : gE0 G = true
  · rw [if_pos e]
    have v : ∀ t, gSh G 1 t = G 1 t := fun t => by rw [gSh_y e, if_neg (fun q => absurd q.1 (by decide))]
    by_cases z : w = 0
    · subst z
      rw [if_pos rfl]
      refine bmx_eq (fun t ht p => ?_) (fun hp => ?_)
      · have p := of_decide_eq_true p
        rw [o0, v] at p
        have a := gCa_lt ht p.1 p.2
        have b := (s2 t ht p.1).2 p.2
        rw [gSh_y e, if_pos ⟨rfl, p.2⟩]; omega
      · obtain ⟨t, ht, p, q⟩ := bmx_at (p := fun t => decide (0 < G 0 t ∧ G 1 t = 0)) (c := G 2) (n := 40) (show 0 < gCa G 0 by omega)
        have p := of_decide_eq_true p
        have q : G 2 t + 1 = gCa G 0 := q
        have b := (s2 t ht p.1).2 p.2
        exact ⟨t, ht, decide_eq_true (by rw [o0, v]; exact p), by rw [gSh_y e, if_pos ⟨rfl, p.2⟩]; omega⟩
    · rw [if_neg z]
      refine bmx_cong (fun t ht => ?_) (fun t ht p => ?_)
      · rw [o0, v]
      · have p := of_decide_eq_true p
        rw [gSh_y e, if_neg (fun q => z (p.2.symm.trans q.2))]
  · rw [if_neg e]
    refine bmx_cong (fun t ht => ?_) (fun t ht p => ?_)
    · rw [o0, gSh_n e, if_pos rfl, decide_eq_decide]
      constructor
      · rintro ⟨p, q⟩
        have : G 1 t ≠ 0 := fun q => e ((gE0_iff G).mpr ⟨t, ht, p, q⟩)
        exact ⟨p, by omega⟩
      · rintro ⟨p, q⟩
        exact ⟨p, by omega⟩
    · rw [gSh_n e, if_neg (by decide)]
def gCe (G : GH) (w : Nat) : Nat := if w = 0 ∧ ¬ gE0 G = true then 1 else gCa G w
section DF
variable {G : GH} {T : Nat} {tr ca cs : Nat → Int32}
theorem c_dft2 (tn : Int32) (cs : Nat → Int32) : ∀ k i (tr1 tr : Nat → Int32), i + k = 40 → (∀ t, t < 40 → tr1 t = if t < i then tr t - 1 else tr t) → ∃ tr2, (∀ t, t < 40 → tr2 t = tr t - 1) ∧ mX10_dropFirstTrain_2 tn cs k i tr1 = (tn - 1, tr2, va_cpy cs cs 1 0 41) := by
  intro k
  induction k with
  | zero =>
    intro i tr1 tr hi e
    exact ⟨tr1, fun t ht => by rw [e t ht, if_pos (by omega)], by rw [mX10_dropFirstTrain_2]⟩
  | succ k ih =>
    intro i tr1 tr hi e
    rw [mX10_dropFirstTrain_2, zc i (by omega)]
    refine ih (i + 1) _ tr (by omega) (fun t ht => ?_)
    by_cases z : t = i
    · subst z; rw [pk_us, e t ht, if_neg (by omega), if_pos (by omega)]
    · rw [pk_un z, e t ht]
      by_cases y : t < i
      · rw [if_pos y, if_pos (by omega)]
      · rw [if_neg y, if_neg (by omega)]
theorem c_dft (tn : Int32) (tr cs : Nat → Int32) : ∃ tr2, (∀ t, t < 40 → tr2 t = tr t - 1) ∧ mX10_dropFirstTrain tn tr cs = (tn - 1, tr2, va_cpy cs cs 1 0 41) :=
  c_dft2 tn cs 40 0 tr tr rfl (fun t ht => by rw [if_neg (by omega)])
theorem c_dfc2 (tn : Int32) (tr cs : Nat → Int32) : ∀ k i (ca1 ca : Nat → Int32), i + k = 40 → (∀ t, t < 40 → ca1 t = if t < i ∧ tr t = 0 then ca t - 1 else ca t) → ∃ ca2, (∀ t, t < 40 → ca2 t = if tr t = 0 then ca t - 1 else ca t) ∧ mX10_dropFirstCar_2 tn tr cs k i ca1 = mX10_dropFirstCar_2 tn tr cs 0 40 ca2 := by
  intro k
  induction k with
  | zero =>
    intro i ca1 ca hi e
    have : i = 40 := by omega
    subst this
    refine ⟨ca1, fun t ht => ?_, rfl⟩
    have ix : (t < 40 ∧ tr t = 0) ↔ tr t = 0 := ⟨fun q => q.2, fun q => ⟨ht, q⟩⟩
    rw [e t ht]; simp only [ix]
  | succ k ih =>
    intro i ca1 ca hi e
    rw [mX10_dropFirstCar_2, zc i (by omega)]
    by_cases z : tr i = 0
    · rw [if_pos z]
      refine ih (i + 1) _ ca (by omega) (fun t ht => ?_)
      by_cases y : t = i
      · subst y; rw [pk_us, e t ht, if_neg (by omega), if_pos ⟨by omega, z⟩]
      · rw [pk_un y, e t ht]
        have ix : (t < i + 1 ∧ tr t = 0) ↔ (t < i ∧ tr t = 0) := ⟨fun q => ⟨by omega, q.2⟩, fun q => ⟨by omega, q.2⟩⟩
        simp only [ix]
    · rw [if_neg z]
      refine ih (i + 1) _ ca (by omega) (fun t ht => ?_)
      rw [e t ht]
      have ix : (t < i + 1 ∧ tr t = 0) ↔ (t < i ∧ tr t = 0) := ⟨fun q => ⟨by
        by_cases y : t = i
        · subst y; exact absurd q.2 z
        · omega, q.2⟩, fun q => ⟨by omega, q.2⟩⟩
      simp only [ix]
/-- the first TRAIN that is empty goes -/
theorem c_gone (S : gSp G T) (h1 : 1 ≤ T) (hT : T ≤ 41) (e : ¬ gE0 G = true) (htr : ∀ t, t < 40 → 0 < G 0 t → tr t = nI (G 1 t)) (hca : ∀ t, t < 40 → 0 < G 0 t → ca t = nI (G 2 t)) (hcs : ∀ w, 1 ≤ w → w < T → cs w = nI (gCa G w)) :
    ∃ tr' cs', mX10_dropFirstTrain (nI T) tr cs = (nI (gTr (gSh G)), tr', cs') ∧ (∀ t, t < 40 → 0 < G 0 t → tr' t = nI (gSh G 1 t) ∧ ca t = nI (gSh G 2 t)) ∧ ∀ w, w < gTr (gSh G) → cs' w = nI (gCa (gSh G) w) := by
  obtain ⟨tr2, e1, e2⟩ := c_dft (nI T) tr cs
  have eT := gTr_sh S h1
  rw [if_neg e] at eT
  refine ⟨tr2, va_cpy cs cs 1 0 41, ?_, fun t ht p => ⟨?_, ?_⟩, fun w hw => ?_⟩
  · rw [e2, eT, show T = (T - 1) + 1 by omega, nI_pred]; rfl
  · have : G 1 t ≠ 0 := fun q => e ((gE0_iff G).mpr ⟨t, ht, p, q⟩)
    rw [e1 t ht, htr t ht p, gSh_n e, if_pos rfl, show G 1 t = (G 1 t - 1) + 1 by omega, nI_pred]; rfl
  · rw [gSh_n e, if_neg (by decide)]; exact hca t ht p
  · have hw : w < gTr (gSh G) := hw
    rw [pk_cpy_in (Nat.zero_le _) (by omega), gCa_sh S w, if_neg e, Nat.sub_zero, Nat.add_comm 1 w]
    exact hcs (w + 1) (by omega) (by omega)
theorem c_dfc (S : gSp G T) (h1 : 1 ≤ T) (hT : T ≤ 41) (htr : ∀ t, t < 40 → 0 < G 0 t → tr t = nI (G 1 t)) (hca : ∀ t, t < 40 → 0 < G 0 t → ca t = nI (G 2 t)) (hcs : ∀ w, w < T → cs w = nI (gCe G w)) :
    ∃ tr' ca' cs', mX10_dropFirstCar (nI T) tr ca cs = (nI (gTr (gSh G)), tr', ca', cs') ∧ (∀ t, t < 40 → 0 < G 0 t → tr' t = nI (gSh G 1 t) ∧ ca' t = nI (gSh G 2 t)) ∧ ∀ w, w < gTr (gSh G) → cs' w = nI (gCa (gSh G) w) := by
  have N := fun t ht p => ((S.2.1 t ht p).1 : G 1 t < T)
  unfold mX10_dropFirstCar
  obtain ⟨ca2, e1, e2⟩ := c_dfc2 (nI T) tr cs 40 0 ca ca rfl (fun t ht => by rw [if_neg (by omega)])
  have c0 : (0 : Int32).toNatClampNeg = 0 := rfl
  have h0 := hcs 0 (by omega)
  rw [e2, mX10_dropFirstCar_2, c0, pk_us, h0]
  have eT := gTr_sh S h1
  have cz : ∀ t, t < 40 → 0 < G 0 t → (tr t = 0 ↔ G 1 t = 0) := fun t ht p => by
    have := N t ht p
    rw [htr t ht p, nI0 (by omega)]
  by_cases e : gE0 G = true
  · rw [if_pos e] at eT
    have c2 : 2 ≤ gCa G 0 := by
      obtain ⟨t, ht, p, q⟩ := (gE0_iff G).mp e
      have := gCa_lt ht p q
      have := (S.2.1 t ht p).2 q
      omega
    have eC : gCe G 0 = gCa G 0 := by unfold gCe; rw [if_neg (fun q => q.2 e)]
    rw [eC, show gCa G 0 = (gCa G 0 - 1) + 1 by omega, nI_pred]
    have l : gCa G 0 ≤ 1000 := by
      have := gCa_le (gSp_N S (by
        by_cases z : T ≤ 40
        · exact z
        · exfalso
          have x : T = 41 := by omega
          have := ct_inj (P := fun u w => G 1 u = w) (n := 41) (fun w hw => by
            by_cases y : w = 0
            · obtain ⟨t, ht, p, q⟩ := (gE0_iff G).mp e
              exact ⟨t, ht, by rw [y]; exact q⟩
            · obtain ⟨u, hu, _, q⟩ := S.1 w (by omega) (by omega)
              exact ⟨u, hu, q⟩) (fun u c d a b => a.symm.trans b)
          omega)) 0
      omega
    rw [if_pos ((nIp (by omega)).mpr (by omega)), eT]
    refine ⟨_, _, _, rfl, fun t ht p => ⟨?_, ?_⟩, fun w hw => ?_⟩
    · rw [gSh_y e, if_neg (fun q => absurd q.1 (by decide))]; exact htr t ht p
    · rw [e1 t ht, gSh_y e]
      by_cases z : G 1 t = 0
      · have := (S.2.1 t ht p).2 z
        rw [if_pos ((cz t ht p).mpr z), if_pos ⟨rfl, z⟩, hca t ht p, show G 2 t = (G 2 t - 1) + 1 by omega, nI_pred]; rfl
      · rw [if_neg (fun q => z ((cz t ht p).mp q)), if_neg (fun q => z q.2)]; exact hca t ht p
    · rw [gCa_sh S w, if_pos e]
      by_cases z : w = 0
      · subst z; rw [if_pos rfl, pk_us]
      · rw [if_neg z, pk_un z, hcs w hw]
        unfold gCe
        rw [if_neg (fun q => z q.1)]
  · rw [if_neg e] at eT
    have eC : gCe G 0 = 1 := by unfold gCe; rw [if_pos ⟨rfl, e⟩]
    rw [eC, if_neg (show ¬ 0 < nI 1 - 1 by decide)]
    obtain ⟨tr', cs', k1, k2, k3⟩ := c_gone (tr := tr) (ca := ca2) (cs := upd cs 0 (nI 1 - 1)) S h1 hT e htr (fun t ht p => by
      have : G 1 t ≠ 0 := fun q => e ((gE0_iff G).mpr ⟨t, ht, p, q⟩)
      rw [e1 t ht, if_neg (fun q => this ((cz t ht p).mp q))]; exact hca t ht p) (fun w h1 h2 => by
      rw [pk_un (by omega), hcs w h2]
      unfold gCe
      rw [if_neg (by omega)])
    rw [k1, xlet_eq, xu_r, xu_r]
    exact ⟨tr', ca2, cs', rfl, k2, k3⟩
end DF
section MK
variable {h : GH} {sz ag tr ca pl lk rt cs : Nat → Int32} {fr : Nat → Int64} {th mk ro : Int64} {tn sp : Int32}
theorem c_markOne (W : gW h) (hsz : ∀ t, t < 40 → sz t = nI (h 0 t)) (hp : ∀ t, t < 40 → 0 < h 0 t → tr t = nI (h 1 t) ∧ ca t = nI (h 2 t) ∧ pl t = nI (h 3 t)) (hfr : ∀ t, t < 40 → zh (fr t) (fun u => gLk h u t)) (hro : zh ro (gRt h)) (hmk : zh mk (fun t => decide (h 5 t = 1))) : zh (mX3_markOne ro mk sz tr ca pl fr) (fun t => decide (gMk h 5 t = 1)) := by
  have N := gW_N W
  have K : iK h := ⟨W.2.2.2.2.2.1, W.2.2.2.2.2.2⟩
  have hfi : zh (mX10_riders (0 : Int32) sz tr) (fun t => decide (0 < h 0 t ∧ h 1 t = 0)) := zh_cong (s_riders 0 sz tr) (fun t ht => by
    rw [decide_eq_decide, hsz t ht]
    have a := N.1 t ht
    rw [nIp (by omega)]
    by_cases p : 0 < h 0 t
    · have b := N.2.1 t ht p
      rw [(hp t ht p).1, nI0 (by omega)]
    · exact ⟨fun q => absurd q.1 p, fun q => absurd q.1 p⟩)
  have hgr : zh (mX10_riders (0 : Int32) sz tr) (fun t => decide (0 < h 0 t ∧ gTn h t = 0)) := zh_cong hfi (fun t ht => by
    unfold gTn
    rw [if_neg (by have := (W.1 t ht).2.2.2.2; omega)])
  unfold mX3_markOne gMk
  have e1 : (mk &&& mX10_riders (0 : Int32) sz tr = 0) ↔ ¬ gMk1 h = true := by
    have := and0 hmk hfi
    unfold gMk1
    rw [bexI]
    constructor
    · rintro z ⟨t, ht, q⟩
      have q := of_decide_eq_true q
      exact (this.mpr ⟨t, ht, decide_eq_true q.2.2, decide_eq_true ⟨q.1, q.2.1⟩⟩) z
    · intro z
      refine Decidable.byContradiction (fun q => ?_)
      obtain ⟨t, ht, a, b⟩ := this.mp q
      have a := of_decide_eq_true a
      have b := of_decide_eq_true b
      exact z ⟨t, ht, decide_eq_true ⟨b.1, b.2, a⟩⟩
  by_cases m1 : gMk1 h = true
  · rw [if_pos m1, mX3_markOne_12, if_neg (fun q => (e1.mp q) m1)]
    unfold mX3_markOne_80
    exact zh_cong (zh_or hmk zh_bitm) (fun t _ => Bool.or_false _)
  · rw [if_neg m1]
    have go : ∀ k i, i + k = 40 → mX3_markOne_12 ro mk sz tr ca pl fr k i (bno (bbt (fun t => decide (0 < h 0 t ∧ h 1 t = 0 ∧ gOut h t = true)) (fun t => 1000 * h 2 t + h 3 t) i)) = mk ||| mX11_bit (bno (gMkB h)) := by
      intro k
      induction k with
      | zero =>
        intro i hi
        rw [show i = 40 by omega, mX3_markOne_12]
        rfl
      | succ k ih =>
        intro i hi
        have hi40 : i < 40 := by omega
        have ih1 := ih (i + 1) (by omega)
        rw [bbt_succ] at ih1
        have l := bbt_le (fun t => decide (0 < h 0 t ∧ h 1 t = 0 ∧ gOut h t = true)) (fun t => 1000 * h 2 t + h 3 t) i
        rw [mX3_markOne_12, if_pos (e1.mpr m1), zh_in hfi hi40]
        by_cases p : 0 < h 0 i ∧ h 1 i = 0
        · rw [if_pos (decide_eq_true p), c_out K hfr hro hgr hi40]
          by_cases y : gOut h i = true
          · have pp : decide (0 < h 0 i ∧ h 1 i = 0 ∧ gOut h i = true) = true := decide_eq_true ⟨p.1, p.2, y⟩
            rw [if_pos y]
            by_cases b0 : bbt (fun t => decide (0 < h 0 t ∧ h 1 t = 0 ∧ gOut h t = true)) (fun t => 1000 * h 2 t + h 3 t) i = 0
            · rw [if_pos ⟨pp, Or.inl b0⟩, bnoS] at ih1
              rw [if_pos ((bno_m1 (by omega)).mpr b0)]
              exact ih1
            · rw [if_neg (fun q => b0 ((bno_m1 (by omega)).mp q))]
              obtain ⟨x, hx⟩ : ∃ x, bbt (fun t => decide (0 < h 0 t ∧ h 1 t = 0 ∧ gOut h t = true)) (fun t => 1000 * h 2 t + h 3 t) i = x + 1 := ⟨_, (Nat.succ_pred_eq_of_pos (by omega)).symm⟩
              have pa := of_decide_eq_true (bbt_at (p := fun t => decide (0 < h 0 t ∧ h 1 t = 0 ∧ gOut h t = true)) (c := fun t => 1000 * h 2 t + h 3 t) (n := i) b0).1
              rw [hx, Nat.add_sub_cancel] at pa
              have hx40 : x < 40 := by omega
              have c1 := N.2.1 i hi40 p.1
              have c2 := N.2.1 x hx40 pa.1
              have ah : mX3_isAhead (nI i) (nI x) ca pl = decide (1000 * h 2 i + h 3 i < 1000 * h 2 x + h 3 x) := by
                unfold mX3_isAhead
                rw [s_at 40 i hi40 (by decide), s_at 40 x hx40 (by decide), s_at 40 i hi40 (by decide), s_at 40 x hx40 (by decide), (hp i hi40 p.1).2.1, (hp x hx40 pa.1).2.1, (hp i hi40 p.1).2.2, (hp x hx40 pa.1).2.2]
                by_cases d1 : h 2 i < h 2 x
                · rw [if_pos (pk_sneg (by omega) d1), decide_eq_true (by omega)]
                · rw [pk_sub (by omega), if_neg (nI_pos (by omega))]
                  by_cases d2 : h 2 i = h 2 x
                  · rw [if_pos ((nI0 (by omega)).mpr (by omega))]
                    by_cases d3 : h 3 i < h 3 x
                    · rw [if_pos (nI_lt d3 (by omega)), decide_eq_true (by omega)]
                    · rw [if_neg (nI_nlt (by omega) (by omega)), decide_eq_false (by omega)]
                  · rw [if_neg (fun q => by have := (nI0 (by omega)).mp q; omega), decide_eq_false (by omega)]
              rw [hx, bnoS, ah]
              rw [hx, Nat.add_sub_cancel] at ih1
              by_cases d : 1000 * h 2 i + h 3 i < 1000 * h 2 x + h 3 x
              · rw [if_pos (decide_eq_true d)]
                rw [if_pos ⟨pp, Or.inr d⟩, bnoS] at ih1
                exact ih1
              · rw [if_neg (by rw [decide_eq_true_eq]; exact d)]
                rw [if_neg (fun q => by rcases q.2 with q | q; exact absurd q (by omega); exact d q), bnoS] at ih1
                exact ih1
          · rw [if_neg y]
            rw [if_neg (fun q => y (of_decide_eq_true q.1).2.2)] at ih1
            exact ih1
        · rw [if_neg (by rw [decide_eq_true_eq]; exact p)]
          rw [if_neg (fun q => p ⟨(of_decide_eq_true q.1).1, (of_decide_eq_true q.1).2.1⟩)] at ih1
          exact ih1
    have g0 : mX3_markOne_12 ro mk sz tr ca pl fr 40 0 (-1) = mk ||| mX11_bit (bno (gMkB h)) := go 40 0 rfl
    rw [g0]
    have l : gMkB h ≤ 40 := bbt_le _ _ 40
    by_cases z : gMkB h = 0
    · rw [if_pos z, z]
      exact zh_cong (zh_or hmk zh_bitm) (fun t _ => Bool.or_false _)
    · rw [if_neg z, show gMkB h = (gMkB h - 1) + 1 by omega, bnoS]
      refine zh_ins (by omega) hmk (fun t ht => ?_)
      by_cases y : t = gMkB h - 1
      · rw [y, Nat.add_sub_cancel, gset_s]; simp
      · rw [Nat.add_sub_cancel, gset_n h 1 (fun q => y q.2), decide_eq_false y, Bool.or_false]
end MK
