theorem gLp_stop (P : GP) {X : GM} (h : (gPk X.1).2 = 0) : ∀ n, gLp P n X = X
  | 0 => rfl
  | n + 1 => by rw [gLp, if_pos h]
theorem gMv_8 (P : GP) (X : GM) (r t : Nat) : (gMv P X r t).1 8 0 = X.1 8 0 := by
  by_cases e : P.1 (X.1 8 0) (X.1 0 t) (gRf X.1 t) (X.1 4 t) = true
  · rw [gMv_stay e]; exact gSy_o X.1 t (gTo X r t) (a := 8) (by decide) 0
  · rw [gMv_lay e]; exact gLy_o X.1 t (gTo X r t) P.2.2 (a := 8) (by decide) 0
section SL
variable {v b : Nat} {h : GH} {sz tr ca pl ag mk lk rt st sT so sf sb cs cv ut : Nat → Int32} {P : GP}
theorem r_trains (hv : v < 22) (M : rM v h sz tr ca pl ag mk lk rt st sT) (N : iN h) : mX12_trainsOf (nI v) sz tr = some (nI (gTr h)) := by
  rw [s_trainsOf v hv sz tr (h 1) (fun t ht p => ⟨(M.2.1 t ht ((r_0 M N ht).mp p)).1, by have := N.2.1 t ht ((r_0 M N ht).mp p); omega⟩)]
  unfold gTr
  rw [bmx_cong (q := fun t => decide (0 < h 0 t)) (fun t ht => by rw [decide_eq_decide]; exact r_0 M N ht) (fun _ _ _ => rfl)]
theorem r_in (M : rM v h sz tr ca pl ag mk lk rt st sT) (N : iN h) {t w : Nat} (ht : t < 40) (hw : w < 1000) : (0 < sz (40 * v + t) ∧ tr (40 * v + t) = nI w) ↔ (0 < h 0 t ∧ h 1 t = w) := by
  rw [r_0 M N ht]
  by_cases h0 : 0 < h 0 t
  · have := N.2.1 t ht h0
    rw [(M.2.1 t ht h0).1, nI_eq (by omega) (by omega)]
  · exact ⟨fun q => absurd q.1 h0, fun q => absurd q.1 h0⟩
theorem r_in2 (M : rM v h sz tr ca pl ag mk lk rt st sT) (N : iN h) {t w c : Nat} (ht : t < 40) (hw : w < 1000) (hc : c < 1000) : (0 < sz (40 * v + t) ∧ tr (40 * v + t) = nI w ∧ ca (40 * v + t) = nI c) ↔ (0 < h 0 t ∧ h 1 t = w ∧ h 2 t = c) := by
  rw [r_0 M N ht]
  by_cases h0 : 0 < h 0 t
  · have := N.2.1 t ht h0
    rw [(M.2.1 t ht h0).1, (M.2.1 t ht h0).2.1, nI_eq (by omega) (by omega), nI_eq (by omega) (by omega)]
  · exact ⟨fun q => absurd q.1 h0, fun q => absurd q.1 h0⟩
theorem r_cars (hv : v < 22) (M : rM v h sz tr ca pl ag mk lk rt st sT) (N : iN h) {w : Nat} (hw : w < 1000) : mX12_carsOf (nI v) (nI w) sz tr ca = some (nI (gCa h w)) := by
  rw [s_carsOf v hv sz tr ca (nI w) (h 2) (fun t ht p q => by
    have k := (r_in M N ht hw).mp ⟨p, q⟩
    exact ⟨(M.2.1 t ht k.1).2.1, by have := N.2.1 t ht k.1; omega⟩)]
  unfold gCa
  rw [bmx_cong (q := fun t => decide (0 < h 0 t ∧ h 1 t = w)) (fun t ht => by rw [decide_eq_decide]; exact r_in M N ht hw) (fun _ _ _ => rfl)]
def gIn (h : GH) (w c : Nat) : Nat := fb_ct (fun t => decide (0 < h 0 t ∧ h 1 t = w ∧ h 2 t = c)) 40
theorem r_things (hv : v < 22) (M : rM v h sz tr ca pl ag mk lk rt st sT) (N : iN h) {w c : Nat} (hw : w < 1000) (hc : c < 1000) : mX12_thingsIn (nI v) (nI w) (nI c) sz tr ca = some (nI (gIn h w c)) := by
  rw [s_thingsIn v hv sz tr ca (nI w) (nI c)]
  unfold gIn
  rw [fb_ct_cong (q := fun t => decide (0 < h 0 t ∧ h 1 t = w ∧ h 2 t = c)) (fun t ht => by rw [decide_eq_decide]; exact r_in2 M N ht hw hc)]
theorem r_e20 (hv : v < 22) (hb : b < 2) (hF : rF b sf sb cs cv P) (hU : ut b = nI P.2.2) (hU2 : P.2.2 < 1000) (fe : Int32) (np im : Nat → Int32) :
    ∀ (m f n : Nat) (X : GM) (tr ca pl mk : Nat → Int32) (sk : Nat → Int64) (ask st sT : Nat → Int32), fb_ct (gWt X.1) 40 ≤ m → m < f → m ≤ n → mI X.1 X.2.1 X.2.2.1 → rM v X.1 sz tr ca pl ag mk lk rt st sT → so v = nI (X.1 8 0) → X.1 8 0 ≤ 1000 →
      ∃ tr' ca' pl' mk' sk' ask' st' sT' rn', (mI (gLp P n X).1 (gLp P n X).2.1 (gLp P n X).2.2.1 ∧ (gPk (gLp P n X).1).2 = 0 ∧ (gLp P n X).1 8 0 = X.1 8 0) ∧ (rM v (gLp P n X).1 sz tr' ca' pl' ag mk' lk rt st' sT' ∧ lF v tr tr' ∧ lF v ca ca' ∧ lF v pl pl' ∧ lF v mk mk') ∧
        mX12_empties_20 (nI v) (nI b) fe ut sf sb cs cv so sz ag lk rt np im f (nI (X.2.1 - 1)) (bno X.2.2.1) (if X.2.2.2.1 = true then 1 else 0) (bno (gPk X.1).2) (nI (gPk X.1).1) (nI X.2.2.2.2.1) (nI X.2.2.2.2.2) tr ca pl mk sk ask st sT =
          mX12_empties_183 (nI v) fe sz ag lk np 40 0 (bno (gLp P n X).2.2.1) (if (gLp P n X).2.2.2.1 = true then 1 else 0) rn' (nI (gLp P n X).2.2.2.2.1) (nI (gLp P n X).2.2.2.2.2) tr' ca' pl' mk' sk' ask' im st' sT' := by
  intro m
  induction m with
  | zero =>
    intro f n X tr ca pl mk sk ask st sT hm hf hn I M hs hs2
    obtain ⟨f, rfl⟩ : ∃ q, f = q + 1 := ⟨f - 1, by omega⟩
    have e : (gPk X.1).2 = 0 := by
      by_cases e : (gPk X.1).2 = 0
      · exact e
      · obtain ⟨-, -, -, -, -, q⟩ := mI_mv (P := P) I (r := (gPk X.1).1) (t := (gPk X.1).2 - 1) (Prod.ext rfl (by show (gPk X.1).2 = _; omega))
        omega
    rw [gLp_stop P e n]
    refine ⟨tr, ca, pl, mk, sk, ask, st, sT, nI (gPk X.1).1, ⟨I, e, rfl⟩, ⟨M, lF_rf v _, lF_rf v _, lF_rf v _, lF_rf v _⟩, ?_⟩
    rw [mX12_empties_20, e, if_pos (show bno 0 = -1 from rfl)]
  | succ m ih =>
    intro f n X tr ca pl mk sk ask st sT hm hf hn I M hs hs2
    obtain ⟨f, rfl⟩ : ∃ q, f = q + 1 := ⟨f - 1, by omega⟩
    by_cases e : (gPk X.1).2 = 0
    · rw [gLp_stop P e n]
      refine ⟨tr, ca, pl, mk, sk, ask, st, sT, nI (gPk X.1).1, ⟨I, e, rfl⟩, ⟨M, lF_rf v _, lF_rf v _, lF_rf v _, lF_rf v _⟩, ?_⟩
      rw [mX12_empties_20, e, if_pos (show bno 0 = -1 from rfl)]
    · obtain ⟨n, rfl⟩ : ∃ q, n = q + 1 := ⟨n - 1, by omega⟩
      obtain ⟨r, t, hrt⟩ : ∃ r t, gPk X.1 = (r, t + 1) := ⟨(gPk X.1).1, (gPk X.1).2 - 1, Prod.ext rfl (by show (gPk X.1).2 = _; omega)⟩
      obtain ⟨ht, hw, hby, hr, I', hc⟩ := mI_mv (P := P) I hrt
      have N := mI_N I
      have N' := mI_N I'
      have hT := I.2.1.1
      have hs3 := I.2.2.2.2.2.2.1.1
      have hcb := gCb_lt N t
      have hto : gTo X r t < 900 := by
        unfold gTo
        split
        · split <;> omega
        · split <;> omega
      have eL : gLp P (n + 1) X = gLp P n (gMv P X r t) := by
        rw [gLp, if_neg e, hrt]; rfl
      rw [eL]
      have go : ∀ x2 : Int32, x2 = nI (gTT X r - 1) → ∃ tr' ca' pl' mk' sk' ask' st' sT' rn', (mI (gLp P n (gMv P X r t)).1 (gLp P n (gMv P X r t)).2.1 (gLp P n (gMv P X r t)).2.2.1 ∧ (gPk (gLp P n (gMv P X r t)).1).2 = 0 ∧ (gLp P n (gMv P X r t)).1 8 0 = X.1 8 0) ∧ (rM v (gLp P n (gMv P X r t)).1 sz tr' ca' pl' ag mk' lk rt st' sT' ∧ lF v tr tr' ∧ lF v ca ca' ∧ lF v pl pl' ∧ lF v mk mk') ∧
          mX12_empties_66 (nI v) (nI b) ut sf sb cs cv so sz ag lk rt ask ca st mk pl sk sT tr (nI X.2.2.2.2.2) (nI r) (nI X.2.2.2.2.1) (bno X.2.2.1) (if X.2.2.2.1 = true then 1 else 0) (nI t) (fun zx2_20 zx3_20 zx4_20 zx5_20 zf_ruleNow_20 zf_went_20 zf_cost_20 za_trainOf_20 za_carOf_20 za_placeOf_20 za_markOf_20 za_stack_20 za_asked_20 za_isStaying_20 za_stayTrain_20 => mX12_empties_20 (nI v) (nI b) fe ut sf sb cs cv so sz ag lk rt np im f zx2_20 zx3_20 zx4_20 zx5_20 zf_ruleNow_20 zf_went_20 zf_cost_20 za_trainOf_20 za_carOf_20 za_placeOf_20 za_markOf_20 za_stack_20 za_asked_20 za_isStaying_20 za_stayTrain_20) x2 (nI (gTo X r t)) =
          mX12_empties_183 (nI v) fe sz ag lk np 40 0 (bno (gLp P n (gMv P X r t)).2.2.1) (if (gLp P n (gMv P X r t)).2.2.2.1 = true then 1 else 0) rn' (nI (gLp P n (gMv P X r t)).2.2.2.2.1) (nI (gLp P n (gMv P X r t)).2.2.2.2.2) tr' ca' pl' mk' sk' ask' im st' sT' := by
        intro x2 hx2
        obtain ⟨tr1, ca1, pl1, sk1, ask1, st1, sT1, ⟨M1, f1, f2, f3⟩, q⟩ := r_e66 (so := so) hv hb hF hU hU2 M N hs hs2 ht hw (by omega) hto (by omega) N' x2 sk ask (fun zx2_20 zx3_20 zx4_20 zx5_20 zf_ruleNow_20 zf_went_20 zf_cost_20 za_trainOf_20 za_carOf_20 za_placeOf_20 za_markOf_20 za_stack_20 za_asked_20 za_isStaying_20 za_stayTrain_20 => mX12_empties_20 (nI v) (nI b) fe ut sf sb cs cv so sz ag lk rt np im f zx2_20 zx3_20 zx4_20 zx5_20 zf_ruleNow_20 zf_went_20 zf_cost_20 za_trainOf_20 za_carOf_20 za_placeOf_20 za_markOf_20 za_stack_20 za_asked_20 za_isStaying_20 za_stayTrain_20)
        obtain ⟨tr', ca', pl', mk', sk', ask', st', sT', rn', ⟨k1, k2, k3⟩, ⟨k4, k5, k6, k7, k8⟩, k9⟩ := ih f n (gMv P X r t) tr1 ca1 pl1 (upd mk (40 * v + t) 0) sk1 ask1 st1 sT1 (by omega) (by omega) (by omega) I' M1 (by rw [gMv_8]; exact hs) (by rw [gMv_8]; exact hs2)
        refine ⟨tr', ca', pl', mk', sk', ask', st', sT', rn', ⟨k1, k2, by rw [k3, gMv_8]⟩, ⟨k4, lF_tr f1 k5, lF_tr f2 k6, lF_tr f3 k7, lF_tr (lF_up mk ht 0) k8⟩, ?_⟩
        rw [q, hx2]
        have eT : (gMv P X r t).2.1 = gTT X r := by
          by_cases z : P.1 (X.1 8 0) (X.1 0 t) (gRf X.1 t) (X.1 4 t) = true
          · rw [gMv_stay z]
          · rw [gMv_lay z]
        rw [eT] at k9
        exact k9
      rw [mX12_empties_20, hrt, bnoS, if_neg (nI_m1 (by omega))]
      by_cases h3 : r < 3
      · rw [if_pos (show nI r < 3 from nI_lt (b := 3) h3 (by decide))]
        have eTo : gTo X r t = if X.2.1 = 1 then 1 else X.2.1 - 1 := by unfold gTo; rw [if_pos h3]
        have eTT : gTT X r = if X.2.1 = 1 then 2 else X.2.1 := by
          unfold gTT
          by_cases z : X.2.1 = 1
          · rw [if_pos ⟨h3, z⟩, if_pos z]
          · rw [if_neg (fun q => z q.2), if_neg z]
        unfold mX12_empties_43
        by_cases z : X.2.1 = 1
        · rw [if_pos z] at eTo eTT
          rw [if_pos ((nI0 (by omega)).mpr (by omega))]
          rw [eTo, eTT] at go
          exact go 1 rfl
        · rw [if_neg z] at eTo eTT
          rw [if_neg (fun q => z (by have := (nI0 (n := X.2.1 - 1) (by omega)).mp q; omega))]
          rw [eTo, eTT] at go
          exact go _ rfl
      · rw [if_neg (show ¬ nI r < 3 from nI_nlt (b := 3) (by omega) (by omega))]
        have eTT : gTT X r = X.2.1 := by unfold gTT; rw [if_neg (fun q => h3 q.1)]
        rw [eTT] at go
        by_cases z : r = 3
        · have eTo : gTo X r t = gCb X.1 t := by unfold gTo; rw [if_neg h3, if_pos z]
          rw [if_pos (show nI r = 3 from z ▸ rfl), r_call hv M N ht, obind]
          have hne : gCb X.1 t ≠ 0 := by
            unfold gBy at hby
            rw [if_neg (by omega), if_neg (by omega), if_pos z] at hby
            exact of_decide_eq_true hby
          rw [eTo] at go
          unfold bnz
          rw [if_neg hne]
          exact go _ rfl
        · have eTo : gTo X r t = 0 := by unfold gTo; rw [if_neg h3, if_neg z]
          rw [if_neg (show ¬ nI r = 3 from fun q => z ((nI_eq (b := 3) (by omega) (by decide)).mp q))]
          rw [eTo] at go
          exact go _ rfl
end SL
