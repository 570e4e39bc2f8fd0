section LK
variable {g h : GH} {sz ag tr ca pl lk rt cs code cf cl : Nat → Int32} {fr : Nat → Int64} {th mk : Int64} {tn sp un : Int32} {P : GP}
theorem bnz_nI {n : Nat} (h : n ≠ 0) : bnz n = nI n := by unfold bnz; rw [if_neg h]
theorem gR_le (g : GH) : gR g ≤ 60 ∧ (g 8 0 ≤ 999 → g 8 0 + gR g ≤ 999) := by
  unfold gR
  split <;> omega
theorem c_look92 (hF : cF code cf cl P) (hU : un = nI P.2.2) (hU2 : P.2.2 < 1000) (W : gW g) (h8 : g 8 0 ≤ 999) {nth x6 : Int64} (hn : zh nth (gTh g)) (hx : zh x6 (gRb g)) (ch : Int32) : ∀ k j (cn fa sz ag tr ca pl lk cs : Nat → Int32) (fr : Nat → Int64) (th mk : Int64) (tn sp : Int32) (a1 a2 a3 : Int32) (a4 : Bool) (a5 a6 : Int64) (a7 a8 a9 a10 a11 : Int32) (a12 : Bool) (top : Int32) (fc sk wa : Nat → Int32) (ab : Nat → Int64), j + k = 60 → j ≤ gR g → cY (gA P g j) sz ag tr ca pl lk rt cs fr th mk tn sp → oT P g j cn fa →
    ∃ cn' fa' s, mX4_look_92 ch nth un code cf cl k (j + 1) x6 (nI (gSC P g j)) (nI (gSF P g j)) (gCl0 P g j) (nI j) cn fa a1 a2 a3 a4 a5 a6 a7 a8 a9 a10 a11 a12 th mk tn sp sz ag tr ca pl lk rt cs fr top fc sk wa ab = (gCl0 P g (gR g), nI (gR g), ch, cn', fa', s) ∧ oT P g (gR g) cn' fa' := by
  have hR := gR_le g
  intro k
  induction k with
  | zero =>
    intro j cn fa sz ag tr ca pl lk cs fr th mk tn sp a1 a2 a3 a4 a5 a6 a7 a8 a9 a10 a11 a12 top fc sk wa ab hj hjR Y O
    have : j = gR g := by omega
    rw [mX4_look_92, ← this]
    exact ⟨cn, fa, _, rfl, O⟩
  | succ k ih =>
    intro j cn fa sz ag tr ca pl lk cs fr th mk tn sp a1 a2 a3 a4 a5 a6 a7 a8 a9 a10 a11 a12 top fc sk wa ab hj hjR Y O
    obtain ⟨Wj, e8⟩ := gA_W P W j
    have esp : sp = nI (g 8 0 + j) := by rw [Y.2.2.2.2.2.2.2.2, e8]
    rw [mX4_look_92]
    by_cases l : g 8 0 + j < 999
    · rw [if_pos (show sp < 999 by rw [esp]; exact nI_lt (b := 999) l (by decide))]
      obtain ⟨W1, b1, b2, b3, b4, b5, b6, b7, b8, b9, b10, b11, b12, ab1, th1, mk1, tn1, sz1, ag1, tr1, ca1, pl1, lk1, cs1, fr1, e, Y1⟩ := c_step hF hU hU2 Wj Y (by rw [e8]; exact l) a5 a6 a7 a8 a9 a10 a11 top a12 fc sk wa ab
      rw [e, xlet_eq]
      simp only [xu_r]
      have hjR1 : j + 1 ≤ gR g := by
        unfold gR
        split <;> omega
      have eC : gSC P g (j + 1) = gSC P g j + (gTick P (gA P g j)).2.2.2.1 := rfl
      have eF : gSF P g (j + 1) = gSF P g j + if (gTick P (gA P g j)).2.2.2.2 = true then 1 else 0 := rfl
      have go : ∀ s0 : Int32, nI (gSF P g j) + s0 = nI (gSF P g (j + 1)) → ∀ (c1 c2 c3 : Int32) (c4 : Bool), ∃ cn' fa' s, mX4_look_140 nth cn fa (gCl0 P g j) (j + 1) rt x6 (nI (gSF P g j)) (fun zx6_92 zx8_92 zx9_92 zf_cleanAt_92 zf_reach_92 za_counts_92 za_fallAt_92 zmover_f_fell_92 zmover_f_moved_92 zmover_f_cost_92 zmover_f_futile_92 zmover_f_rooted_92 zmover_f_left_92 zmover_f_waits_92 zmover_f_chosen_92 zmover_f_rule_92 zmover_f_stays_92 zmover_f_stayTrain_92 zmover_f_onlyByCar_92 zmover_ahead_f_there_92 zmover_ahead_f_marked_92 zmover_ahead_f_trains_92 zmover_ahead_f_step_92 zmover_ahead_a_size_92 zmover_ahead_a_age_92 zmover_ahead_a_train_92 zmover_ahead_a_car_92 zmover_ahead_a_place_92 zmover_ahead_a_links_92 zmover_ahead_a_roots_92 zmover_ahead_a_cars_92 zmover_ahead_a_from_92 zmover_worth_f_top_92 zmover_worth_a_facts_92 zmover_worth_a_stack_92 zmover_a_waiting_92 zmover_a_aboard_92 => mX4_look_92 ch nth un code cf cl k (j + 1 + 1) zx6_92 zx8_92 zx9_92 zf_cleanAt_92 zf_reach_92 za_counts_92 za_fallAt_92 zmover_f_fell_92 zmover_f_moved_92 zmover_f_cost_92 zmover_f_futile_92 zmover_f_rooted_92 zmover_f_left_92 zmover_f_waits_92 zmover_f_chosen_92 zmover_f_rule_92 zmover_f_stays_92 zmover_f_stayTrain_92 zmover_f_onlyByCar_92 zmover_ahead_f_there_92 zmover_ahead_f_marked_92 zmover_ahead_f_trains_92 zmover_ahead_f_step_92 zmover_ahead_a_size_92 zmover_ahead_a_age_92 zmover_ahead_a_train_92 zmover_ahead_a_car_92 zmover_ahead_a_place_92 zmover_ahead_a_links_92 zmover_ahead_a_roots_92 zmover_ahead_a_cars_92 zmover_ahead_a_from_92 zmover_worth_f_top_92 zmover_worth_a_facts_92 zmover_worth_a_stack_92 zmover_a_waiting_92 zmover_a_aboard_92) (nI (gSC P g j) + nI (gTick P (gA P g j)).2.2.2.1) s0 c1 c2 c3 c4 b1 b2 b3 b4 b5 b6 b7 b8 th1 mk1 tn1 (nI ((gTick P (gA P g j)).1 8 0)) sz1 ag1 tr1 ca1 pl1 lk1 cs1 fr1 b9 b10 b11 b12 ab1 = (gCl0 P g (gR g), nI (gR g), ch, cn', fa', s) ∧ oT P g (gR g) cn' fa' := by
        intro s0 hs0 c1 c2 c3 c4
        unfold mX4_look_140
        have Y1' : cY (gA P g (j + 1)) sz1 ag1 tr1 ca1 pl1 lk1 rt cs1 fr1 th1 mk1 tn1 (nI ((gTick P (gA P g j)).1 8 0)) := Y1
        rw [nI_add, ← eC, hs0]
        obtain ⟨cn1, q1, q2, q3⟩ := c_count W1 Y1' (n := j + 1) (by omega) (nI (gSC P g (j + 1))) (nI (gSF P g (j + 1))) cn
        rw [q1, xlet_eq]
        have hth1 : zh th1 (gTh (gA P g (j + 1))) := Y1'.2.2.2.2.2.1
        obtain ⟨fa1, r1, r2⟩ := c_note (zh_andn hn hth1) (nI (j + 1)) 40 0 fa fa rfl (fun t ht => by rw [if_neg (fun q => absurd q.1 (Nat.not_lt_zero t))])
        have r2 : mX4_noteFallen (nth &&& (th1 ^^^ (-1))) (nI (j + 1)) fa = fa1 := r2
        rw [r2, xlet_eq]
        have O1 : oT P g (j + 1) cn1 fa1 := by
          refine ⟨fun m hm => ?_, fun t ht p => ?_⟩
          · by_cases z : m = j + 1
            · subst z; exact q2
            · rw [q3 _ (by omega), q3 _ (by omega), q3 _ (by omega), q3 _ (by omega), q3 _ (by omega)]
              exact O.1 m (by omega)
          · rw [r1 t ht, O.2 t ht p]
            have l := ffs_le (fun k => !gTh (gA P g k) t) j
            have ew : gFl P g t (j + 1) = if gFl P g t j = 0 ∧ (!gTh (gA P g (j + 1)) t) = true then j + 1 else gFl P g t j := rfl
            have tg : gTh g t = true := decide_eq_true p
            rw [ew]
            have l2 : gFl P g t j ≤ j := l
            by_cases z : gFl P g t j = 0 ∧ (!gTh (gA P g (j + 1)) t) = true
            · rw [if_pos z, if_pos ⟨by rw [tg, z.2]; rfl, (bnz_m1 (by omega)).mpr z.1⟩, bnz_nI (by omega)]
            · rw [if_neg z, if_neg (fun q => z ⟨(bnz_m1 (by omega)).mp q.2, ((Bool.and_eq_true _ _).mp q.1).2⟩)]
        have eK : (x6 &&& th1 = 0) ↔ gCn P g (j + 1) = true := by
          have := and0 hx hth1
          unfold gCn
          rw [Bool.not_eq_true', Bool.eq_false_iff, Ne, bexI]
          constructor
          · rintro z ⟨t, ht, q⟩
            have q := (Bool.and_eq_true _ _).mp q
            exact (this.mpr ⟨t, ht, q.1, q.2⟩) z
          · intro z
            refine Decidable.byContradiction (fun q => ?_)
            obtain ⟨t, ht, a, c⟩ := this.mp q
            exact z ⟨t, ht, (Bool.and_eq_true _ _).mpr ⟨a, c⟩⟩
        have ix := ih (j + 1) cn1 fa1 sz1 ag1 tr1 ca1 pl1 lk1 cs1 fr1 th1 mk1 tn1 (nI ((gTick P (gA P g j)).1 8 0)) c1 c2 c3 c4 b1 b2 b3 b4 b5 b6 b7 b8 b9 b10 b11 b12 ab1 (by omega) hjR1 Y1' O1
        have lf := ffs_le (gCn P g) j
        have efs : ffs (gCn P g) (j + 1) = if ffs (gCn P g) j = 0 ∧ gCn P g (j + 1) = true then j + 1 else ffs (gCn P g) j := rfl
        by_cases c0 : gCn P g 0 = true
        · have e0 : gCl0 P g j = 0 := by unfold gCl0; rw [if_pos c0]
          have e1 : gCl0 P g (j + 1) = 0 := by unfold gCl0; rw [if_pos c0]
          rw [e1] at ix
          rw [e0, if_neg (show ¬ (0 : Int32) = -1 by decide)]
          exact ix
        · have e0 : gCl0 P g j = bnz (ffs (gCn P g) j) := by unfold gCl0; rw [if_neg c0]
          have e1 : gCl0 P g (j + 1) = bnz (ffs (gCn P g) (j + 1)) := by unfold gCl0; rw [if_neg c0]
          rw [e1, efs] at ix
          rw [e0]
          by_cases z : ffs (gCn P g) j = 0
          · rw [if_pos ((bnz_m1 (by omega)).mpr z)]
            by_cases y : gCn P g (j + 1) = true
            · rw [if_pos (eK.mpr y)]
              rw [if_pos ⟨z, y⟩, bnz_nI (by omega)] at ix
              exact ix
            · rw [if_neg (fun q => y (eK.mp q))]
              rw [if_neg (fun q => y q.2)] at ix
              exact ix
          · rw [if_neg (fun q => z ((bnz_m1 (by omega)).mp q))]
            rw [if_neg (fun q => z q.1)] at ix
            exact ix
      by_cases fu : (gTick P (gA P g j)).2.2.2.2 = true
      · rw [if_pos fu]
        exact go 1 (by rw [eF, if_pos fu, nI_1]) _ _ _ _
      · rw [if_neg fu]
        exact go 0 (by rw [eF, if_neg fu, Int32.add_zero, Nat.add_zero]) _ _ _ _
    · rw [if_neg (show ¬ sp < 999 by rw [esp]; exact nI_nlt (b := 999) (by omega) (by omega))]
      have : gR g = j := by omega
      rw [this]
      exact ⟨cn, fa, _, rfl, O⟩
/-- the class looks AHEAD -/
theorem c_look (hF : cF code cf cl P) (hU : un = nI P.2.2) (hU2 : P.2.2 < 1000) (W : gW g) (h8 : g 8 0 ≤ 999) (Y : cY g sz ag tr ca pl lk rt cs fr th mk tn sp) {ch kn clA re : Int32} {cn fa : Nat → Int32} (hk : kn = ch → clA = gCl0 P g (gR g) ∧ re = nI (gR g) ∧ oT P g (gR g) cn fa)
    (a1 a2 a3 : Int32) (a4 : Bool) (a5 a6 : Int64) (a7 a8 a9 a10 a11 : Int32) (a12 : Bool) (m1 m2 : Int64) (m3 m4 : Int32) (n1 n2 n3 n4 n5 n6 n7 n8 : Nat → Int32) (n9 : Nat → Int64) (top : Int32) (fc sk wa : Nat → Int32) (ab : Nat → Int64) :
    ∃ cn' fa' s, mX4_look ch clA re kn cn fa th mk tn sp sz ag tr ca pl lk rt cs fr un code cf cl a1 a2 a3 a4 a5 a6 a7 a8 a9 a10 a11 a12 m1 m2 m3 m4 n1 n2 n3 n4 n5 n6 n7 n8 n9 top fc sk wa ab = (gCl0 P g (gR g), nI (gR g), ch, cn', fa', s) ∧ oT P g (gR g) cn' fa' := by
  unfold mX4_look
  by_cases e : kn = ch
  · obtain ⟨k1, k2, k3⟩ := hk e
    rw [if_pos e, e, k1, k2]
    exact ⟨cn, fa, _, rfl, k3⟩
  · rw [if_neg e]
    obtain ⟨sz', ag', tr', ca', pl', lk', rt', cs', fr', q, Y'⟩ := cY_copy W Y n1 n2 n3 n4 n5 n6 n7 n8 n9
    rw [q, xlet_eq]
    simp only [xu_r]
    have hL : zh (mX10_live th lk' rt') (gL g) := z_live W.2.2.2.2.2.1 Y'.2.2.2.2.2.1 lk' rt' Y'.2.2.1.1 Y'.2.2.1.2
    have hR : zh (th &&& (mX10_live th lk' rt' ^^^ (-1))) (gRb g) := zh_cong (zh_andn Y'.2.2.2.2.2.1 hL) (fun t _ => rfl)
    have e0 : (th &&& (mX10_live th lk' rt' ^^^ (-1)) = 0) ↔ gCn P g 0 = true := by
      have := zh_eq0 hR
      rw [this]
      unfold gCn
      rw [Bool.not_eq_true', Bool.eq_false_iff, Ne, bexI]
      constructor
      · rintro z ⟨t, ht, w⟩
        have w := ((Bool.and_eq_true _ _).mp w).1
        rw [z t ht] at w; exact absurd w (by decide)
      · intro z t ht
        refine Bool.eq_false_iff.mpr (fun w => z ⟨t, ht, (Bool.and_eq_true _ _).mpr ⟨w, ((Bool.and_eq_true _ _).mp w).1⟩⟩)
    have go : ∀ x : Int32, x = gCl0 P g 0 → ∃ cn' fa' s, mX4_look_69 ch cn fa th un code cf cl a1 a2 a3 a4 a5 a6 a7 a8 a9 a10 a11 a12 top fc sk wa ab (th &&& (mX10_live th lk' rt' ^^^ (-1))) x th mk tn sp sz' ag' tr' ca' pl' lk' rt' cs' fr' = (gCl0 P g (gR g), nI (gR g), ch, cn', fa', s) ∧ oT P g (gR g) cn' fa' := by
      intro x hx
      unfold mX4_look_69
      obtain ⟨cn1, q1, q2, q3⟩ := c_count W Y' (n := 0) (by omega) 0 0 cn
      have q1 : mX4_count (0 : Int32) 0 0 cn th tn cs' = cn1 := q1
      rw [xlet_eq, q1, xlet_eq, hx]
      have O0 : oT P g 0 cn1 (mJ7_fill_53178 40 (-1) fa) := by
        refine ⟨fun m hm => ?_, fun t ht p => ?_⟩
        · have : m = 0 := by omega
          subst this
          exact ⟨q2.1, q2.2.1, q2.2.2.1, q2.2.2.2.1, q2.2.2.2.2⟩
        · rw [s_fill 40 (by decide) (-1) fa t ht]; rfl
      exact c_look92 hF hU hU2 W h8 Y'.2.2.2.2.2.1 hR ch 60 0 cn1 (mJ7_fill_53178 40 (-1) fa) sz' ag' tr' ca' pl' lk' cs' fr' th mk tn sp a1 a2 a3 a4 a5 a6 a7 a8 a9 a10 a11 a12 top fc sk wa ab rfl (Nat.zero_le _) Y' O0
    by_cases z : th &&& (mX10_live th lk' rt' ^^^ (-1)) = 0
    · rw [if_pos z]
      exact go 0 (by unfold gCl0; rw [if_pos (e0.mp z)])
    · rw [if_neg z]
      exact go (-1) (by unfold gCl0; rw [if_neg (fun w => z (e0.mpr w))]; rfl)
end LK
