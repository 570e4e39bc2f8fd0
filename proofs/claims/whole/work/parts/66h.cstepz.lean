section CZ
variable {h g : GH} {T n s : Nat} {f : Nat → Nat} {sz ag tr ca pl lk rt cs wa code cf cl : Nat → Int32} {fr ab : Nat → Int64} {th mk ro le : Int64} {tn sp un : Int32} {P : GP}
theorem cY_mk {mk2 : Int64} (Y : cY h sz ag tr ca pl lk rt cs fr th mk tn sp) (hm : zh mk2 (fun t => decide (gMk h 5 t = 1))) : cY (gMk h) sz ag tr ca pl lk rt cs fr th mk2 tn sp := by
  obtain ⟨y1, y2, ⟨y3, y4⟩, y5, y6, y7, y8, y9, y10⟩ := Y
  have o : ∀ {a : Nat}, a ≠ 5 → ∀ t, gMk h a t = h a t := fun e t => gMk_o h e t
  have eT : gTr (gMk h) = gTr h := gTr_cong (fun t _ => o (by decide) t) (fun t _ _ => o (by decide) t)
  have eC : ∀ w, gCa (gMk h) w = gCa h w := gCa_cong (fun t _ => o (by decide) t) (fun t _ _ => o (by decide) t) (fun t _ _ => o (by decide) t)
  refine ⟨fun t ht => by rw [o (by decide)]; exact y1 t ht, fun t ht p => ?_, ⟨fun j hj => by rw [o (by decide)]; exact y3 j hj, fun k hk => by rw [o (by decide)]; exact y4 k hk⟩, fun w hw => by rw [eC]; exact y5 w (by rw [← eT]; exact hw), fun t ht => zh_cong (y6 t ht) (fun u _ => (gLk_cong (o (by decide)) u t).symm), zh_cong y7 (fun t _ => by unfold gTh; rw [o (by decide)]), hm, by rw [eT]; exact y9, by rw [o (by decide)]; exact y10⟩
  rw [o (by decide)] at p
  rw [o (a := 1) (by decide), o (a := 2) (by decide), o (a := 3) (by decide), o (a := 4) (by decide)]
  exact y2 t ht p
/-- from the shape ahead of the end to the yard -/
theorem cY_sh {G : GH} {sz2 tr2 ca2 pl2 lk2 cs2 : Nat → Int32} {fr2 : Nat → Int64} {th2 mk2 : Int64} (h1 : ∀ t, t < 40 → sz2 t = nI (G 0 t)) (h2 : ∀ t, t < 40 → 0 < G 0 t → tr2 t = nI (gSh G 1 t) ∧ ca2 t = nI (gSh G 2 t)) (h3 : ∀ t, t < 40 → 0 < G 0 t → ag t = nI (G 4 t) ∧ pl2 t = nI (G 3 t)) (h6 : ∀ j, j < 160 → lk2 j = bno (G 6 j)) (h7 : ∀ k, k < 8 → rt k = bno (G 7 k)) (hc : ∀ w, w < gTr (gSh G) → cs2 w = nI (gCa (gSh G) w)) (hf : ∀ t, t < 40 → zh (fr2 t) (fun u => gLk G u t)) (ht2 : zh th2 (gTh G)) (hm2 : zh mk2 (fun t => decide (G 5 t = 1))) (hs : sp = nI (G 8 0)) :
    cY (gSh G) sz2 ag tr2 ca2 pl2 lk2 rt cs2 fr2 th2 mk2 (nI (gTr (gSh G))) sp := by
  have o : ∀ {a : Nat}, (a ≠ 1 ∧ a ≠ 2) → ∀ t, gSh G a t = G a t := fun e t => gSh_o G e t
  refine ⟨fun t ht => by rw [o (by decide)]; exact h1 t ht, fun t ht p => ?_, ⟨fun j hj => by rw [o (by decide)]; exact h6 j hj, fun k hk => by rw [o (by decide)]; exact h7 k hk⟩, hc, fun t ht => zh_cong (hf t ht) (fun u _ => (gLk_cong (o (by decide)) u t).symm), zh_cong ht2 (fun t _ => by unfold gTh; rw [o (by decide)]), zh_cong hm2 (fun t _ => by rw [o (by decide)]), rfl, by rw [o (by decide)]; exact hs⟩
  rw [o (by decide)] at p
  rw [o (a := 3) (by decide), o (a := 4) (by decide)]
  exact ⟨(h3 t ht p).1, (h2 t ht p).1, (h2 t ht p).2, (h3 t ht p).2⟩
theorem c_end (I : mI h T s) (hp : (gPk h).2 = 0) (M : cM h T sz ag tr ca pl lk rt cs fr mk tn sp ab ro le) (hW : cW h n f wa) (hth : zh th (gTh h)) {sy syT : Int32} {on : Bool} {q : Nat} (hq : sy = nI q) (hq2 : q ≤ 40) (hq3 : q = 0 ↔ s = 0) (hsy : s ≠ 0 → syT = nI (s - 1)) :
    ∃ th' mk' tn' sz' tr' ca' pl' lk' cs' fr', mX3_endFirstCar 0 false ro le (nI n) sy syT on wa th mk tn sz tr ca pl lk cs fr = (nI (fb_ct (gWt h) 40), decide (fb_ct (gWt h) 40 = 0) && on, th', mk', tn', sz', tr', ca', pl', lk', cs', fr') ∧
      cY (if (decide (fb_ct (gWt h) 40 = 0) && on) = true then gMk (gSh (gFn h s)) else gSh (gFn h s)) sz' ag tr' ca' pl' lk' rt cs' fr' th' mk' tn' sp := by
  obtain ⟨m1, m2, ⟨m3, m3'⟩, m4, m5, m6, m7, m8, m9, m10, m11⟩ := M
  have S := gSp_fn I hp
  have WS := gW_sh S
  have hT := I.2.1.1
  have hsT := I.2.2.2.2.2.2.1.1
  obtain ⟨g6, g7, g0, g4, g5⟩ := gFn_67 h s
  unfold mX3_endFirstCar
  obtain ⟨th1, mk1, sz1, lk1, fr1, ⟨d1, d2, d3, d4, d5⟩, e1⟩ := c_fall m11 m1 m3 m5 hth m6
  rw [e1, xlet_eq, xu_r, xu_r, xu_r, xu_r, xu_r]
  -- those that stayed
  have C : ∃ tr2 ca2 pl2 cs2, mX3_couple (nI n) sy syT wa tr ca pl cs = (tr2, ca2, pl2, cs2) ∧ (∀ t, t < 40 → 0 < gFn h s 0 t → tr2 t = nI (gFn h s 1 t)) ∧ (∀ t, t < 40 → 0 < gFn h s 0 t → ca2 t = nI (gFn h s 2 t)) ∧ (∀ t, t < 40 → 0 < gFn h s 0 t → pl2 t = nI (gFn h s 3 t)) ∧ ∀ w, w < T → cs2 w = nI (gCe (gFn h s) w) := by
    have pos : ∀ u, u < 40 → 0 < gFn h s 0 u → 0 < h 0 u := fun u hu p => by
      rw [g0, gDr_0 h _ (Or.inl rfl)] at p; split at p <;> omega
    unfold mX3_couple
    by_cases z : s = 0
    · have n9 : ∀ u, u < 40 → h 9 u ≠ 1 := fun u hu y => (I.2.2.2.2.2.2.1.2.2.1 u hu y).1 z
      rw [if_pos (show sy = 0 by rw [hq, hq3.mpr z]; rfl)]
      have v : ∀ u, u < 40 → 0 < gFn h s 0 u → gFn h s 1 u = h 1 u ∧ gFn h s 2 u = h 2 u ∧ gFn h s 3 u = h 3 u := fun u hu p => (gFn_Z I (((gFn_th I hu).mp p).resolve_right (n9 u hu))).2
      refine ⟨tr, ca, pl, cs, rfl, fun t ht p => ?_, fun t ht p => ?_, fun t ht p => ?_, fun w hw => ?_⟩
      · rw [(v t ht p).1]; exact (m2 t ht (pos t ht p)).2.1
      · have := (m2 t ht (pos t ht p)).2.2.1
        rw [if_neg (n9 t ht)] at this
        rw [(v t ht p).2.1]; exact this
      · rw [(v t ht p).2.2]; exact (m2 t ht (pos t ht p)).2.2.2
      · rw [gCe_fn I hw, if_neg (fun q => q.1 z)]; exact m4 w hw
    · have q0 : q ≠ 0 := fun y => z (hq3.mp y)
      rw [if_neg (show ¬ sy = 0 by rw [hq]; exact fun y => q0 ((nI0 (by omega)).mp y)), hsy z, s_at 42 (s - 1) (by omega) (by decide), s_put 42 (s - 1) (by omega) (by decide), xlet_eq]
      have hv : cs (s - 1) = nI (gCv h (s - 1)) := m4 (s - 1) (by omega)
      obtain ⟨tr2, ca2, pl2, k1, k2⟩ := c_couple39 (tr := tr) (ca := ca) (pl := pl) (cs := cs) I hW z (fun t ht p => (m2 t ht p).2.2.1) (m := gCv h (s - 1)) (by omega) hv (upd cs (s - 1) (cs (s - 1) + 1)) 40 0 tr ca pl rfl (fun t ht p => by rw [if_neg (by omega), if_neg (by omega), if_neg (by omega)]; exact ⟨rfl, rfl, rfl⟩)
      have c0 : fb_ct (fun u => decide (h 9 u = 1 ∧ h 3 u < 0)) 40 = 0 := fb_ct_zero.mpr (fun k _ => decide_eq_false (fun q => by omega))
      rw [c0] at k2
      have k2 : mX3_couple_39 (nI n) (nI (s - 1)) wa cs 40 0 (0 : Int32) tr ca pl (upd cs (s - 1) (cs (s - 1) + 1)) = _ := k2
      rw [k2]
      have key : ∀ t, t < 40 → 0 < gFn h s 0 t → tr2 t = nI (gFn h s 1 t) ∧ ca2 t = nI (gFn h s 2 t) ∧ pl2 t = nI (gFn h s 3 t) := by
        intro t ht p
        obtain ⟨x1, x2, x3⟩ := k1 t ht (pos t ht p)
        have mm := m2 t ht (pos t ht p)
        rw [x1, x2, x3]
        by_cases y : h 9 t = 1
        · obtain ⟨-, -, a, b, c⟩ := gFn_S I ht y
          rw [if_pos y, if_pos y, if_pos y, a, b, c, gPc_cv I z]
          exact ⟨rfl, rfl, rfl⟩
        · obtain ⟨-, a, b, c⟩ := gFn_Z I (((gFn_th I ht).mp p).resolve_right y)
          rw [if_neg y, if_neg y, if_neg y, a, b, c]
          have m' := mm.2.2.1
          rw [if_neg y] at m'
          exact ⟨mm.2.1, m', mm.2.2.2⟩
      refine ⟨tr2, ca2, pl2, _, rfl, fun t ht p => (key t ht p).1, fun t ht p => (key t ht p).2.1, fun t ht p => (key t ht p).2.2, fun w hw => ?_⟩
      rw [gCe_fn I hw]
      by_cases y : w = s - 1
      · rw [if_pos ⟨z, y⟩, y, pk_us, hv, nI_1]
      · rw [if_neg (fun q => y q.2), pk_un y]; exact m4 w hw
  obtain ⟨tr2, ca2, pl2, cs2, e2, t2, c2, p2, s2⟩ := C
  rw [e2, xlet_eq, xu_r, xu_r, xu_r, m7]
  obtain ⟨tr3, ca3, cs3, e3, k1, k2⟩ := c_dfc S hT.1 (by omega) t2 c2 s2
  rw [e3, xlet_eq, xu_r, xu_r, xu_r]
  have Y : cY (gSh (gFn h s)) sz1 ag tr3 ca3 pl2 lk1 rt cs3 fr1 th1 mk1 (nI (gTr (gSh (gFn h s)))) sp := by
    refine cY_sh (fun t ht => by rw [g0]; exact d1 t ht) k1 (fun t ht p => ⟨?_, p2 t ht p⟩) (fun j hj => by rw [g6]; exact d2 j hj) (fun k hk => by rw [g7]; exact m3' k hk) k2 (fun t ht => zh_cong (d3 t ht) (fun u _ => (gLk_cong g6 u t).symm)) (zh_cong d4 (fun t _ => by unfold gTh; rw [g0])) (zh_cong d5 (fun t _ => by rw [g5])) (by rw [gFn_o h s (by decide), gDr_o h _ (by decide)]; exact m8)
    have pw : ¬ gWt h t = true := fun q => by
      rw [g0, gDr_0 h _ (Or.inl rfl), if_pos q] at p; omega
    rw [g4, gDr_0 h _ (by decide), if_neg pw]
    have ph : 0 < h 0 t := by rw [g0, gDr_0 h _ (Or.inl rfl), if_neg pw] at p; exact p
    exact (m2 t ht ph).1
  have l40 := fb_ct_le (gWt h) 40
  by_cases z : fb_ct (gWt h) 40 = 0
  · rw [if_pos ((nI0 (by omega)).mpr z), decide_eq_true z, Bool.true_and]
    cases on with
    | true =>
      rw [if_pos rfl, if_pos rfl, xlet_eq]
      refine ⟨_, _, _, _, _, _, _, _, _, _, rfl, cY_mk Y ?_⟩
      exact c_markOne WS Y.1 (fun t ht p => (Y.2.1 t ht p).2) Y.2.2.2.2.1 (zh_cong m10 (fun t _ => (gRt_cong (fun j => by rw [gSh_o _ (by decide), g7]) t).symm)) Y.2.2.2.2.2.2.1
    | false =>
      rw [if_neg (by decide), if_neg (by decide)]
      exact ⟨_, _, _, _, _, _, _, _, _, _, rfl, Y⟩
  · rw [if_neg (fun q => z ((nI0 (by omega)).mp q)), decide_eq_false z, Bool.false_and, if_neg (by decide)]
    exact ⟨_, _, _, _, _, _, _, _, _, _, rfl, Y⟩
theorem c_step (hF : cF code cf cl P) (hU : un = nI P.2.2) (hU2 : P.2.2 < 1000) (W : gW g) (Y : cY g sz ag tr ca pl lk rt cs fr th mk tn sp) (h8 : g 8 0 < 999) (ro le : Int64) (nw ch ru sy syT top : Int32) (on : Bool) (fa sk wa : Nat → Int32) (ab : Nat → Int64) :
    gW (gTick P g).1 ∧ ∃ ro' le' nw' ch' ru' sy' syT' on' top' fa' sk' wa' ab' th' mk' tn' sz' ag' tr' ca' pl' lk' cs' fr',
      mX3_step ro le nw ch ru sy syT on top fa sk wa ab th mk tn sp sz ag tr ca pl lk rt cs fr un code cf cl =
        ((nI (gTick P g).2.1, nI (gTick P g).2.2.1, nI (gTick P g).2.2.2.1, (gTick P g).2.2.2.2, ro', le', nw', ch', ru', sy', syT', on', top', fa', sk', wa', ab', th', mk', tn', nI ((gTick P g).1 8 0), sz', ag', tr', ca', pl', lk', cs', fr') : CT) ∧
      cY (gTick P g).1 sz' ag' tr' ca' pl' lk' rt cs' fr' th' mk' tn' (nI ((gTick P g).1 8 0)) := by
  have N := gW_N W
  have h40 := gTr_40 W
  have Y0 := Y
  obtain ⟨y1, y2, ⟨y3, y4⟩, y5, y6, y7, y8, y9, y10⟩ := Y
  unfold mX3_step
  rw [y9]
  by_cases hT : gTr g = 0
  · rw [gTick_0 hT, if_neg (fun q => by have := (nIp (by omega)).mp q; omega)]
    obtain ⟨ag2, a1, a2⟩ := c_pass (ag := ag) y1 (fun t ht => by have := W.1 t ht; omega) y10 h8 (fun t ht p => (y2 t ht p).1)
    rw [a2, xlet_eq, xu_r]
    refine ⟨gW_pa W, _, _, _, _, _, _, _, _, _, _, _, _, _, _, _, _, _, _, _, _, _, _, _, _, rfl, ?_⟩
    have := cY_pa W Y0 h8 a1
    rw [y9] at this
    exact this
  · rw [if_pos ((nIp (by omega)).mpr (by omega))]
    obtain ⟨ro1, le1, n1, wa1, ab1, f, M, hW, e1⟩ := c_gather W Y0 wa ab
    have I := mI_of W hT
    rw [e1, xlet_eq]
    simp only [xu_r]
    rw [c_want I M (fun t ht => (W.1 t ht).2.2.2.2)]
    cases hw : gWant g with
    | false =>
      rw [gTick_f hT hw, if_neg (by decide)]
      obtain ⟨S, R⟩ := gSp_ft W hw
      have WS := gW_sh S
      have hg : zh (ab1 (0 : Int32).toNatClampNeg) (gF1 g) := zh_cong (M.2.2.2.2.2.2.2.2.1 0 (by decide)) (fun t ht => by
        unfold gF1 gTn
        rw [if_neg (by have := (W.1 t ht).2.2.2.2; omega)])
      obtain ⟨th1, mk1, sz1, lk1, fr1, ⟨d1, d2, d3, d4, d5⟩, e2⟩ := c_fall hg y1 y3 y6 y7 y8
      rw [e2, xlet_eq]
      simp only [xu_r]
      have pos : ∀ t, t < 40 → 0 < gDr g (gF1 g) 0 t → 0 < g 0 t ∧ ¬ gF1 g t = true := fun t ht p => by
        rw [gDr_0 g _ (Or.inl rfl)] at p
        by_cases z : gF1 g t = true
        · rw [if_pos z] at p; omega
        · rw [if_neg z] at p; exact ⟨p, z⟩
      have nE : ¬ gE0 (gDr g (gF1 g)) = true := fun e => by
        obtain ⟨t, ht, a, b⟩ := (gE0_iff _).mp e
        rw [gDr_o g _ (by decide)] at b
        have := pos t ht a
        exact this.2 (decide_eq_true ⟨this.1, b⟩)
      obtain ⟨tr3, cs3, e3, k1, k2⟩ := c_gone (tr := tr) (ca := ca) (cs := cs) S (by omega) (by omega) nE (fun t ht p => by rw [gDr_o g _ (by decide)]; exact (y2 t ht (pos t ht p).1).2.1) (fun t ht p => by rw [gDr_o g _ (by decide)]; exact (y2 t ht (pos t ht p).1).2.2.1) (fun w h1 h2 => by
        rw [y5 w h2]
        congr 1
        refine bmx_cong (fun t ht => ?_) (fun t ht _ => (gDr_o g _ (by decide) t).symm)
        rw [gDr_o g _ (a := 1) (by decide), gDr_0 g _ (a := 0) (Or.inl rfl), decide_eq_decide]
        by_cases z : gF1 g t = true
        · rw [if_pos z]
          have := of_decide_eq_true z
          exact ⟨fun q => by omega, fun q => by omega⟩
        · rw [if_neg z])
      rw [e3, xlet_eq]
      simp only [xu_r]
      have Y2 : cY (gSh (gDr g (gF1 g))) sz1 ag tr3 ca pl lk1 rt cs3 fr1 th1 mk1 (nI (gTr (gSh (gDr g (gF1 g))))) sp :=
        cY_sh d1 k1 (fun t ht p => by
          have := pos t ht p
          rw [gDr_0 g _ (by decide), if_neg this.2, gDr_o g _ (by decide)]
          exact ⟨(y2 t ht this.1).1, (y2 t ht this.1).2.2.2⟩) d2 (fun k hk => by rw [gDr_o g _ (by decide)]; exact y4 k hk) k2 d3 d4 d5 (by rw [gDr_o g _ (by decide)]; exact y10)
      have s8 : gSh (gDr g (gF1 g)) 8 0 = g 8 0 := by rw [gSh_o _ (by decide), gDr_o g _ (by decide)]
      obtain ⟨ag2, a1, a2⟩ := c_pass (ag := ag) (sp := sp) Y2.1 (fun t ht => by have := WS.1 t ht; omega) Y2.2.2.2.2.2.2.2.2 (by omega) (fun t ht p => (Y2.2.1 t ht p).1)
      rw [a2, xlet_eq, xu_r]
      exact ⟨gW_pa WS, _, _, _, _, _, _, _, _, _, _, _, _, _, _, _, _, _, _, _, _, _, _, _, _, rfl, cY_pa WS Y2 (by omega) a1⟩
    | true =>
      rw [gTick_e hT hw, if_pos rfl]
      have cg : fb_ct (gWt g) 40 ≤ 40 := fb_ct_le _ _
      obtain ⟨mo2, co2, le2, ch2, ru2, sy2, syT2, on2, top2, fa2, sk2, ab2, mk2, tn2, tr2, ca2, pl2, cs2, e2, ⟨I2, hp, x8⟩, M2, W2, ⟨s1, s2, s3, ⟨q, s4, s5, s6⟩, s7⟩⟩ := c_loop (th := th) hF hU hU2 40 0 (g, gTr g, 0, true, 0, 0) tr ca pl cs ab1 mk le1 tn 0 0 0 syT ch ru top true fa sk cg I M hW (by show g 8 0 ≤ 1000; omega) ⟨rfl, rfl, rfl, ⟨0, rfl, by rw [Nat.zero_add]; exact cg, ⟨fun _ => rfl, fun _ => rfl⟩⟩, fun q => absurd rfl q⟩
      rw [y9] at e2
      rw [e2]
      have hX : gLp P 40 (g, gTr g, 0, true, 0, 0) = gX P g := rfl
      rw [hX] at I2 hp x8 M2 W2 s1 s2 s3 s5 s6 s7
      have e0 : ∀ t, (gX P g).1 0 t = g 0 t := fun t => gLp_067 P (Or.inl rfl) t 40 (g, gTr g, 0, true, 0, 0)
      unfold mX3_step_68
      obtain ⟨th3, mk3, tn3, sz3, tr3, ca3, pl3, lk3, cs3, fr3, e3, Y3⟩ := c_end (on := on2) I2 hp M2 W2 (zh_cong y7 (fun t _ => by unfold gTh; rw [e0])) s4 (by omega) s6 s7
      rw [e3, xlet_eq]
      simp only [xu_r]
      have fu : (decide (fb_ct (gWt (gX P g).1) 40 = 0) && on2) = gFu P g := by unfold gFu; rw [s3]
      rw [fu] at Y3 ⊢
      have S3 := gW_sh (gSp_fn I2 hp)
      have WS : gW (if gFu P g = true then gMk (gSh (gFn (gX P g).1 (gX P g).2.2.1)) else gSh (gFn (gX P g).1 (gX P g).2.2.1)) := by
        split
        · exact gW_mk S3
        · exact S3
      have g8 : (if gFu P g = true then gMk (gSh (gFn (gX P g).1 (gX P g).2.2.1)) else gSh (gFn (gX P g).1 (gX P g).2.2.1)) 8 0 = g 8 0 := by
        split
        · rw [gMk_o _ (by decide), gFn_8]; exact x8
        · rw [gFn_8]; exact x8
      obtain ⟨ag2, a1, a2⟩ := c_pass (ag := ag) (sp := sp) Y3.1 (fun t ht => by have := WS.1 t ht; omega) Y3.2.2.2.2.2.2.2.2 (by omega) (fun t ht p => (Y3.2.1 t ht p).1)
      rw [a2, xlet_eq, xu_r, s1, s2]
      exact ⟨gW_pa WS, _, _, _, _, _, _, _, _, _, _, _, _, _, _, _, _, _, _, _, _, _, _, _, _, rfl, cY_pa WS Y3 (by omega) a1⟩
end CZ
