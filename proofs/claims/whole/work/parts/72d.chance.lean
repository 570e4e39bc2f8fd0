abbrev GC : Type := GH × Nat × GK × Nat
/-- a STEP with chance -/
def gCs (P : GP) (H : Nat) (q : GC) : GC := ((gTick P (gChn H q.1 q.2.1).1).1, (gChn H q.1 q.2.1).2.1, kAdd q.2.2.1 ((gChn H q.1 q.2.1).1 8 0) (gTick P (gChn H q.1 q.2.1).1).2.1 (gTick P (gChn H q.1 q.2.1).1).2.2.1, q.2.2.2 + if (gChn H q.1 q.2.1).2.2 = true then 1 else 0)
def gIt (P : GP) (H : Nat) : Nat → GC → GC
  | 0, q => q
  | n + 1, q => gIt P H n (gCs P H q)
section CHL
variable {P : GP} {H : Nat} {code cf cl : Nat → Int32} {un : Int32}
theorem gCs_W {q : GC} (W : gW q.1) : gW (gCs P H q).1 ∧ (gCs P H q).1 8 0 = q.1 8 0 + 1 ∧ (gCs P H q).2.1 < 2 ^ 31 := by
  obtain ⟨a, b, c⟩ := gW_chn (H := H) (s := q.2.1) W
  obtain ⟨d, e⟩ := gW_tick P a
  exact ⟨d, by show (gTick P (gChn H q.1 q.2.1).1).1 8 0 = _; rw [e, b], c⟩
theorem c_chance22 (hF : cF code cf cl P) (hU : un = nI P.2.2) (hU2 : P.2.2 < 1000) (hH : H < 1000) {n : Nat} (hn : n ≤ 60) (rt rf : Nat → Int32) (ch : Int32) (pc pn : Int32) (p1 p2 : Int64) (p3 p4 : Int32) (m1 m2 m3 m4 m5 m6 m7 m8 : Nat → Int32) (m9 : Nat → Int64) (p5 : Int32) (m0 : Nat → Int32) : ∀ m k j (q : GC) (th mk : Int64) (tn sp : Int32) (sz ag tr ca pl lk cs : Nat → Int32) (fr : Nat → Int64) (a1 a2 a3 : Int32) (a4 : Bool) (a5 a6 : Int64) (a7 a8 a9 a10 a11 : Int32) (a12 : Bool) (top : Int32) (fc sk wa : Nat → Int32) (ab : Nat → Int64) (cnt : Int32) (rows : Nat → Int32), j + m = n → m ≤ k → gW q.1 → q.2.1 < 2 ^ 31 → q.1 8 0 + m ≤ 999 → cY q.1 sz ag tr ca pl lk rt cs fr th mk tn sp → cK q.2.2.1 cnt rows →
    ∃ (th' mk' : Int64) (tn' sp' : Int32) (sz' ag' tr' ca' pl' lk' cs' : Nat → Int32) (fr' : Nat → Int64) (a1' a2' a3' : Int32) (a4' : Bool) (a5' a6' : Int64) (a7' a8' a9' a10' a11' : Int32) (a12' : Bool) (top' : Int32) (fc' sk' wa' : Nat → Int32) (ab' : Nat → Int64) (cnt' : Int32) (rows' : Nat → Int32), mX11_chance_22 (nI n) un (nI H) code cf cl rt rf k j (nI q.2.2.2) (nI q.2.1) ch th mk tn sp sz ag tr ca pl lk cs fr a1 a2 a3 a4 a5 a6 a7 a8 a9 a10 a11 a12 top fc sk wa ab cnt rows pc pn p1 p2 p3 p4 m1 m2 m3 m4 m5 m6 m7 m8 m9 p5 m0 = mX11_chance_22 (nI n) un (nI H) code cf cl rt rf 0 n (nI (gIt P H m q).2.2.2) (nI (gIt P H m q).2.1) ch th' mk' tn' sp' sz' ag' tr' ca' pl' lk' cs' fr' a1' a2' a3' a4' a5' a6' a7' a8' a9' a10' a11' a12' top' fc' sk' wa' ab' cnt' rows' pc pn p1 p2 p3 p4 m1 m2 m3 m4 m5 m6 m7 m8 m9 p5 m0 ∧
      cY (gIt P H m q).1 sz' ag' tr' ca' pl' lk' rt cs' fr' th' mk' tn' sp' ∧ cK (gIt P H m q).2.2.1 cnt' rows' := by
  intro m
  induction m with
  | zero =>
    intro k j q th mk tn sp sz ag tr ca pl lk cs fr a1 a2 a3 a4 a5 a6 a7 a8 a9 a10 a11 a12 top fc sk wa ab cnt rows hj hk W hs h8 Y hK
    have : j = n := by omega
    subst this
    refine ⟨th, mk, tn, sp, sz, ag, tr, ca, pl, lk, cs, fr, a1, a2, a3, a4, a5, a6, a7, a8, a9, a10, a11, a12, top, fc, sk, wa, ab, cnt, rows, ?_, Y, hK⟩
    cases k with
    | zero => rfl
    | succ k =>
      rw [mX11_chance_22, mX11_chance_22, ite_self, if_neg (nI_nlt (Nat.le_refl j) (by omega))]
      rfl
  | succ m ih =>
    intro k j q th mk tn sp sz ag tr ca pl lk cs fr a1 a2 a3 a4 a5 a6 a7 a8 a9 a10 a11 a12 top fc sk wa ab cnt rows hj hk W hs h8 Y hK
    obtain ⟨k, rfl⟩ : ∃ q, k = q + 1 := ⟨k - 1, by omega⟩
    obtain ⟨Wc, c8, cs31⟩ := gW_chn (H := H) (s := q.2.1) W
    obtain ⟨lkc, frc, ec, Yc⟩ := c_churn (H := H) W hs hH Y
    obtain ⟨th1, mk1, tn1, sp1, sz1, ag1, tr1, ca1, pl1, lk1, cs1, fr1, b5, b6, b7, b8, b9, b10, b11, b12, top1, fc1, sk1, wa1, ab1, cnt1, rows1, e, W1, Y1, K1⟩ := c_stepKeep hF hU hU2 Wc Yc (by rw [c8]; omega) hK a5 a6 a7 a8 a9 a10 a11 a12 top fc sk wa ab
    obtain ⟨w1, w2, w3⟩ := gCs_W (P := P) (H := H) W
    obtain ⟨th', mk', tn', sp', sz', ag', tr', ca', pl', lk', cs', fr', a1', a2', a3', a4', a5', a6', a7', a8', a9', a10', a11', a12', top', fc', sk', wa', ab', cnt', rows', z, Y', K'⟩ := ih k (j + 1) (gCs P H q) th1 mk1 tn1 sp1 sz1 ag1 tr1 ca1 pl1 lk1 cs1 fr1 (nI (gTick P (gChn H q.1 q.2.1).1).2.1) (nI (gTick P (gChn H q.1 q.2.1).1).2.2.1) (nI (gTick P (gChn H q.1 q.2.1).1).2.2.2.1) (gTick P (gChn H q.1 q.2.1).1).2.2.2.2 b5 b6 b7 b8 b9 b10 b11 b12 top1 fc1 sk1 wa1 ab1 cnt1 rows1 (by omega) (by omega) w1 w3 (by rw [w2]; omega) Y1 K1
    refine ⟨th', mk', tn', sp', sz', ag', tr', ca', pl', lk', cs', fr', a1', a2', a3', a4', a5', a6', a7', a8', a9', a10', a11', a12', top', fc', sk', wa', ab', cnt', rows', ?_, Y', K'⟩
    have ez : gIt P H (m + 1) q = gIt P H m (gCs P H q) := rfl
    rw [ez, ← z]
    have x1 : (gCs P H q).2.2.2 = q.2.2.2 + if (gChn H q.1 q.2.1).2.2 = true then 1 else 0 := rfl
    have x2 : (gCs P H q).2.1 = (gChn H q.1 q.2.1).2.1 := rfl
    rw [x1, x2]
    conv => lhs; rw [mX11_chance_22]
    rw [if_pos (nI_lt (show j < n by omega) (by omega)), ec, xlet_eq]
    simp only [xu_q]
    rw [e, xlet_eq]
    simp only [xu_q]
    by_cases y : (gChn H q.1 q.2.1).2.2 = true
    · rw [if_pos y, if_pos y, nI_1]
    · rw [if_neg y, if_neg y]
      rw [xlet_eq]
      simp only [xu_q]
      rw [Nat.add_zero q.2.2.2]
variable {b : Nat} {sf sb cs cv ut ct : Nat → Int32}
theorem r_chance25 (hb : b < 2) (hF : rF b sf sb cs cv P) (hU : ut b = nI P.2.2) (hU2 : P.2.2 < 1000) (hC : ct b = nI H) (hH : H < 1000) {n : Nat} (hn : n ≤ 60) (rt rf : Nat → Int32) (uF uU : Int32) : ∀ m f j (q : GC) (rn fe we co : Int32) (fu : Bool) (so sz tr ca pl ag mk lk km kr : Nat → Int32) (sk : Nat → Int64) (ask np im st sT af aq lv : Nat → Int32), j + m = n → m < f → gW q.1 → q.2.1 < 2 ^ 31 → q.1 8 0 + m ≤ 999 → rS 0 q.1 q.2.2.1 so sz tr ca pl ag mk lk rt km kr →
    ∃ (rn' fe' we' co' : Int32) (fu' : Bool) (so' sz' tr' ca' pl' ag' mk' lk' km' kr' : Nat → Int32) (sk' : Nat → Int64) (ask' np' im' st' sT' af' aq' lv' : Nat → Int32), mX12_chance_25 (nI n) (nI b) ut ct sf sb cs cv rf f (nI q.2.2.2) (nI j) uF uU (lN q.2.1) rn fe we co fu so sz tr ca pl ag mk lk rt km kr sk ask np im st sT af aq lv = some (nI (gIt P H m q).2.2.2, uF, uU, lN (gIt P H m q).2.1, rn', fe', we', co', fu', rf, so', sz', tr', ca', pl', ag', mk', lk', rt, km', kr', sk', ask', np', im', st', sT', af', aq', lv') ∧
      rS 0 (gIt P H m q).1 (gIt P H m q).2.2.1 so' sz' tr' ca' pl' ag' mk' lk' rt km' kr' ∧ rY 0 so sz tr ca pl ag mk lk rt km kr so' sz' tr' ca' pl' ag' mk' lk' rt km' kr' := by
  intro m
  induction m with
  | zero =>
    intro f j q rn fe we co fu so sz tr ca pl ag mk lk km kr sk ask np im st sT af aq lv hj hf W hs h8 S
    obtain ⟨f, rfl⟩ : ∃ q, f = q + 1 := ⟨f - 1, by omega⟩
    have : j = n := by omega
    subst this
    rw [mX12_chance_25, if_neg (nI_nlt (Nat.le_refl j) (by omega))]
    exact ⟨_, _, _, _, _, _, _, _, _, _, _, _, _, _, _, _, _, _, _, _, _, _, _, _, rfl, S, fun _ _ _ _ h => h⟩
  | succ m ih =>
    intro f j q rn fe we co fu so sz tr ca pl ag mk lk km kr sk ask np im st sT af aq lv hj hf W hs h8 S
    obtain ⟨f, rfl⟩ : ∃ q, f = q + 1 := ⟨f - 1, by omega⟩
    have M := rS_M S
    obtain ⟨af1, aq1, lv1, el, hlv, -⟩ := r_livings lk rt (gW_N W).2.2 0 (by decide) M.2.2.2.1 M.2.2.2.2 af aq lv
    have el : mX12_livings (0 : Int32) lk rt af aq lv = some (nI (gLv q.1), af1, aq1, lv1) := el
    have h40 : gLv q.1 ≤ 40 := fb_ct_le _ 40
    have c : (nI (gDw 100 q.2.1) < nI H) ↔ gDw 100 q.2.1 < H := nI_ltI (by have := gDw_lt (m := 100) (s := q.2.1) (by decide); omega) (by omega)
    have cl0 : (0 < nI (gLv q.1)) ↔ 0 < gLv q.1 := nIp (by omega)
    have ez : gIt P H (m + 1) q = gIt P H m (gCs P H q) := rfl
    obtain ⟨w1, w2, w3⟩ := gCs_W (P := P) (H := H) W
    rw [mX12_chance_25, if_pos (nI_lt (show j < n by omega) (by omega)), el, obind]
    simp only [xu_q]
    rw [show mX12_draw (100 : Int32) (lN q.2.1) = _ from r_draw (m := 100) (by decide) (by decide) hs, obind, xu_q, zb b 2 hb (by decide), if_pos rfl, zc b (by omega), hC, nI_1 j, ez]
    have step : ∀ (g1 : GH) (s1 : Nat) (x1 : Bool) (lk1 : Nat → Int32), gChn H q.1 q.2.1 = (g1, s1, x1) → rS 0 g1 q.2.2.1 so sz tr ca pl ag mk lk1 rt km kr → rY 0 so sz tr ca pl ag mk lk rt km kr so sz tr ca pl ag mk lk1 rt km kr → ∀ X : Int32, X = nI (gCs P H q).2.2.2 →
        ∃ (rn' fe' we' co' : Int32) (fu' : Bool) (so' sz' tr' ca' pl' ag' mk' lk' km' kr' : Nat → Int32) (sk' : Nat → Int64) (ask' np' im' st' sT' af' aq' lv' : Nat → Int32), (mX12_ticks (0 : Int32) (nI b) rn ut sf sb cs cv so sz tr ca pl ag mk lk1 rt km kr sk ask np im st sT).bind (xu fun q11_1 => xu fun q11_2 => xu fun q11_3 => xu fun q11_4 => xu fun q11_5 => xu fun q11_6 => xu fun q11_7 => xu fun q11_8 => xu fun q11_9 => xu fun q11_10 => xu fun q11_11 => xu fun q11_12 => xu fun q11_13 => xu fun q11_14 => xu fun q11_15 => xu fun q11_16 => xu fun q11_17 => xu fun q11_18 => xu fun q11_19 => xu fun q11_20 => fun q11_21 => mX12_chance_25 (nI n) (nI b) ut ct sf sb cs cv rf f X (nI (j + 1)) uF uU (lN s1) q11_1 q11_2 q11_3 q11_4 q11_5 q11_6 q11_7 q11_8 q11_9 q11_10 q11_11 q11_12 q11_13 rt q11_14 q11_15 q11_16 q11_17 q11_18 q11_19 q11_20 q11_21 af1 aq1 lv1) = some (nI (gIt P H m (gCs P H q)).2.2.2, uF, uU, lN (gIt P H m (gCs P H q)).2.1, rn', fe', we', co', fu', rf, so', sz', tr', ca', pl', ag', mk', lk', rt, km', kr', sk', ask', np', im', st', sT', af', aq', lv') ∧
          rS 0 (gIt P H m (gCs P H q)).1 (gIt P H m (gCs P H q)).2.2.1 so' sz' tr' ca' pl' ag' mk' lk' rt km' kr' ∧ rY 0 so sz tr ca pl ag mk lk rt km kr so' sz' tr' ca' pl' ag' mk' lk' rt km' kr' := by
      intro g1 s1 x1 lk1 eg S1 Yl X hX
      obtain ⟨Wc, c8, -⟩ := gW_chn (H := H) (s := q.2.1) W
      have e1 : (gCs P H q).1 = (gTick P g1).1 := by show (gTick P (gChn H q.1 q.2.1).1).1 = _; rw [eg]
      have e2 : (gCs P H q).2.1 = s1 := by show (gChn H q.1 q.2.1).2.1 = _; rw [eg]
      have e3 : (gCs P H q).2.2.1 = kAdd q.2.2.1 (g1 8 0) (gTick P g1).2.1 (gTick P g1).2.2.1 := by show kAdd q.2.2.1 ((gChn H q.1 q.2.1).1 8 0) (gTick P (gChn H q.1 q.2.1).1).2.1 (gTick P (gChn H q.1 q.2.1).1).2.2.1 = _; rw [eg]
      rw [eg] at Wc c8
      have Wc : gW g1 := Wc
      have c8 : g1 8 0 = q.1 8 0 := c8
      obtain ⟨W1, rn', so', sz', tr', ca', pl', ag', mk', lk', km', kr', sk', ask', np', im', st', sT', e, S', e8', Y⟩ := r_tickS (v := 0) (by decide) hb hF hU hU2 Wc S1 (by rw [c8]; omega) rn sk ask np im st sT
      have e : mX12_ticks (0 : Int32) (nI b) rn ut sf sb cs cv so sz tr ca pl ag mk lk1 rt km kr sk ask np im st sT = _ := e
      rw [e, obind]
      simp only [xu_q]
      rw [← e1, ← e3] at S'
      obtain ⟨r1, r2, r3, r4, r5, so2, sz2, tr2, ca2, pl2, ag2, mk2, lk2, km2, kr2, sk2, ask2, np2, im2, st2, sT2, af2, aq2, lv2, z, S2, Y2⟩ := ih f (j + 1) (gCs P H q) rn' (nI (gTick P g1).2.1) (nI (gTick P g1).2.2.1) (nI (gTick P g1).2.2.2.1) (gTick P g1).2.2.2.2 so' sz' tr' ca' pl' ag' mk' lk' km' kr' sk' ask' np' im' st' sT' af1 aq1 lv1 (by omega) (by omega) w1 w3 (by rw [w2]; omega) S'
      rw [e2] at z
      rw [hX]
      exact ⟨_, _, _, _, _, _, _, _, _, _, _, _, _, _, _, _, _, _, _, _, _, _, _, _, z, S2, fun u g' K' hu hS => Y2 u g' K' hu (Y u g' K' hu (Yl u g' K' hu hS))⟩
    have x1 : (gCs P H q).2.2.2 = q.2.2.2 + if (gChn H q.1 q.2.1).2.2 = true then 1 else 0 := rfl
    by_cases h : gDw 100 q.2.1 < H ∧ 0 < gLv q.1
    · have eg : gChn H q.1 q.2.1 = (gset q.1 6 (gCj q.1 (gSd q.2.1)) (gCc q.1 (gSd q.2.1) + 1), gSd (gSd (gSd (gSd q.2.1))), true) := by unfold gChn; rw [if_pos h]
      rw [if_pos (c.mpr h.1), if_pos (cl0.mpr h.2), r_churns W (gSd_lt _) h.2 hlv lk, obind, xu_q]
      have S1 := rS_l (j := gCj q.1 (gSd q.2.1)) (c := gCc q.1 (gSd q.2.1) + 1) S
      rw [Nat.mul_zero, Nat.zero_add] at S1
      have hj : gCj q.1 (gSd q.2.1) < 160 := by
        have := (gWho_is (gDw_lt (m := gLv q.1) (s := gSd q.2.1) h.2)).1
        have := gDw_lt (m := 4) (s := gSd (gSd q.2.1)) (by decide)
        unfold gCj
        omega
      exact step _ _ _ _ eg S1 (fun u g' K' hu hS => rS_fr hu hS (fun _ _ => rfl) (fun _ _ => rfl) (fun _ _ => rfl) (fun _ _ => rfl) (fun _ _ => rfl) (fun _ _ => rfl) (fun _ _ => rfl) (fun i hi => pk_un (by omega)) (fun _ _ => rfl) (fun _ _ => rfl) (fun _ _ => rfl)) _ (by rw [x1, eg, if_pos rfl, nI_1])
    · have eg : gChn H q.1 q.2.1 = (q.1, gSd q.2.1, false) := by unfold gChn; rw [if_neg h]
      have fin := step _ _ _ lk eg S (fun _ _ _ _ h => h) (nI q.2.2.2) (by rw [x1, eg, if_neg (show ¬ false = true by decide), Nat.add_zero q.2.2.2])
      by_cases y : gDw 100 q.2.1 < H
      · rw [if_pos (c.mpr y), if_neg (fun w => h ⟨y, cl0.mp w⟩)]
        exact fin
      · rw [if_neg (fun w => y (c.mp w))]
        exact fin
end CHL
