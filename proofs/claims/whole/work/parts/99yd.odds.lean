section SW
variable {N : Nat} {I : Nat → Int32} {J : Nat → Int64} {B : Nat → Bool} {A : Nat → Nat → Int32} {M : Nat → Nat → Int64} {Q : Nat → QT}
theorem s_on (h : vW N I J B A M Q) (hN : N < 1000) : ∃ (x : Bool) (o0 o1 : Int32) (o2 o3 : Int64) (o4 o5 : Int32) (o6 o7 o8 o9 o10 o11 o12 o13 : Nat → Int32) (o14 : Nat → Int64) (o15 o16 : Int64) (o17 o18 : Int32) (o19 o20 o21 o22 o23 o24 o25 o26 : Nat → Int32) (o27 : Nat → Int64) (o28 o29 : Int32) (o30 : Nat → Int32) (p0 p1 : Int32) (p2 p3 p4 p5 p6 p7 p8 p9 p10 p11 p12 p13 : Nat → Int32), mX11_on (I 1) (I 15) (A 1) (I 1600) (J 2609) (J 2610) (I 2611) (I 2612) (A 27) (A 28) (A 29) (A 30) (A 31) (A 32) (A 33) (A 34) (M 35) (J 3609) (J 3610) (I 3611) (I 3612) (A 37) (A 38) (A 39) (A 40) (A 41) (A 42) (A 43) (A 44) (M 45) (I 6200) (I 6400) (A 77) = (x, o0, o1, o2, o3, o4, o5, o6, o7, o8, o9, o10, o11, o12, o13, o14, o15, o16, o17, o18, o19, o20, o21, o22, o23, o24, o25, o26, o27, o28, o29, o30) ∧ mX12_on (I 20001) (I 20013) (B 20042) (I 20056) (A 201) (A 202) (A 222) (A 223) (A 224) (A 225) (A 226) (A 227) (A 228) (A 229) (A 230) (A 231) (A 232) (A 233) = some (x, p0, p1, p2, p3, p4, p5, p6, p7, p8, p9, p10, p11, p12, p13) ∧ vW (N + 1) (wu (wu (wu (wu (wu (wu (wu (wu (wu (wu I 1 o0) 15 o1) 2611 o4) 2612 o5) 3611 o17) 3612 o18) 6200 o28) 6400 o29) 20001 p0) 20056 p1) (wu (wu (wu (wu J 2609 o2) 2610 o3) 3609 o15) 3610 o16) B (wu (wu (wu (wu (wu (wu (wu (wu (wu (wu (wu (wu (wu (wu (wu (wu (wu (wu (wu (wu (wu (wu (wu (wu (wu (wu (wu (wu (wu A 27 o6) 28 o7) 29 o8) 30 o9) 31 o10) 32 o11) 33 o12) 34 o13) 37 o19) 38 o20) 39 o21) 40 o22) 41 o23) 42 o24) 43 o25) 44 o26) 77 o30) 222 p2) 223 p3) 224 p4) 225 p5) 226 p6) 227 p7) 228 p8) 229 p9) 230 p10) 231 p11) 232 p12) 233 p13) (wu (wu M 35 o14) 45 o27) Q := by
  obtain ⟨n, tx, s, b, U, P, E, g, K, F, un, q, gs, Ks, m, R, mi, T, Fq, Sd, Et, Pl, G, Un, O, Mt, Im⟩ := h
  have G0 := G
  have Pl0 := Pl
  have Un0 := Un
  obtain ⟨W, h8, Z, S, Y, D⟩ := G0
  obtain ⟨hb, eb, eh, p0, hP, hU99, cu, ru, ⟨H, hH, cH, rH⟩, ⟨mn, hmn, cm, rm, nm⟩, fC, fR, fE, fRE⟩ := Pl0
  obtain ⟨⟨hF, hn, hq⟩, ⟨un1, un2, un3, un4⟩, Ur, Uc⟩ := Un0
  have e := k_on T.1 hb ru hU99 S (I 20056) (I 15) (I 6200) (I 6400) (A 222) (A 77) (J 2609) (J 2610) (I 2611) (I 2612) (A 27) (A 28) (A 29) (A 30) (A 31) (A 32) (A 33) (A 34) (M 35) (J 3609) (J 3610) (I 3611) (I 3612) (A 37) (A 38) (A 39) (A 40) (A 41) (A 42) (A 43) (A 44) (M 45)
  have T0 : kTp 0 tx (A 1) (A 201) := ⟨by omega, fun i hi => absurd hi (by omega)⟩
  rw [T.2.1, T.2.2, eb, eh, cu]
  rcases e with ⟨g', W', h8', so1, sz1, tr1, ca1, pl1, ag1, mk1, lk1, rt1, km1, kr1, e2, S', rx, th2, mk2, tn2, sp2, sz3, ag3, tr3, ca3, pl3, lk3, rt3, cs3, fr3, dth, dmk, dtn, dsp, dsz, dag, dtr, dca, dpl, dlk, drt, dcs, dfr, e1, Y'⟩ | ⟨so1, sz1, tr1, ca1, pl1, ag1, mk1, lk1, rt1, km1, kr1, e2, Yr, dth, dmk, dtn, dsp, dsz, dag, dtr, dca, dpl, dlk, drt, dcs, dfr, e1⟩
  · have u : 0 < U := by
      by_cases u : 0 < U
      · exact u
      · exfalso
        rw [show U = 0 by omega] at e1
        have e3 := congrArg Prod.fst e1
        have e4 : false = true := e3
        exact absurd e4 (by decide)
    exact ⟨_, _, _, _, _, _, _, _, _, _, _, _, _, _, _, _, _, _, _, _, _, _, _, _, _, _, _, _, _, _, _, _, _, _, _, _, _, _, _, _, _, _, _, _, _, _, e1, e2, 0, tx, s, b, _, P, E, g', (0, fun _ => 0), F, 0, q, gs, Ks, m, R, mi, ⟨T0, rfl, rfl⟩, Fq, Sd, Et, Pl, ⟨W', h8', fun z => absurd u (by omega), S', Y', ⟨rfl, by decide, fun i hi => absurd hi (by omega)⟩⟩, ⟨⟨hF, by omega, hq⟩, ⟨rfl, un2, un3, rfl⟩, fun i hi => absurd hi (by omega), fun i hi => absurd hi (by omega)⟩, vO_new O hN rfl rfl rfl, Mt, Im⟩
  · exact ⟨_, _, _, _, _, _, _, _, _, _, _, _, _, _, _, _, _, _, _, _, _, _, _, _, _, _, _, _, _, _, _, _, _, _, _, _, _, _, _, _, _, _, _, _, _, _, e1, e2, 0, tx, s, b, _, P, E, g, K, F, un, q, gs, Ks, m, R, mi, ⟨T0, rfl, rfl⟩, k_refused Fq 5 (by decide), Sd, Et, Pl, ⟨W, h8, Z, Yr 0 g K (by decide) S, Y, D⟩, ⟨⟨hF, hn, hq⟩, ⟨un1, un2, un3, un4⟩, vUr_y (v := 1) (by decide) Yr Ur, Uc⟩, vO_up O, Mt, Im⟩
theorem s_odds (h : vW N I J B A M Q) (hN : N < 1000) (Athing : Int32) : ∃ (x : Int32) (o0 o1 : Int64) (o2 o3 : Int32) (o4 o5 o6 o7 o8 o9 o10 o11 : Nat → Int32) (o12 : Nat → Int64) (p0 p1 p2 p3 : Nat → Int32), mX11_odds Athing (I 1601) (J 2609) (J 2610) (I 2611) (I 2612) (A 27) (A 28) (A 29) (A 30) (A 31) (A 32) (A 33) (A 34) (M 35) (J 3609) (J 3610) (I 3611) (I 3612) (A 37) (A 38) (A 39) (A 40) (A 41) (A 42) (A 43) (A 44) (M 45) = (x, o0, o1, o2, o3, o4, o5, o6, o7, o8, o9, o10, o11, o12) ∧ mX12_odds Athing (I 20013) (A 210) (A 224) (A 230) (A 231) (A 240) (A 241) (A 243) = some (x, p0, p1, p2, p3) ∧ vW (N + 1) (wu (wu I 3611 o2) 3612 o3) (wu (wu J 3609 o0) 3610 o1) B (wu (wu (wu (wu (wu (wu (wu (wu (wu (wu (wu (wu A 37 o4) 38 o5) 39 o6) 40 o7) 41 o8) 42 o9) 43 o10) 44 o11) 230 p0) 240 p1) 241 p2) 243 p3) (wu M 45 o12) Q := by
  obtain ⟨n, tx, s, b, U, P, E, g, K, F, un, q, gs, Ks, m, R, mi, T, Fq, Sd, Et, Pl, G, Un, O, Mt, Im⟩ := h
  have G0 := G
  have Pl0 := Pl
  have Un0 := Un
  obtain ⟨W, h8, Z, S, Y, D⟩ := G0
  obtain ⟨hb, eb, eh, p0, hP, hU99, cu, ru, ⟨H, hH, cH, rH⟩, ⟨mn, hmn, cm, rm, nm⟩, fC, fR, fE, fRE⟩ := Pl0
  obtain ⟨⟨hF, hn, hq⟩, ⟨un1, un2, un3, un4⟩, Ur, Uc⟩ := Un0
  have nK : gok (gTh g) g := W.2.2.2.2.2.1
  have zl := z_live nK Y.2.2.2.2.2.1 (A 32) (A 33) Y.2.2.1.1 Y.2.2.1.2
  have cl := zh_cnt zl
  obtain ⟨et, ht⟩ := k_there W S Y Athing
  obtain ⟨af, aq, lv, el, hlv, haf⟩ := r_livings (A 230) (A 231) nK 0 (by decide) (fun j hj => by rw [show 160 * 0 + j = j by omega]; exact (rS_0 S).2.2.1 j hj) (fun j hj => by rw [show 8 * 0 + j = j by omega]; exact (rS_0 S).2.2.2 j hj) (A 240) (A 241) (A 243)
  rw [show nI 0 = 0 from rfl] at el
  generalize hLn : fb_ct (gL g) 40 = Ln at cl el
  have l40 : Ln ≤ 40 := by rw [← hLn]; exact fb_ct_le _ 40
  have mm : (nI Ln * 4) * nI Ln = nI (4 * Ln * Ln) := by rw [show (4 : Int32) = nI 4 from rfl, pk_mul, pk_mul, Nat.mul_comm Ln 4]
  have mm2 : (4 * nI Ln) * nI Ln = nI (4 * Ln * Ln) := by rw [show (4 : Int32) = nI 4 from rfl, pk_mul, pk_mul]
  by_cases l0 : Ln = 0
  · have c0 : mJ13_bitCount_95d88 (mX10_live (J 2609) (A 32) (A 33)) = 0 := by rw [cl, l0]; rfl
    have r0 : mX12_odds_15 Athing (nI b) (A 210) (A 230) (A 231) (A 240) (A 241) (A 243) = some (-1, (A 230), af, aq, lv) := by
      unfold mX12_odds_15
      rw [el, obind]
      repeat rw [xu_q]
      rw [if_pos (show nI Ln = 0 by rw [l0]; rfl)]
    have r1 : ∃ af aq lv, mX12_odds Athing (nI b) (A 210) (A 224) (A 230) (A 231) (A 240) (A 241) (A 243) = some (-1, (A 230), af, aq, lv) := by
      unfold mX12_odds
      by_cases x : Athing = -1
      · rw [if_pos x]; exact ⟨_, _, _, r0⟩
      · rw [if_neg x, et, obind]
        by_cases y : mX10_isThere Athing (J 2609) = true
        · rw [if_pos y]; exact ⟨_, _, _, r0⟩
        · rw [if_neg y]; exact ⟨_, _, _, rfl⟩
    obtain ⟨af', aq', lv', r1⟩ := r1
    rw [eb]
    refine ⟨-1, (J 3609), (J 3610), (I 3611), (I 3612), (A 37), (A 38), (A 39), (A 40), (A 41), (A 42), (A 43), (A 44), (M 45), (A 230), af', aq', lv', ?_, r1, n, tx, s, b, _, P, E, g, K, F, un, q, gs, Ks, m, R, mi, T, Fq, Sd, Et, Pl, G, Un, vO_up O, Mt, Im⟩
    unfold mX11_odds
    rw [if_pos c0]
  · have c0 : ¬ mJ13_bitCount_95d88 (mX10_live (J 2609) (A 32) (A 33)) = 0 := by rw [cl]; exact fun z => l0 ((nI_eq (b := 0) (by omega) (by decide)).mp z)
    have n0 : ¬ nI Ln = 0 := fun z => l0 ((nI_eq (b := 0) (by omega) (by decide)).mp z)
    rw [eb]
    by_cases x : Athing = -1
    · refine ⟨100 * nI (4 * Ln * Ln), (J 3609), (J 3610), (I 3611), (I 3612), (A 37), (A 38), (A 39), (A 40), (A 41), (A 42), (A 43), (A 44), (M 45), (A 230), af, aq, lv, ?_, ?_, n, tx, s, b, _, P, E, g, K, F, un, q, gs, Ks, m, R, mi, T, Fq, Sd, Et, Pl, G, Un, vO_up O, Mt, Im⟩
      · unfold mX11_odds
        rw [if_neg c0, if_pos x, cl, mm]
      · unfold mX12_odds mX12_odds_15
        rw [if_pos x, el, obind]
        repeat rw [xu_q]
        rw [if_neg n0, if_pos x, mm2]
    · cases ec : mX10_isThere Athing (J 2609) with
      | false =>
        refine ⟨-1, (J 3609), (J 3610), (I 3611), (I 3612), (A 37), (A 38), (A 39), (A 40), (A 41), (A 42), (A 43), (A 44), (M 45), (A 230), (A 240), (A 241), (A 243), ?_, ?_, n, tx, s, b, _, P, E, g, K, F, un, q, gs, Ks, m, R, mi, T, Fq, Sd, Et, Pl, G, Un, vO_up O, Mt, Im⟩
        · unfold mX11_odds
          rw [if_neg c0, if_neg x, ec, if_neg (by decide)]
        · unfold mX12_odds
          rw [if_neg x, et, obind, ec, if_neg (by decide)]
      | true =>
        obtain ⟨t, h40, rfl, g0⟩ := ht ec
        have hT : ∀ t, t < 40 → gL g t = true → gTh g t = true := fun t ht h => decide_eq_true (gL_th W ht h)
        have od := fun x af aq => r_odds_78 (A 230) (A 231) nK hT (rS_0 S).2.2.1 (rS_0 S).2.2.2 t h40 b H hb (A 210) rH lv hlv x (fb_ct (gL g) 40) xfuel 0 0 af aq (by omega) (show _ < 5000 by omega) (by omega) rfl
        have g00 : gRows g t (4 * 0) = 0 := rfl
        rw [g00, Nat.mul_zero] at od
        rw [hLn] at od
        have xb : xinb (nI t) 40 = true := zb t 40 h40 (by decide)
        have xb2 : xinb (nI b) 2 = true := zb b 2 hb (by decide)
        have cl0 : (nI b).toNatClampNeg = b := nI_clamp (by omega)
        have ct0 : (nI t).toNatClampNeg = t := nI_clamp (by omega)
        have e0 : mX12_odds (nI t) (nI b) (A 210) (A 224) (A 230) (A 231) (A 240) (A 241) (A 243) = (if gL g t = true then mX12_odds_78 (nI t) (nI b) (A 210) (A 231) xfuel (nI Ln) ((100 - nI H) * nI (4 * Ln * Ln)) 0 (A 230) af aq lv else mX12_odds_78 (nI t) (nI b) (A 210) (A 231) xfuel (nI Ln) 0 0 (A 230) af aq lv) := by
          unfold mX12_odds mX12_odds_15
          rw [if_neg x, et, obind, ec, if_pos rfl, el, obind]
          repeat rw [xu_q]
          rw [if_neg n0, if_neg x, xb, if_pos rfl, ct0, mm2]
          by_cases l : gL g t = true
          · rw [if_pos ((haf t h40).1.mpr l), if_pos l, xb2, if_pos rfl, cl0, rH]
          · rw [if_neg (fun z => l ((haf t h40).1.mp z)), if_neg l]
        by_cases l : gL g t = true
        · obtain ⟨af', aq', e2⟩ := od ((100 - H) * (4 * Ln * Ln)) af aq
          rw [if_pos l, show (100 : Int32) = nI 100 from rfl, pk_sub (by omega), pk_mul] at e0
          obtain ⟨sz', ag', tr', ca', pl', lk', rt', cs', fr', ey, Y'⟩ := cY_copy W Y (A 37) (A 38) (A 39) (A 40) (A 41) (A 42) (A 43) (A 44) (M 45)
          have er := c_rows lk' rt' nK Y'.2.2.2.2.2.1 Y'.2.2.1.1 Y'.2.2.1.2 t h40
          have li : mX11_in (mX10_live (J 2609) (A 32) (A 33)) (nI t) = true := (zh_in zl h40).trans l
          refine ⟨nI ((100 - H) * (4 * Ln * Ln) + H * gRows g t 160), (J 2609), (J 2610), (I 2611), (I 2612), sz', ag', tr', ca', pl', lk', rt', cs', fr', (A 230), af', aq', lv, ?_, e0.trans e2, n, tx, s, b, _, P, E, g, K, F, un, q, gs, Ks, m, R, mi, T, Fq, Sd, Et, Pl, G, Un, vO_up O, Mt, Im⟩
          unfold mX11_odds
          rw [if_neg c0, if_neg x, ec, if_pos rfl, li, if_pos rfl, ey, xlet_eq]
          repeat rw [xu_q]
          rw [er, xlet_eq, xu_q, cl, mm, cH, show (100 : Int32) = nI 100 from rfl, pk_sub (show H ≤ 100 by omega), pk_mul, pk_mul, nI_add, Nat.add_comm]
        · obtain ⟨af', aq', e2⟩ := od 0 af aq
          rw [if_neg l] at e0
          rw [gRows_dead (Bool.eq_false_iff.mpr l) h40, Nat.mul_zero] at e2
          have li : mX11_in (mX10_live (J 2609) (A 32) (A 33)) (nI t) = false := (zh_in zl h40).trans (Bool.eq_false_iff.mpr l)
          refine ⟨0, (J 3609), (J 3610), (I 3611), (I 3612), (A 37), (A 38), (A 39), (A 40), (A 41), (A 42), (A 43), (A 44), (M 45), (A 230), af', aq', lv, ?_, e0.trans e2, n, tx, s, b, _, P, E, g, K, F, un, q, gs, Ks, m, R, mi, T, Fq, Sd, Et, Pl, G, Un, vO_up O, Mt, Im⟩
          unfold mX11_odds
          rw [if_neg c0, if_neg x, ec, if_pos rfl, li, if_neg (by decide)]
end SW
