section SW
variable {N : Nat} {I : Nat → Int32} {J : Nat → Int64} {B : Nat → Bool} {A : Nat → Nat → Int32} {M : Nat → Nat → Int64} {Q : Nat → QT}
theorem s_falls (h : vW N I J B A M Q) (hN : N < 1000) (Athing : Int32) : ∃ (x o0 o1 o2 : Int32) (o3 : Bool) (o4 o5 : Int64) (o6 o7 o8 o9 o10 : Int32) (o11 : Bool) (o12 o13 : Int64) (o14 o15 : Int32) (o16 o17 o18 o19 o20 o21 o22 o23 : Nat → Int32) (o24 : Nat → Int64) (o25 : Int32) (o26 o27 o28 : Nat → Int32) (o29 : Nat → Int64) (o30 o31 o32 : Int32) (o33 o34 : Nat → Int32) (p0 p1 p2 p3 : Int32) (p4 : Bool) (p5 p6 p7 p8 p9 p10 p11 p12 p13 p14 p15 : Nat → Int32) (p16 : Nat → Int64) (p17 p18 p19 p20 p21 : Nat → Int32), mX11_falls Athing (I 15) (I 1600) (A 23) (A 24) (A 25) (J 2609) (J 2610) (I 2611) (I 2612) (A 27) (A 28) (A 29) (A 30) (A 31) (A 32) (A 33) (A 34) (M 35) (I 4601) (I 4602) (I 4603) (B 4604) (J 4608) (J 4609) (I 4610) (I 4611) (I 4612) (I 4613) (I 4614) (B 4615) (J 4709) (J 4710) (I 4711) (I 4712) (A 48) (A 49) (A 50) (A 51) (A 52) (A 53) (A 54) (A 55) (M 56) (I 5702) (A 58) (A 59) (A 60) (M 61) (I 6702) (I 6703) (I 6704) (A 68) (A 69) = (x, o0, o1, o2, o3, o4, o5, o6, o7, o8, o9, o10, o11, o12, o13, o14, o15, o16, o17, o18, o19, o20, o21, o22, o23, o24, o25, o26, o27, o28, o29, o30, o31, o32, o33, o34) ∧ mX12_falls Athing (I 20013) (B 20042) (I 20064) (I 20065) (I 20066) (I 20067) (B 20068) (A 202) (A 211) (A 212) (A 213) (A 214) (A 223) (A 224) (A 225) (A 226) (A 227) (A 228) (A 229) (A 230) (A 231) (A 232) (A 233) (M 234) (A 235) (A 236) (A 237) (A 238) (A 239) = some (x, p0, p1, p2, p3, p4, p5, p6, p7, p8, p9, p10, p11, p12, p13, p14, p15, p16, p17, p18, p19, p20, p21) ∧ vW (N + 1) (wu (wu (wu (wu (wu (wu (wu (wu (wu (wu (wu (wu (wu (wu (wu (wu (wu (wu I 4601 o0) 4602 o1) 4603 o2) 4610 o6) 4611 o7) 4612 o8) 4613 o9) 4614 o10) 4711 o14) 4712 o15) 5702 o25) 6702 o30) 6703 o31) 6704 o32) 20064 p0) 20065 p1) 20066 p2) 20067 p3) (wu (wu (wu (wu J 4608 o4) 4609 o5) 4709 o12) 4710 o13) (wu (wu (wu B 4604 o3) 4615 o11) 20068 p4) (wu (wu (wu (wu (wu (wu (wu (wu (wu (wu (wu (wu (wu (wu (wu (wu (wu (wu (wu (wu (wu (wu (wu (wu (wu (wu (wu (wu (wu A 48 o16) 49 o17) 50 o18) 51 o19) 52 o20) 53 o21) 54 o22) 55 o23) 58 o26) 59 o27) 60 o28) 68 o33) 69 o34) 223 p5) 224 p6) 225 p7) 226 p8) 227 p9) 228 p10) 229 p11) 230 p12) 231 p13) 232 p14) 233 p15) 235 p17) 236 p18) 237 p19) 238 p20) 239 p21) (wu (wu (wu M 56 o24) 61 o29) 234 p16) Q := by
  obtain ⟨n, tx, s, b, U, P, E, g, K, F, un, q, gs, Ks, m, R, mi, T, Fq, Sd, Et, Pl, G, Un, O, Mt, Im⟩ := h
  have G0 := G
  have Pl0 := Pl
  have Un0 := Un
  obtain ⟨W, h8, Z, S, Y, D⟩ := G0
  obtain ⟨hb, eb, eh, p0, hP, hU99, cu, ru, ⟨H, hH, cH, rH⟩, ⟨mn, hmn, cm, rm, nm⟩, fC, fR, fE, fRE⟩ := Pl0
  obtain ⟨⟨hF, hn, hq⟩, ⟨un1, un2, un3, un4⟩, Ur, Uc⟩ := Un0
  subst hP
  obtain ⟨c, hc, ech, k1, k2, hk, hg2⟩ := O
  obtain ⟨et, ht⟩ := k_there W S Y Athing
  cases ec : mX10_isThere Athing (J 2609) with
  | true =>
    obtain ⟨t, h40, e, g0⟩ := ht ec
    subst e
    have u := vZ_no Z h40 g0
    obtain ⟨rn, fe, we, co, fu, so1, sz1, tr1, ca1, pl1, ag1, mk1, lk1, rt1, km1, kr1, rsk, ask, np, im, st, sT, e2, Yr⟩ := r_falls hb fR ru (by omega) W h8 h40 (decide_eq_true g0) S (I 20064) (I 20065) (I 20066) (I 20067) (B 20068) (M 234) (A 235) (A 236) (A 237) (A 238) (A 239)
    obtain ⟨a1, a2, a3, a4, a5, a6, a7, a8, a9, a10, a11, a12, m1, m2, m3, m4, n1, n2, n3, n4, n5, n6, n7, n8, n9, top, fc, sk, wa, ab, cn, fa, e1, oT⟩ := c_falls fC cu (by omega) W h8 Y hk h40 g0 (I 4601) (I 4602) (I 4603) (B 4604) (J 4608) (J 4609) (I 4610) (I 4611) (I 4612) (I 4613) (I 4614) (B 4615) (J 4709) (J 4710) (I 4711) (I 4712) (A 48) (A 49) (A 50) (A 51) (A 52) (A 53) (A 54) (A 55) (M 56) (I 5702) (A 58) (A 59) (A 60) (M 61)
    rw [eb, eh, decide_eq_true u]
    exact ⟨_, _, _, _, _, _, _, _, _, _, _, _, _, _, _, _, _, _, _, _, _, _, _, _, _, _, _, _, _, _, _, _, _, _, _, _, _, _, _, _, _, _, _, _, _, _, _, _, _, _, _, _, _, _, _, _, _, _, e1, e2, n, tx, s, b, _, P, E, g, K, F, un, q, gs, Ks, m, R, mi, T, Fq, Sd, Et, Pl, ⟨W, h8, Z, Yr 0 g K (by decide) S, Y, D⟩, ⟨⟨hF, hn, hq⟩, ⟨un1, un2, un3, un4⟩, vUr_y (v := 1) (by decide) Yr Ur, Uc⟩, ⟨c, by omega, ech, Or.inr ⟨c, Nat.le_refl _, ech⟩, k2, fun _ => ⟨rfl, rfl, oT⟩, hg2⟩, Mt, Im⟩
  | false =>
    refine ⟨-1, (I 4601), (I 4602), (I 4603), (B 4604), (J 4608), (J 4609), (I 4610), (I 4611), (I 4612), (I 4613), (I 4614), (B 4615), (J 4709), (J 4710), (I 4711), (I 4712), (A 48), (A 49), (A 50), (A 51), (A 52), (A 53), (A 54), (A 55), (M 56), (I 5702), (A 58), (A 59), (A 60), (M 61), (I 6702), (I 6703), (I 6704), (A 68), (A 69), (I 20064), (I 20065), (I 20066), (I 20067), (B 20068), (A 223), (A 224), (A 225), (A 226), (A 227), (A 228), (A 229), (A 230), (A 231), (A 232), (A 233), (M 234), (A 235), (A 236), (A 237), (A 238), (A 239), ?_, ?_, n, tx, s, b, _, P, E, g, K, F, un, q, gs, Ks, m, R, mi, T, Fq, Sd, Et, Pl, G, Un, ⟨c, by omega, ech, k1, k2, hk, hg2⟩, Mt, Im⟩
    · unfold mX11_falls
      rw [ec, if_neg (by decide)]
    · unfold mX12_falls
      rw [et, obind, ec, if_neg (by decide)]
theorem s_clean (h : vW N I J B A M Q) (hN : N < 1000) : ∃ (x o0 o1 o2 : Int32) (o3 : Bool) (o4 o5 : Int64) (o6 o7 o8 o9 o10 : Int32) (o11 : Bool) (o12 o13 : Int64) (o14 o15 : Int32) (o16 o17 o18 o19 o20 o21 o22 o23 : Nat → Int32) (o24 : Nat → Int64) (o25 : Int32) (o26 o27 o28 : Nat → Int32) (o29 : Nat → Int64) (o30 o31 o32 : Int32) (o33 o34 : Nat → Int32) (p0 p1 p2 p3 : Int32) (p4 : Bool) (p5 p6 p7 p8 p9 p10 p11 p12 p13 p14 p15 : Nat → Int32) (p16 : Nat → Int64) (p17 p18 p19 p20 p21 p22 p23 p24 : Nat → Int32), mX11_clean (I 15) (I 1600) (A 23) (A 24) (A 25) (J 2609) (J 2610) (I 2611) (I 2612) (A 27) (A 28) (A 29) (A 30) (A 31) (A 32) (A 33) (A 34) (M 35) (I 4601) (I 4602) (I 4603) (B 4604) (J 4608) (J 4609) (I 4610) (I 4611) (I 4612) (I 4613) (I 4614) (B 4615) (J 4709) (J 4710) (I 4711) (I 4712) (A 48) (A 49) (A 50) (A 51) (A 52) (A 53) (A 54) (A 55) (M 56) (I 5702) (A 58) (A 59) (A 60) (M 61) (I 6702) (I 6703) (I 6704) (A 68) (A 69) = (x, o0, o1, o2, o3, o4, o5, o6, o7, o8, o9, o10, o11, o12, o13, o14, o15, o16, o17, o18, o19, o20, o21, o22, o23, o24, o25, o26, o27, o28, o29, o30, o31, o32, o33, o34) ∧ mX12_clean (I 20013) (B 20042) (I 20064) (I 20065) (I 20066) (I 20067) (B 20068) (A 202) (A 211) (A 212) (A 213) (A 214) (A 223) (A 224) (A 225) (A 226) (A 227) (A 228) (A 229) (A 230) (A 231) (A 232) (A 233) (M 234) (A 235) (A 236) (A 237) (A 238) (A 239) (A 240) (A 241) (A 242) = some (x, p0, p1, p2, p3, p4, p5, p6, p7, p8, p9, p10, p11, p12, p13, p14, p15, p16, p17, p18, p19, p20, p21, p22, p23, p24) ∧ vW (N + 1) (wu (wu (wu (wu (wu (wu (wu (wu (wu (wu (wu (wu (wu (wu (wu (wu (wu (wu I 4601 o0) 4602 o1) 4603 o2) 4610 o6) 4611 o7) 4612 o8) 4613 o9) 4614 o10) 4711 o14) 4712 o15) 5702 o25) 6702 o30) 6703 o31) 6704 o32) 20064 p0) 20065 p1) 20066 p2) 20067 p3) (wu (wu (wu (wu J 4608 o4) 4609 o5) 4709 o12) 4710 o13) (wu (wu (wu B 4604 o3) 4615 o11) 20068 p4) (wu (wu (wu (wu (wu (wu (wu (wu (wu (wu (wu (wu (wu (wu (wu (wu (wu (wu (wu (wu (wu (wu (wu (wu (wu (wu (wu (wu (wu (wu (wu (wu A 48 o16) 49 o17) 50 o18) 51 o19) 52 o20) 53 o21) 54 o22) 55 o23) 58 o26) 59 o27) 60 o28) 68 o33) 69 o34) 223 p5) 224 p6) 225 p7) 226 p8) 227 p9) 228 p10) 229 p11) 230 p12) 231 p13) 232 p14) 233 p15) 235 p17) 236 p18) 237 p19) 238 p20) 239 p21) 240 p22) 241 p23) 242 p24) (wu (wu (wu M 56 o24) 61 o29) 234 p16) Q := by
  obtain ⟨n, tx, s, b, U, P, E, g, K, F, un, q, gs, Ks, m, R, mi, T, Fq, Sd, Et, Pl, G, Un, O, Mt, Im⟩ := h
  have G0 := G
  have Pl0 := Pl
  have Un0 := Un
  obtain ⟨W, h8, Z, S, Y, D⟩ := G0
  obtain ⟨hb, eb, eh, p0, hP, hU99, cu, ru, ⟨H, hH, cH, rH⟩, ⟨mn, hmn, cm, rm, nm⟩, fC, fR, fE, fRE⟩ := Pl0
  obtain ⟨⟨hF, hn, hq⟩, ⟨un1, un2, un3, un4⟩, Ur, Uc⟩ := Un0
  subst hP
  obtain ⟨c, hc, ech, k1, k2, hk, hg2⟩ := O
  obtain ⟨a1, a2, a3, a4, a5, a6, a7, a8, a9, a10, a11, a12, m1, m2, m3, m4, n1, n2, n3, n4, n5, n6, n7, n8, n9, top, fc, sk, wa, ab, cn, fa, e1, oT⟩ := c_clean fC cu (by omega) W h8 Y hk (I 4601) (I 4602) (I 4603) (B 4604) (J 4608) (J 4609) (I 4610) (I 4611) (I 4612) (I 4613) (I 4614) (B 4615) (J 4709) (J 4710) (I 4711) (I 4712) (A 48) (A 49) (A 50) (A 51) (A 52) (A 53) (A 54) (A 55) (M 56) (I 5702) (A 58) (A 59) (A 60) (M 61)
  by_cases u : 0 < P.2.2
  · obtain ⟨rn, fe, we, co, fu, so1, sz1, tr1, ca1, pl1, ag1, mk1, lk1, rt1, km1, kr1, rsk, ask, np, im, st, sT, af, aq, ir, e2, Yr⟩ := r_cleanT hb fR ru (by omega) W h8 S (I 20064) (I 20065) (I 20066) (I 20067) (B 20068) (M 234) (A 235) (A 236) (A 237) (A 238) (A 239) (A 240) (A 241) (A 242)
    rw [eb, eh, decide_eq_true u]
    exact ⟨_, _, _, _, _, _, _, _, _, _, _, _, _, _, _, _, _, _, _, _, _, _, _, _, _, _, _, _, _, _, _, _, _, _, _, _, _, _, _, _, _, _, _, _, _, _, _, _, _, _, _, _, _, _, _, _, _, _, _, _, _, e1, e2, n, tx, s, b, _, P, E, g, K, F, un, q, gs, Ks, m, R, mi, T, Fq, Sd, Et, Pl, ⟨W, h8, Z, Yr 0 g K (by decide) S, Y, D⟩, ⟨⟨hF, hn, hq⟩, ⟨un1, un2, un3, un4⟩, vUr_y (v := 1) (by decide) Yr Ur, Uc⟩, ⟨c, by omega, ech, Or.inr ⟨c, Nat.le_refl _, ech⟩, k2, fun _ => ⟨rfl, rfl, oT⟩, hg2⟩, Mt, Im⟩
  · have z : gCl0 P g (gR g) = 0 := by
      unfold gCl0
      rw [gCn_none (Z (by omega)), if_pos rfl]
    rw [z] at e1
    refine ⟨_, _, _, _, _, _, _, _, _, _, _, _, _, _, _, _, _, _, _, _, _, _, _, _, _, _, _, _, _, _, _, _, _, _, _, _, (I 20064), (I 20065), (I 20066), (I 20067), (B 20068), (A 223), (A 224), (A 225), (A 226), (A 227), (A 228), (A 229), (A 230), (A 231), (A 232), (A 233), (M 234), (A 235), (A 236), (A 237), (A 238), (A 239), (A 240), (A 241), (A 242), e1, ?_, n, tx, s, b, _, P, E, g, K, F, un, q, gs, Ks, m, R, mi, T, Fq, Sd, Et, Pl, G, Un, ⟨c, by omega, ech, Or.inr ⟨c, Nat.le_refl _, ech⟩, k2, fun _ => ⟨z.symm, rfl, oT⟩, hg2⟩, Mt, Im⟩
    · unfold mX12_clean
      rw [eh, decide_eq_false u, if_neg (by decide)]
theorem s_later (h : vW N I J B A M Q) (hN : N < 1000) (An Awhat : Int32) : ∃ (x o0 o1 o2 : Int32) (o3 : Bool) (o4 o5 : Int64) (o6 o7 o8 o9 o10 : Int32) (o11 : Bool) (o12 o13 : Int64) (o14 o15 : Int32) (o16 o17 o18 o19 o20 o21 o22 o23 : Nat → Int32) (o24 : Nat → Int64) (o25 : Int32) (o26 o27 o28 : Nat → Int32) (o29 : Nat → Int64) (o30 o31 o32 : Int32) (o33 o34 : Nat → Int32) (p0 p1 p2 p3 : Int32) (p4 : Bool) (p5 p6 p7 p8 p9 p10 p11 p12 p13 p14 p15 : Nat → Int32) (p16 : Nat → Int64) (p17 p18 p19 p20 p21 : Nat → Int32), mX11_later An Awhat (I 15) (I 1600) (A 23) (A 24) (A 25) (J 2609) (J 2610) (I 2611) (I 2612) (A 27) (A 28) (A 29) (A 30) (A 31) (A 32) (A 33) (A 34) (M 35) (I 4601) (I 4602) (I 4603) (B 4604) (J 4608) (J 4609) (I 4610) (I 4611) (I 4612) (I 4613) (I 4614) (B 4615) (J 4709) (J 4710) (I 4711) (I 4712) (A 48) (A 49) (A 50) (A 51) (A 52) (A 53) (A 54) (A 55) (M 56) (I 5702) (A 58) (A 59) (A 60) (M 61) (I 6702) (I 6703) (I 6704) (A 68) (A 69) = (x, o0, o1, o2, o3, o4, o5, o6, o7, o8, o9, o10, o11, o12, o13, o14, o15, o16, o17, o18, o19, o20, o21, o22, o23, o24, o25, o26, o27, o28, o29, o30, o31, o32, o33, o34) ∧ mX12_later An Awhat (I 20013) (B 20042) (I 20064) (I 20065) (I 20066) (I 20067) (B 20068) (A 202) (A 211) (A 212) (A 213) (A 214) (A 223) (A 224) (A 225) (A 226) (A 227) (A 228) (A 229) (A 230) (A 231) (A 232) (A 233) (M 234) (A 235) (A 236) (A 237) (A 238) (A 239) = some (x, p0, p1, p2, p3, p4, p5, p6, p7, p8, p9, p10, p11, p12, p13, p14, p15, p16, p17, p18, p19, p20, p21) ∧ vW (N + 1) (wu (wu (wu (wu (wu (wu (wu (wu (wu (wu (wu (wu (wu (wu (wu (wu (wu (wu I 4601 o0) 4602 o1) 4603 o2) 4610 o6) 4611 o7) 4612 o8) 4613 o9) 4614 o10) 4711 o14) 4712 o15) 5702 o25) 6702 o30) 6703 o31) 6704 o32) 20064 p0) 20065 p1) 20066 p2) 20067 p3) (wu (wu (wu (wu J 4608 o4) 4609 o5) 4709 o12) 4710 o13) (wu (wu (wu B 4604 o3) 4615 o11) 20068 p4) (wu (wu (wu (wu (wu (wu (wu (wu (wu (wu (wu (wu (wu (wu (wu (wu (wu (wu (wu (wu (wu (wu (wu (wu (wu (wu (wu (wu (wu A 48 o16) 49 o17) 50 o18) 51 o19) 52 o20) 53 o21) 54 o22) 55 o23) 58 o26) 59 o27) 60 o28) 68 o33) 69 o34) 223 p5) 224 p6) 225 p7) 226 p8) 227 p9) 228 p10) 229 p11) 230 p12) 231 p13) 232 p14) 233 p15) 235 p17) 236 p18) 237 p19) 238 p20) 239 p21) (wu (wu (wu M 56 o24) 61 o29) 234 p16) Q := by
  obtain ⟨n, tx, s, b, U, P, E, g, K, F, un, q, gs, Ks, m, R, mi, T, Fq, Sd, Et, Pl, G, Un, O, Mt, Im⟩ := h
  have G0 := G
  have Pl0 := Pl
  have Un0 := Un
  obtain ⟨W, h8, Z, S, Y, D⟩ := G0
  obtain ⟨hb, eb, eh, p0, hP, hU99, cu, ru, ⟨H, hH, cH, rH⟩, ⟨mn, hmn, cm, rm, nm⟩, fC, fR, fE, fRE⟩ := Pl0
  obtain ⟨⟨hF, hn, hq⟩, ⟨un1, un2, un3, un4⟩, Ur, Uc⟩ := Un0
  subst hP
  obtain ⟨c, hc, ech, k1, k2, hk, hg2⟩ := O
  by_cases u : 0 < P.2.2
  · have hh : mX11_hasHeap (nI P.2.2) = true := if_pos (show (0 : Int32) < nI P.2.2 from nI_lt (a := 0) u (by omega))
    rcases k_range An (N := 61) (by decide) (by decide) with ⟨o, z⟩ | ⟨a, ha, rfl, z⟩
    · refine ⟨-1, (I 4601), (I 4602), (I 4603), (B 4604), (J 4608), (J 4609), (I 4610), (I 4611), (I 4612), (I 4613), (I 4614), (B 4615), (J 4709), (J 4710), (I 4711), (I 4712), (A 48), (A 49), (A 50), (A 51), (A 52), (A 53), (A 54), (A 55), (M 56), (I 5702), (A 58), (A 59), (A 60), (M 61), (I 6702), (I 6703), (I 6704), (A 68), (A 69), (I 20064), (I 20065), (I 20066), (I 20067), (B 20068), (A 223), (A 224), (A 225), (A 226), (A 227), (A 228), (A 229), (A 230), (A 231), (A 232), (A 233), (M 234), (A 235), (A 236), (A 237), (A 238), (A 239), ?_, ?_, n, tx, s, b, _, P, E, g, K, F, un, q, gs, Ks, m, R, mi, T, Fq, Sd, Et, Pl, G, Un, ⟨c, by omega, ech, k1, k2, hk, hg2⟩, Mt, Im⟩
      · unfold mX11_later
        rw [cu, hh, if_pos rfl]
        by_cases a0 : An < 0
        · rw [if_pos a0]
        · rw [if_neg a0, if_pos (show (60 : Int32) < An from gt_out (N := 60) o a0 (by decide))]
      · unfold mX12_later mX12_isAhead
        rw [eh, decide_eq_true u, if_pos rfl, show (60 : Int32) = nI (61 - 1) from rfl, z, if_neg (show ¬ (false = true) by decide), if_neg (show ¬ (false = true) by decide)]
    · obtain ⟨rn, fe, we, co, fu, so1, sz1, tr1, ca1, pl1, ag1, mk1, lk1, rt1, km1, kr1, rsk, ask, np, im, st, sT, e2, Yr⟩ := r_later hb fR ru (by omega) W h8 (n := a) (by omega) Awhat S (I 20064) (I 20065) (I 20066) (I 20067) (B 20068) (M 234) (A 235) (A 236) (A 237) (A 238) (A 239)
      have gy : vG P.2.2 g K I J (wu (wu (wu (wu (wu (wu (wu (wu (wu (wu (wu A 223 so1) 224 sz1) 225 tr1) 226 ca1) 227 pl1) 228 ag1) 229 mk1) 230 lk1) 231 rt1) 232 km1) 233 kr1) M := ⟨W, h8, Z, Yr 0 g K (by decide) S, Y, D⟩
      rcases k_range Awhat (N := 5) (by decide) (by decide) with ⟨o, -⟩ | ⟨j, hj, rfl, -⟩
      · have v : (if a ≤ gR g then gLt P g a Awhat else -1) = -1 := by
          rw [gLt_out o]
          exact ite_self _
        rw [v] at e2
        rw [eb, eh, decide_eq_true u]
        refine ⟨-1, (I 4601), (I 4602), (I 4603), (B 4604), (J 4608), (J 4609), (I 4610), (I 4611), (I 4612), (I 4613), (I 4614), (B 4615), (J 4709), (J 4710), (I 4711), (I 4712), (A 48), (A 49), (A 50), (A 51), (A 52), (A 53), (A 54), (A 55), (M 56), (I 5702), (A 58), (A 59), (A 60), (M 61), (I 6702), (I 6703), (I 6704), (A 68), (A 69), _, _, _, _, _, _, _, _, _, _, _, _, _, _, _, _, _, _, _, _, _, _, ?_, e2, n, tx, s, b, _, P, E, g, K, F, un, q, gs, Ks, m, R, mi, T, Fq, Sd, Et, Pl, ⟨W, h8, Z, Yr 0 g K (by decide) S, Y, D⟩, ⟨⟨hF, hn, hq⟩, ⟨un1, un2, un3, un4⟩, vUr_y (v := 1) (by decide) Yr Ur, Uc⟩, ⟨c, by omega, ech, k1, k2, hk, hg2⟩, Mt, Im⟩
        unfold mX11_later
        rw [cu, hh, if_pos rfl, if_neg (nI_pos (by omega)), if_neg (show ¬ (60 : Int32) < nI a from nI_nlt (b := a) (a := 60) (by omega) (by decide))]
        by_cases w0 : Awhat < 0
        · rw [if_pos w0]
        · rw [if_neg w0, if_neg (show ¬ Awhat < (5 : Int32) from o.resolve_left w0)]
      · obtain ⟨a1, a2, a3, a4, a5, a6, a7, a8, a9, a10, a11, a12, m1, m2, m3, m4, n1, n2, n3, n4, n5, n6, n7, n8, n9, top, fc, sk, wa, ab, cn, fa, e1, oT⟩ := c_later fC cu (by omega) W h8 Y hk u (n := a) (by omega) hj (I 4601) (I 4602) (I 4603) (B 4604) (J 4608) (J 4609) (I 4610) (I 4611) (I 4612) (I 4613) (I 4614) (B 4615) (J 4709) (J 4710) (I 4711) (I 4712) (A 48) (A 49) (A 50) (A 51) (A 52) (A 53) (A 54) (A 55) (M 56) (I 5702) (A 58) (A 59) (A 60) (M 61)
        rw [eb, eh, decide_eq_true u]
        exact ⟨_, _, _, _, _, _, _, _, _, _, _, _, _, _, _, _, _, _, _, _, _, _, _, _, _, _, _, _, _, _, _, _, _, _, _, _, _, _, _, _, _, _, _, _, _, _, _, _, _, _, _, _, _, _, _, _, _, _, e1, e2, n, tx, s, b, _, P, E, g, K, F, un, q, gs, Ks, m, R, mi, T, Fq, Sd, Et, Pl, ⟨W, h8, Z, Yr 0 g K (by decide) S, Y, D⟩, ⟨⟨hF, hn, hq⟩, ⟨un1, un2, un3, un4⟩, vUr_y (v := 1) (by decide) Yr Ur, Uc⟩, ⟨c, by omega, ech, Or.inr ⟨c, Nat.le_refl _, ech⟩, k2, fun _ => ⟨rfl, rfl, oT⟩, hg2⟩, Mt, Im⟩
  · have u0 : P.2.2 = 0 := by omega
    refine ⟨-1, (I 4601), (I 4602), (I 4603), (B 4604), (J 4608), (J 4609), (I 4610), (I 4611), (I 4612), (I 4613), (I 4614), (B 4615), (J 4709), (J 4710), (I 4711), (I 4712), (A 48), (A 49), (A 50), (A 51), (A 52), (A 53), (A 54), (A 55), (M 56), (I 5702), (A 58), (A 59), (A 60), (M 61), (I 6702), (I 6703), (I 6704), (A 68), (A 69), (I 20064), (I 20065), (I 20066), (I 20067), (B 20068), (A 223), (A 224), (A 225), (A 226), (A 227), (A 228), (A 229), (A 230), (A 231), (A 232), (A 233), (M 234), (A 235), (A 236), (A 237), (A 238), (A 239), ?_, ?_, n, tx, s, b, _, P, E, g, K, F, un, q, gs, Ks, m, R, mi, T, Fq, Sd, Et, Pl, G, Un, ⟨c, by omega, ech, k1, k2, hk, hg2⟩, Mt, Im⟩
    · unfold mX11_later
      rw [cu, u0, show mX11_hasHeap (nI 0) = false from rfl, if_neg (by decide)]
    · unfold mX12_later mX12_isAhead
      rw [eh, decide_eq_false u, if_neg (show ¬ (false = true) by decide), if_neg (show ¬ (false = true) by decide)]
end SW
