section SW
variable {N : Nat} {I : Nat → Int32} {J : Nat → Int64} {B : Nat → Bool} {A : Nat → Nat → Int32} {M : Nat → Nat → Int64} {Q : Nat → QT}
theorem s_sizes (h : vW N I J B A M Q) (hN : N < 1000) (Athing Ak : Int32) : ∃ (x o0 o1 o2 : Int32) (o3 : Bool) (o4 o5 : Int64) (o6 o7 o8 o9 o10 : Int32) (o11 : Bool) (o12 o13 : Int64) (o14 o15 : Int32) (o16 o17 o18 o19 o20 o21 o22 o23 : Nat → Int32) (o24 : Nat → Int64) (o25 : Int32) (o26 o27 o28 : Nat → Int32) (o29 : Nat → Int64) (o30 o31 o32 o33 : Int32) (o34 : Nat → Int32) (p0 p1 p2 p3 : Int32) (p4 : Bool) (p5 p6 p7 p8 p9 p10 p11 p12 p13 p14 p15 : Nat → Int32) (p16 : Nat → Int64) (p17 p18 p19 p20 p21 p22 p23 : Nat → Int32), mX11_sizes Athing Ak (I 15) (I 1600) (A 23) (A 24) (A 25) (J 2609) (J 2610) (I 2611) (I 2612) (A 27) (A 28) (A 29) (A 30) (A 31) (A 32) (A 33) (A 34) (M 35) (I 4601) (I 4602) (I 4603) (B 4604) (J 4608) (J 4609) (I 4610) (I 4611) (I 4612) (I 4613) (I 4614) (B 4615) (J 4709) (J 4710) (I 4711) (I 4712) (A 48) (A 49) (A 50) (A 51) (A 52) (A 53) (A 54) (A 55) (M 56) (I 5702) (A 58) (A 59) (A 60) (M 61) (I 7000) (I 7005) (I 7006) (I 7007) (I 7008) (A 72) (A 73) = (x, o0, o1, o2, o3, o4, o5, o6, o7, o8, o9, o10, o11, o12, o13, o14, o15, o16, o17, o18, o19, o20, o21, o22, o23, o24, o25, o26, o27, o28, o29, o30, o31, o32, o33, o34) ∧ mX12_sizes Athing Ak (I 20013) (B 20042) (I 20064) (I 20065) (I 20066) (I 20067) (B 20068) (I 20073) (A 202) (A 211) (A 212) (A 213) (A 214) (A 223) (A 224) (A 225) (A 226) (A 227) (A 228) (A 229) (A 230) (A 231) (A 232) (A 233) (M 234) (A 235) (A 236) (A 237) (A 238) (A 239) (A 244) (A 245) (A 246) (A 247) (A 248) = some (x, p0, p1, p2, p3, p4, p5, p6, p7, p8, p9, p10, p11, p12, p13, p14, p15, p16, p17, p18, p19, p20, p21, p22, p23) ∧ vW (N + 1) (wu (wu (wu (wu (wu (wu (wu (wu (wu (wu (wu (wu (wu (wu (wu (wu (wu (wu (wu I 4601 o0) 4602 o1) 4603 o2) 4610 o6) 4611 o7) 4612 o8) 4613 o9) 4614 o10) 4711 o14) 4712 o15) 5702 o25) 7005 o30) 7006 o31) 7007 o32) 7008 o33) 20064 p0) 20065 p1) 20066 p2) 20067 p3) (wu (wu (wu (wu J 4608 o4) 4609 o5) 4709 o12) 4710 o13) (wu (wu (wu B 4604 o3) 4615 o11) 20068 p4) (wu (wu (wu (wu (wu (wu (wu (wu (wu (wu (wu (wu (wu (wu (wu (wu (wu (wu (wu (wu (wu (wu (wu (wu (wu (wu (wu (wu (wu (wu A 48 o16) 49 o17) 50 o18) 51 o19) 52 o20) 53 o21) 54 o22) 55 o23) 58 o26) 59 o27) 60 o28) 73 o34) 223 p5) 224 p6) 225 p7) 226 p8) 227 p9) 228 p10) 229 p11) 230 p12) 231 p13) 232 p14) 233 p15) 235 p17) 236 p18) 237 p19) 238 p20) 239 p21) 247 p22) 248 p23) (wu (wu (wu M 56 o24) 61 o29) 234 p16) Q := by
  obtain ⟨n, tx, s, b, U, P, E, g, K, F, un, q, gs, Ks, m, R, mi, T, Fq, Sd, Et, Pl, G, Un, O, Mt, Im⟩ := h
  have G0 := G
  have Pl0 := Pl
  have Un0 := Un
  obtain ⟨W, h8, Z, S, Y, D⟩ := G0
  obtain ⟨hb, eb, eh, p0, hP, hU99, cu, ru, ⟨H, hH, cH, rH⟩, ⟨mn, hmn, cm, rm, nm⟩, fC, fR, fE, fRE⟩ := Pl0
  obtain ⟨⟨hF, hn, hq⟩, ⟨un1, un2, un3, un4⟩, Ur, Uc⟩ := Un0
  subst hP
  obtain ⟨c, hc, ech, k1, k2, hk, hg2⟩ := O
  obtain ⟨et, ht⟩ := k_there W S Y Athing
  cases ec : mX10_isThere Athing (J 2609) with
  | true =>
    obtain ⟨t, h40, e, g0⟩ := ht ec
    subst e
    have u := vZ_no Z h40 g0
    by_cases kk : Ak < -1
    · refine ⟨-1, (I 4601), (I 4602), (I 4603), (B 4604), (J 4608), (J 4609), (I 4610), (I 4611), (I 4612), (I 4613), (I 4614), (B 4615), (J 4709), (J 4710), (I 4711), (I 4712), (A 48), (A 49), (A 50), (A 51), (A 52), (A 53), (A 54), (A 55), (M 56), (I 5702), (A 58), (A 59), (A 60), (M 61), (I 7005), (I 7006), (I 7007), (I 7008), (A 73), (I 20064), (I 20065), (I 20066), (I 20067), (B 20068), (A 223), (A 224), (A 225), (A 226), (A 227), (A 228), (A 229), (A 230), (A 231), (A 232), (A 233), (M 234), (A 235), (A 236), (A 237), (A 238), (A 239), (A 247), (A 248), ?_, ?_, n, tx, s, b, _, P, E, g, K, F, un, q, gs, Ks, m, R, mi, T, Fq, Sd, Et, Pl, G, Un, ⟨c, by omega, ech, k1, k2, hk, hg2⟩, Mt, Im⟩
      · unfold mX11_sizes
        rw [ec, if_pos rfl, if_pos kk]
      · unfold mX12_sizes
        rw [et, obind, ec, if_pos rfl, if_pos kk]
    · obtain ⟨rn, fe, we, co, fu, so1, sz1, tr1, ca1, pl1, ag1, mk1, lk1, rt1, km1, kr1, rsk, ask, np, im, st, sT, il, mb, e2, -, Yr⟩ := r_sizes hb fR ru hU99 W h8 Mt.1 Mt.2.2 h40 g0 S kk (I 20064) (I 20065) (I 20066) (I 20067) (B 20068) (M 234) (A 235) (A 236) (A 237) (A 238) (A 239) (A 247) (A 248)
      obtain ⟨D1, a1, a2, a3, a4, a5, a6, a7, a8, a9, a10, a11, a12, m1, m2, m3, m4, n1, n2, n3, n4, n5, n6, n7, n8, n9, top, fc, sk, wa, ab, cn, e1, hD1, g2⟩ := c_sizes fC cu hU99 W h8 Mt.1 Mt.2.1 h40 g0 Y (hg2 t h40) kk (I 4601) (I 4602) (I 4603) (B 4604) (J 4608) (J 4609) (I 4610) (I 4611) (I 4612) (I 4613) (I 4614) (B 4615) (J 4709) (J 4710) (I 4711) (I 4712) (A 48) (A 49) (A 50) (A 51) (A 52) (A 53) (A 54) (A 55) (M 56) (I 5702) (A 58) (A 59) (A 60) (M 61)
      rw [eb, eh, decide_eq_true u]
      exact ⟨_, _, _, _, _, _, _, _, _, _, _, _, _, _, _, _, _, _, _, _, _, _, _, _, _, _, _, _, _, _, _, _, _, _, _, _, _, _, _, _, _, _, _, _, _, _, _, _, _, _, _, _, _, _, _, _, _, _, _, _, e1, e2, n, tx, s, b, _, P, E, g, K, F, un, q, gs, Ks, m, R, mi, T, Fq, Sd, Et, Pl, ⟨W, h8, Z, Yr 0 g K (by decide) S, Y, D⟩, ⟨⟨hF, hn, hq⟩, ⟨un1, un2, un3, un4⟩, vUr_y (v := 1) (by decide) Yr Ur, Uc⟩, ⟨c, by omega, ech, k1, Or.inr ⟨c, Nat.le_refl _, ech⟩, hk, fun t1 h1 _ et1 => ⟨D1, rfl, hD1, rfl, gT2_eq g2 ((nI_eq (by omega) (by omega)).mp et1)⟩⟩, Mt, Im⟩
  | false =>
    refine ⟨-1, (I 4601), (I 4602), (I 4603), (B 4604), (J 4608), (J 4609), (I 4610), (I 4611), (I 4612), (I 4613), (I 4614), (B 4615), (J 4709), (J 4710), (I 4711), (I 4712), (A 48), (A 49), (A 50), (A 51), (A 52), (A 53), (A 54), (A 55), (M 56), (I 5702), (A 58), (A 59), (A 60), (M 61), (I 7005), (I 7006), (I 7007), (I 7008), (A 73), (I 20064), (I 20065), (I 20066), (I 20067), (B 20068), (A 223), (A 224), (A 225), (A 226), (A 227), (A 228), (A 229), (A 230), (A 231), (A 232), (A 233), (M 234), (A 235), (A 236), (A 237), (A 238), (A 239), (A 247), (A 248), ?_, ?_, n, tx, s, b, _, P, E, g, K, F, un, q, gs, Ks, m, R, mi, T, Fq, Sd, Et, Pl, G, Un, ⟨c, by omega, ech, k1, k2, hk, hg2⟩, Mt, Im⟩
    · unfold mX11_sizes
      rw [ec, if_neg (by decide)]
    · unfold mX12_sizes
      rw [et, obind, ec, if_neg (by decide)]
theorem s_tells (h : vW N I J B A M Q) (hN : N < 1000) (Athing Awhat : Int32) : ∃ (x o0 o1 o2 : Int32) (o3 : Bool) (o4 o5 : Int64) (o6 o7 o8 o9 o10 : Int32) (o11 : Bool) (o12 o13 : Int64) (o14 o15 : Int32) (o16 o17 o18 o19 o20 o21 o22 o23 : Nat → Int32) (o24 : Nat → Int64) (o25 : Int32) (o26 o27 o28 : Nat → Int32) (o29 : Nat → Int64) (o30 o31 o32 o33 : Int32) (o34 o35 o36 : Nat → Int32) (p0 p1 p2 p3 : Int32) (p4 : Bool) (p5 p6 p7 p8 p9 p10 p11 p12 p13 p14 p15 : Nat → Int32) (p16 : Nat → Int64) (p17 p18 p19 p20 p21 p22 p23 p24 : Nat → Int32), mX11_tells Athing Awhat (I 15) (I 1600) (A 23) (A 24) (A 25) (J 2609) (J 2610) (I 2611) (I 2612) (A 27) (A 28) (A 29) (A 30) (A 31) (A 32) (A 33) (A 34) (M 35) (I 4601) (I 4602) (I 4603) (B 4604) (J 4608) (J 4609) (I 4610) (I 4611) (I 4612) (I 4613) (I 4614) (B 4615) (J 4709) (J 4710) (I 4711) (I 4712) (A 48) (A 49) (A 50) (A 51) (A 52) (A 53) (A 54) (A 55) (M 56) (I 5702) (A 58) (A 59) (A 60) (M 61) (I 7000) (I 7005) (I 7006) (I 7007) (I 7008) (A 71) (A 72) (A 73) (A 74) = (x, o0, o1, o2, o3, o4, o5, o6, o7, o8, o9, o10, o11, o12, o13, o14, o15, o16, o17, o18, o19, o20, o21, o22, o23, o24, o25, o26, o27, o28, o29, o30, o31, o32, o33, o34, o35, o36) ∧ mX12_tells Athing Awhat (I 20013) (B 20042) (I 20064) (I 20065) (I 20066) (I 20067) (B 20068) (I 20073) (A 202) (A 211) (A 212) (A 213) (A 214) (A 223) (A 224) (A 225) (A 226) (A 227) (A 228) (A 229) (A 230) (A 231) (A 232) (A 233) (M 234) (A 235) (A 236) (A 237) (A 238) (A 239) (A 244) (A 245) (A 246) (A 247) (A 248) (A 249) = some (x, p0, p1, p2, p3, p4, p5, p6, p7, p8, p9, p10, p11, p12, p13, p14, p15, p16, p17, p18, p19, p20, p21, p22, p23, p24) ∧ vW (N + 1) (wu (wu (wu (wu (wu (wu (wu (wu (wu (wu (wu (wu (wu (wu (wu (wu (wu (wu (wu I 4601 o0) 4602 o1) 4603 o2) 4610 o6) 4611 o7) 4612 o8) 4613 o9) 4614 o10) 4711 o14) 4712 o15) 5702 o25) 7005 o30) 7006 o31) 7007 o32) 7008 o33) 20064 p0) 20065 p1) 20066 p2) 20067 p3) (wu (wu (wu (wu J 4608 o4) 4609 o5) 4709 o12) 4710 o13) (wu (wu (wu B 4604 o3) 4615 o11) 20068 p4) (wu (wu (wu (wu (wu (wu (wu (wu (wu (wu (wu (wu (wu (wu (wu (wu (wu (wu (wu (wu (wu (wu (wu (wu (wu (wu (wu (wu (wu (wu (wu (wu (wu A 48 o16) 49 o17) 50 o18) 51 o19) 52 o20) 53 o21) 54 o22) 55 o23) 58 o26) 59 o27) 60 o28) 71 o34) 73 o35) 74 o36) 223 p5) 224 p6) 225 p7) 226 p8) 227 p9) 228 p10) 229 p11) 230 p12) 231 p13) 232 p14) 233 p15) 235 p17) 236 p18) 237 p19) 238 p20) 239 p21) 247 p22) 248 p23) 249 p24) (wu (wu (wu M 56 o24) 61 o29) 234 p16) Q := by
  obtain ⟨n, tx, s, b, U, P, E, g, K, F, un, q, gs, Ks, m, R, mi, T, Fq, Sd, Et, Pl, G, Un, O, Mt, Im⟩ := h
  have G0 := G
  have Pl0 := Pl
  have Un0 := Un
  obtain ⟨W, h8, Z, S, Y, D⟩ := G0
  obtain ⟨hb, eb, eh, p0, hP, hU99, cu, ru, ⟨H, hH, cH, rH⟩, ⟨mn, hmn, cm, rm, nm⟩, fC, fR, fE, fRE⟩ := Pl0
  obtain ⟨⟨hF, hn, hq⟩, ⟨un1, un2, un3, un4⟩, Ur, Uc⟩ := Un0
  subst hP
  obtain ⟨c, hc, ech, k1, k2, hk, hg2⟩ := O
  obtain ⟨et, ht⟩ := k_there W S Y Athing
  cases ec : mX10_isThere Athing (J 2609) with
  | true =>
    obtain ⟨t, h40, e, g0⟩ := ht ec
    subst e
    have u := vZ_no Z h40 g0
    rcases k_range Awhat (N := 3) (by decide) (by decide) with ⟨o, z⟩ | ⟨w, hw, rfl, z⟩
    · refine ⟨-1, (I 4601), (I 4602), (I 4603), (B 4604), (J 4608), (J 4609), (I 4610), (I 4611), (I 4612), (I 4613), (I 4614), (B 4615), (J 4709), (J 4710), (I 4711), (I 4712), (A 48), (A 49), (A 50), (A 51), (A 52), (A 53), (A 54), (A 55), (M 56), (I 5702), (A 58), (A 59), (A 60), (M 61), (I 7005), (I 7006), (I 7007), (I 7008), (A 71), (A 73), (A 74), (I 20064), (I 20065), (I 20066), (I 20067), (B 20068), (A 223), (A 224), (A 225), (A 226), (A 227), (A 228), (A 229), (A 230), (A 231), (A 232), (A 233), (M 234), (A 235), (A 236), (A 237), (A 238), (A 239), (A 247), (A 248), (A 249), ?_, ?_, n, tx, s, b, _, P, E, g, K, F, un, q, gs, Ks, m, R, mi, T, Fq, Sd, Et, Pl, G, Un, ⟨c, by omega, ech, k1, k2, hk, hg2⟩, Mt, Im⟩
      · unfold mX11_tells
        rw [ec, if_pos rfl]
        by_cases a0 : Awhat < 0
        · rw [if_pos a0]
        · rw [if_neg a0, if_pos (show (2 : Int32) < Awhat from gt_out (N := 2) o a0 (by decide))]
      · unfold mX12_tells
        rw [et, obind, ec, if_pos rfl, show (2 : Int32) = nI (3 - 1) from rfl, z, if_neg (by decide)]
    · obtain ⟨rn, fe, we, co, fu, so1, sz1, tr1, ca1, pl1, ag1, mk1, lk1, rt1, km1, kr1, rsk, ask, np, im, st, sT, il, mb, many, e2, Yr⟩ := r_tells hb fR ru hU99 W h8 Mt.1 Mt.2.2 h40 g0 S (w := w) (by omega) (I 20064) (I 20065) (I 20066) (I 20067) (B 20068) (M 234) (A 235) (A 236) (A 237) (A 238) (A 239) (A 247) (A 248) (A 249)
      obtain ⟨D1, a1, a2, a3, a4, a5, a6, a7, a8, a9, a10, a11, a12, m1, m2, m3, m4, n1, n2, n3, n4, n5, n6, n7, n8, n9, top, fc, sk, wa, ab, tel, cn, tal, e1, hD1, g2⟩ := c_tells fC cu hU99 W h8 Mt.1 Mt.2.1 h40 g0 Y (hg2 t h40) (w := w) (by omega) (I 4601) (I 4602) (I 4603) (B 4604) (J 4608) (J 4609) (I 4610) (I 4611) (I 4612) (I 4613) (I 4614) (B 4615) (J 4709) (J 4710) (I 4711) (I 4712) (A 48) (A 49) (A 50) (A 51) (A 52) (A 53) (A 54) (A 55) (M 56) (I 5702) (A 58) (A 59) (A 60) (M 61) (A 71) (A 74)
      rw [eb, eh, decide_eq_true u]
      exact ⟨_, _, _, _, _, _, _, _, _, _, _, _, _, _, _, _, _, _, _, _, _, _, _, _, _, _, _, _, _, _, _, _, _, _, _, _, _, _, _, _, _, _, _, _, _, _, _, _, _, _, _, _, _, _, _, _, _, _, _, _, _, _, _, e1, e2, n, tx, s, b, _, P, E, g, K, F, un, q, gs, Ks, m, R, mi, T, Fq, Sd, Et, Pl, ⟨W, h8, Z, Yr 0 g K (by decide) S, Y, D⟩, ⟨⟨hF, hn, hq⟩, ⟨un1, un2, un3, un4⟩, vUr_y (v := 1) (by decide) Yr Ur, Uc⟩, ⟨c, by omega, ech, k1, Or.inr ⟨c, Nat.le_refl _, ech⟩, hk, fun t1 h1 _ et1 => ⟨D1, rfl, hD1, rfl, gT2_eq g2 ((nI_eq (by omega) (by omega)).mp et1)⟩⟩, Mt, Im⟩
  | false =>
    refine ⟨-1, (I 4601), (I 4602), (I 4603), (B 4604), (J 4608), (J 4609), (I 4610), (I 4611), (I 4612), (I 4613), (I 4614), (B 4615), (J 4709), (J 4710), (I 4711), (I 4712), (A 48), (A 49), (A 50), (A 51), (A 52), (A 53), (A 54), (A 55), (M 56), (I 5702), (A 58), (A 59), (A 60), (M 61), (I 7005), (I 7006), (I 7007), (I 7008), (A 71), (A 73), (A 74), (I 20064), (I 20065), (I 20066), (I 20067), (B 20068), (A 223), (A 224), (A 225), (A 226), (A 227), (A 228), (A 229), (A 230), (A 231), (A 232), (A 233), (M 234), (A 235), (A 236), (A 237), (A 238), (A 239), (A 247), (A 248), (A 249), ?_, ?_, n, tx, s, b, _, P, E, g, K, F, un, q, gs, Ks, m, R, mi, T, Fq, Sd, Et, Pl, G, Un, ⟨c, by omega, ech, k1, k2, hk, hg2⟩, Mt, Im⟩
    · unfold mX11_tells
      rw [ec, if_neg (by decide)]
    · unfold mX12_tells
      rw [et, obind, ec, if_neg (by decide)]
theorem s_holder (h : vW N I J B A M Q) (hN : N < 1000) (Awhat : Int32) : ∃ (x : Int32) (o0 o1 : Int64) (o2 o3 : Int32) (o4 o5 o6 o7 o8 o9 o10 o11 : Nat → Int32) (o12 : Nat → Int64) (o13 p0 p1 p2 : Nat → Int32), mX11_holder Awhat (J 2609) (J 2610) (I 2611) (I 2612) (A 27) (A 28) (A 29) (A 30) (A 31) (A 32) (A 33) (A 34) (M 35) (J 3609) (J 3610) (I 3611) (I 3612) (A 37) (A 38) (A 39) (A 40) (A 41) (A 42) (A 43) (A 44) (M 45) (A 78) = (x, o0, o1, o2, o3, o4, o5, o6, o7, o8, o9, o10, o11, o12, o13) ∧ mX12_holder Awhat (A 230) (A 231) (A 240) (A 241) (A 242) = some (x, p0, p1, p2) ∧ vW (N + 1) (wu (wu I 3611 o2) 3612 o3) (wu (wu J 3609 o0) 3610 o1) B (wu (wu (wu (wu (wu (wu (wu (wu (wu (wu (wu (wu A 37 o4) 38 o5) 39 o6) 40 o7) 41 o8) 42 o9) 43 o10) 44 o11) 78 o13) 240 p0) 241 p1) 242 p2) (wu M 45 o12) Q := by
  obtain ⟨n, tx, s, b, U, P, E, g, K, F, un, q, gs, Ks, m, R, mi, T, Fq, Sd, Et, Pl, G, Un, O, Mt, Im⟩ := h
  have G0 := G
  have Pl0 := Pl
  have Un0 := Un
  obtain ⟨W, h8, Z, S, Y, D⟩ := G0
  obtain ⟨hb, eb, eh, p0, hP, hU99, cu, ru, ⟨H, hH, cH, rH⟩, ⟨mn, hmn, cm, rm, nm⟩, fC, fR, fE, fRE⟩ := Pl0
  obtain ⟨⟨hF, hn, hq⟩, ⟨un1, un2, un3, un4⟩, Ur, Uc⟩ := Un0
  rcases k_range Awhat (N := 3) (by decide) (by decide) with ⟨o, z⟩ | ⟨w, hw, rfl, z⟩
  · refine ⟨-1, (J 3609), (J 3610), (I 3611), (I 3612), (A 37), (A 38), (A 39), (A 40), (A 41), (A 42), (A 43), (A 44), (M 45), (A 78), (A 240), (A 241), (A 242), ?_, ?_, n, tx, s, b, _, P, E, g, K, F, un, q, gs, Ks, m, R, mi, T, Fq, Sd, Et, Pl, G, Un, vO_up O, Mt, Im⟩
    · unfold mX11_holder
      by_cases a0 : Awhat < 0
      · rw [if_pos a0]
      · rw [if_neg a0, if_pos (show (2 : Int32) < Awhat from gt_out (N := 2) o a0 (by decide))]
    · unfold mX12_holder
      rw [show (2 : Int32) = nI (3 - 1) from rfl, z, if_neg (by decide)]
  · obtain ⟨sz', ag', tr', ca', pl', lk', rt', cs', fr', ey, Y'⟩ := cY_copy W Y (A 37) (A 38) (A 39) (A 40) (A 41) (A 42) (A 43) (A 44) (M 45)
    obtain ⟨f', af, aq, ir, e1, e2⟩ := c_holder lk' rt' (A 230) (A 231) W.2.2.2.2.2.1 Y'.2.2.2.2.2.1 Y'.2.2.1.1 Y'.2.2.1.2 (rS_0 S).2.2.1 (rS_0 S).2.2.2 w hw (A 78) (A 240) (A 241) (A 242)
    have e3 : ∃ d, mX11_holder (nI w) (J 2609) (J 2610) (I 2611) (I 2612) (A 27) (A 28) (A 29) (A 30) (A 31) (A 32) (A 33) (A 34) (M 35) (J 3609) (J 3610) (I 3611) (I 3612) (A 37) (A 38) (A 39) (A 40) (A 41) (A 42) (A 43) (A 44) (M 45) (A 78) = (if f' 2 = -1 then -1 else f' w, d) := by
      unfold mX11_holder
      rw [if_neg (nI_pos (by omega)), if_neg (show ¬ (2 : Int32) < nI w from nI_nlt (b := w) (a := 2) (by omega) (by decide)), ey, xlet_eq]
      repeat rw [xu_q]
      rw [e1, xlet_eq]
      repeat rw [xu_q]
      by_cases x : f' 2 = -1
      · rw [if_neg (by rw [decide_eq_true_iff]; exact fun q => q x), if_pos x]
        exact ⟨_, rfl⟩
      · rw [if_pos (by rw [decide_eq_true_iff]; exact x), if_neg x, s_at 3 w hw (by decide)]
        exact ⟨_, rfl⟩
    obtain ⟨⟨d0, d1, d2, d3, d4, d5, d6, d7, d8, d9, d10, d11, d12, d13⟩, e3⟩ := e3
    exact ⟨_, _, _, _, _, _, _, _, _, _, _, _, _, _, _, _, _, _, e3, e2, n, tx, s, b, _, P, E, g, K, F, un, q, gs, Ks, m, R, mi, T, Fq, Sd, Et, Pl, G, Un, vO_up O, Mt, Im⟩
end SW
