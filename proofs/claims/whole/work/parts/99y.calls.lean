section SW
variable {N : Nat} {I : Nat → Int32} {J : Nat → Int64} {B : Nat → Bool} {A : Nat → Nat → Int32} {M : Nat → Nat → Int64} {Q : Nat → QT}
theorem s_feed (h : vW N I J B A M Q) (hN : N < 1000) (Aa Ab Ac Ad Ae : Int32) : ∃ (x o0 : Int32) (o1 o2 : Nat → Int32) (p0 : Int32) (p1 p2 : Nat → Int32), mX11_feed Aa Ab Ac Ad Ae (I 1) (A 1) (A 77) = (x, o0, o1, o2) ∧ mX12_feed Aa Ab Ac Ad Ae (I 20001) (A 201) (A 222) = some (x, p0, p1, p2) ∧ vW (N + 1) (wu (wu I 1 o0) 20001 p0) J B (wu (wu (wu (wu A 1 o1) 77 o2) 201 p1) 222 p2) M Q := by
  obtain ⟨n, tx, s, b, U, P, E, g, K, F, un, q, gs, Ks, m, R, mi, T, Fq, Sd, Et, Pl, G, Un, O, Mt, Im⟩ := h
  have G0 := G
  have Pl0 := Pl
  have Un0 := Un
  obtain ⟨W, h8, Z, S, Y, D⟩ := G0
  obtain ⟨hb, eb, eh, p0, hP, hU99, cu, ru, ⟨H, hH, cH, rH⟩, ⟨mn, hmn, cm, rm, nm⟩, fC, fR, fE, fRE⟩ := Pl0
  obtain ⟨⟨hF, hn, hq⟩, ⟨un1, un2, un3, un4⟩, Ur, Uc⟩ := Un0
  obtain ⟨x, n', tx', tc, tr, rc, rr, e1, e2, T', Fq'⟩ := k_feed T.1 Fq Aa Ab Ac Ad Ae
  refine ⟨x, nI n', tc, rc, nI n', tr, rr, ?_, ?_, n', tx', s, b, U, P, E, g, K, F, un, q, gs, Ks, m, R, mi, ⟨T', rfl, rfl⟩, Fq', Sd, Et, Pl, G, Un, vO_up O, Mt, Im⟩
  · rw [T.2.1]; exact e1
  · rw [T.2.2]; exact e2
theorem s_end (h : vW N I J B A M Q) (hN : N < 1000) (An : Int32) : ∃ (x : Bool) (o0 : Int32) (o1 : Nat → Int32) (p0 : Int32) (p1 : Nat → Int32), mX11_end An (I 1) (A 77) = (x, o0, o1) ∧ mX12_end An (I 20001) (A 222) = some (x, p0, p1) ∧ vW (N + 1) (wu (wu I 1 o0) 20001 p0) J B (wu (wu A 77 o1) 222 p1) M Q := by
  obtain ⟨n, tx, s, b, U, P, E, g, K, F, un, q, gs, Ks, m, R, mi, T, Fq, Sd, Et, Pl, G, Un, O, Mt, Im⟩ := h
  have G0 := G
  have Pl0 := Pl
  have Un0 := Un
  obtain ⟨W, h8, Z, S, Y, D⟩ := G0
  obtain ⟨hb, eb, eh, p0, hP, hU99, cu, ru, ⟨H, hH, cH, rH⟩, ⟨mn, hmn, cm, rm, nm⟩, fC, fR, fE, fRE⟩ := Pl0
  obtain ⟨⟨hF, hn, hq⟩, ⟨un1, un2, un3, un4⟩, Ur, Uc⟩ := Un0
  obtain ⟨x, n', rc, rr, e1, e2, T', Fq'⟩ := k_end T.1 Fq An
  refine ⟨x, nI n', rc, nI n', rr, ?_, ?_, n', tx, s, b, U, P, E, g, K, F, un, q, gs, Ks, m, R, mi, ⟨T', rfl, rfl⟩, Fq', Sd, Et, Pl, G, Un, vO_up O, Mt, Im⟩
  · rw [T.2.1]; exact e1
  · rw [T.2.2]; exact e2
theorem s_fault (h : vW N I J B A M Q) (hN : N < 1000) (Awhat : Int32) : ∃ (x : Int32), mX11_fault Awhat (I 203) (I 204) = x ∧ mX12_fault Awhat (I 20010) (I 20011) = x ∧ vW (N + 1) I J B A M Q := by
  obtain ⟨n, tx, s, b, U, P, E, g, K, F, un, q, gs, Ks, m, R, mi, T, Fq, Sd, Et, Pl, G, Un, O, Mt, Im⟩ := h
  have G0 := G
  have Pl0 := Pl
  have Un0 := Un
  obtain ⟨W, h8, Z, S, Y, D⟩ := G0
  obtain ⟨hb, eb, eh, p0, hP, hU99, cu, ru, ⟨H, hH, cH, rH⟩, ⟨mn, hmn, cm, rm, nm⟩, fC, fR, fE, fRE⟩ := Pl0
  obtain ⟨⟨hF, hn, hq⟩, ⟨un1, un2, un3, un4⟩, Ur, Uc⟩ := Un0
  refine ⟨_, rfl, ?_, n, tx, s, b, U, P, E, g, K, F, un, q, gs, Ks, m, R, mi, T, Fq, Sd, Et, Pl, G, Un, vO_up O, Mt, Im⟩
  rw [Et.1, Et.2]
  exact k_fault _ _ _
theorem s_has (h : vW N I J B A M Q) (hN : N < 1000) (Awhat : Int32) : ∃ (x : Int32) (p0 p1 : Nat → Int32), mX11_has Awhat (I 14) (I 1600) (J 2609) (I 2611) (I 2612) (A 27) (A 32) (A 33) (A 34) (I 6200) (I 6400) (I 7000) = x ∧ mX12_has Awhat (I 20013) (I 20056) (J 20057) (I 20073) (A 202) (A 223) (A 224) (A 225) (A 226) (A 230) (A 231) (A 232) (A 240) (A 241) = some (x, p0, p1) ∧ vW (N + 1) I J B (wu (wu A 240 p0) 241 p1) M Q := by
  obtain ⟨n, tx, s, b, U, P, E, g, K, F, un, q, gs, Ks, m, R, mi, T, Fq, Sd, Et, Pl, G, Un, O, Mt, Im⟩ := h
  have G0 := G
  have Pl0 := Pl
  have Un0 := Un
  obtain ⟨W, h8, Z, S, Y, D⟩ := G0
  obtain ⟨hb, eb, eh, p0, hP, hU99, cu, ru, ⟨H, hH, cH, rH⟩, ⟨mn, hmn, cm, rm, nm⟩, fC, fR, fE, fRE⟩ := Pl0
  obtain ⟨⟨hF, hn, hq⟩, ⟨un1, un2, un3, un4⟩, Ur, Uc⟩ := Un0
  obtain ⟨af, aq, e⟩ := k_has hb (ru.trans cu.symm) Sd.1 W S Y Awhat (I 20073) (A 240) (A 241) (U := un) (M := 0)
  refine ⟨_, af, aq, rfl, ?_, n, tx, s, b, U, P, E, g, K, F, un, q, gs, Ks, m, R, mi, T, Fq, Sd, Et, Pl, G, Un, vO_up O, Mt, Im⟩
  rw [eb, un4, Sd.2.2, Sd.2.1, D.1, un1, Mt.2.1.1]
  rw [Mt.2.2.1] at e ⊢
  exact e
theorem s_letter (h : vW N I J B A M Q) (hN : N < 1000) (Atold Ak : Int32) : ∃ (x : Int32), mX11_letter Atold Ak (I 1603) (A 17) = x ∧ mX12_letter Atold Ak (I 20013) (A 203) (M 215) = some x ∧ vW (N + 1) I J B A M Q := by
  obtain ⟨n, tx, s, b, U, P, E, g, K, F, un, q, gs, Ks, m, R, mi, T, Fq, Sd, Et, Pl, G, Un, O, Mt, Im⟩ := h
  have G0 := G
  have Pl0 := Pl
  have Un0 := Un
  obtain ⟨W, h8, Z, S, Y, D⟩ := G0
  obtain ⟨hb, eb, eh, p0, hP, hU99, cu, ru, ⟨H, hH, cH, rH⟩, ⟨mn, hmn, cm, rm, nm⟩, fC, fR, fE, fRE⟩ := Pl0
  obtain ⟨⟨hF, hn, hq⟩, ⟨un1, un2, un3, un4⟩, Ur, Uc⟩ := Un0
  refine ⟨_, rfl, ?_, n, tx, s, b, U, P, E, g, K, F, un, q, gs, Ks, m, R, mi, T, Fq, Sd, Et, Pl, G, Un, vO_up O, Mt, Im⟩
  rw [eb, cm]
  exact k_letter nm hb hmn rm Atold Ak
theorem s_thing (h : vW N I J B A M Q) (hN : N < 1000) (Athing Awhat : Int32) : ∃ (x o0 : Int32) (o1 o2 : Nat → Int32) (p0 : Nat → Int64) (p1 p2 p3 p4 : Nat → Int32), mX11_thing Athing Awhat (A 23) (A 24) (A 25) (J 2609) (J 2610) (I 2612) (A 27) (A 28) (A 29) (A 30) (A 31) (A 32) (A 33) (M 35) (I 5702) (A 58) (A 59) = (x, o0, o1, o2) ∧ mX12_thing Athing Awhat (I 20013) (A 211) (A 212) (A 213) (A 214) (A 223) (A 224) (A 225) (A 226) (A 227) (A 228) (A 229) (A 230) (A 231) (M 234) (A 235) (A 238) (A 240) (A 241) = some (x, p0, p1, p2, p3, p4) ∧ vW (N + 1) (wu I 5702 o0) J B (wu (wu (wu (wu (wu (wu A 58 o1) 59 o2) 235 p1) 238 p2) 240 p3) 241 p4) (wu M 234 p0) Q := by
  obtain ⟨n, tx, s, b, U, P, E, g, K, F, un, q, gs, Ks, m, R, mi, T, Fq, Sd, Et, Pl, G, Un, O, Mt, Im⟩ := h
  have G0 := G
  have Pl0 := Pl
  have Un0 := Un
  obtain ⟨W, h8, Z, S, Y, D⟩ := G0
  obtain ⟨hb, eb, eh, p0, hP, hU99, cu, ru, ⟨H, hH, cH, rH⟩, ⟨mn, hmn, cm, rm, nm⟩, fC, fR, fE, fRE⟩ := Pl0
  obtain ⟨⟨hF, hn, hq⟩, ⟨un1, un2, un3, un4⟩, Ur, Uc⟩ := Un0
  obtain ⟨X, sk, ask, st, af, aq, tp, fa, csk, e2, e1⟩ := k_thing hb fR fC W (show g 8 0 ≤ 1000 by omega) S Y Athing Awhat (M 234) (A 235) (A 238) (A 240) (A 241) (I 5702) (A 58) (A 59)
  refine ⟨X, tp, fa, csk, sk, ask, st, af, aq, e1, ?_, n, tx, s, b, U, P, E, g, K, F, un, q, gs, Ks, m, R, mi, T, Fq, Sd, Et, Pl, G, Un, vO_up O, Mt, Im⟩
  rw [eb]
  exact e2
theorem s_link (h : vW N I J B A M Q) (hN : N < 1000) (Athing Ak : Int32) : ∃ (x : Int32), mX11_link Athing Ak (J 2609) (A 32) = x ∧ mX12_link Athing Ak (A 224) (A 230) = some x ∧ vW (N + 1) I J B A M Q := by
  obtain ⟨n, tx, s, b, U, P, E, g, K, F, un, q, gs, Ks, m, R, mi, T, Fq, Sd, Et, Pl, G, Un, O, Mt, Im⟩ := h
  have G0 := G
  have Pl0 := Pl
  have Un0 := Un
  obtain ⟨W, h8, Z, S, Y, D⟩ := G0
  obtain ⟨hb, eb, eh, p0, hP, hU99, cu, ru, ⟨H, hH, cH, rH⟩, ⟨mn, hmn, cm, rm, nm⟩, fC, fR, fE, fRE⟩ := Pl0
  obtain ⟨⟨hF, hn, hq⟩, ⟨un1, un2, un3, un4⟩, Ur, Uc⟩ := Un0
  exact ⟨_, rfl, k_link W S Y Athing Ak, n, tx, s, b, U, P, E, g, K, F, un, q, gs, Ks, m, R, mi, T, Fq, Sd, Et, Pl, G, Un, vO_up O, Mt, Im⟩
theorem s_root (h : vW N I J B A M Q) (hN : N < 1000) (Ak : Int32) : ∃ (x : Int32), mX11_root Ak (A 33) = x ∧ mX12_root Ak (A 231) = some x ∧ vW (N + 1) I J B A M Q := by
  obtain ⟨n, tx, s, b, U, P, E, g, K, F, un, q, gs, Ks, m, R, mi, T, Fq, Sd, Et, Pl, G, Un, O, Mt, Im⟩ := h
  have G0 := G
  have Pl0 := Pl
  have Un0 := Un
  obtain ⟨W, h8, Z, S, Y, D⟩ := G0
  obtain ⟨hb, eb, eh, p0, hP, hU99, cu, ru, ⟨H, hH, cH, rH⟩, ⟨mn, hmn, cm, rm, nm⟩, fC, fR, fE, fRE⟩ := Pl0
  obtain ⟨⟨hF, hn, hq⟩, ⟨un1, un2, un3, un4⟩, Ur, Uc⟩ := Un0
  exact ⟨_, rfl, k_root S Y Ak, n, tx, s, b, U, P, E, g, K, F, un, q, gs, Ks, m, R, mi, T, Fq, Sd, Et, Pl, G, Un, vO_up O, Mt, Im⟩
theorem s_train (h : vW N I J B A M Q) (hN : N < 1000) (Atrain Awhat : Int32) : ∃ (x : Int32), mX11_train Atrain Awhat (I 2611) (A 27) (A 29) (A 32) (A 33) (A 34) (M 35) = x ∧ mX12_train Atrain Awhat (A 224) (A 225) (A 226) (A 230) (A 231) = some x ∧ vW (N + 1) I J B A M Q := by
  obtain ⟨n, tx, s, b, U, P, E, g, K, F, un, q, gs, Ks, m, R, mi, T, Fq, Sd, Et, Pl, G, Un, O, Mt, Im⟩ := h
  have G0 := G
  have Pl0 := Pl
  have Un0 := Un
  obtain ⟨W, h8, Z, S, Y, D⟩ := G0
  obtain ⟨hb, eb, eh, p0, hP, hU99, cu, ru, ⟨H, hH, cH, rH⟩, ⟨mn, hmn, cm, rm, nm⟩, fC, fR, fE, fRE⟩ := Pl0
  obtain ⟨⟨hF, hn, hq⟩, ⟨un1, un2, un3, un4⟩, Ur, Uc⟩ := Un0
  exact ⟨_, rfl, k_train W S Y Atrain Awhat, n, tx, s, b, U, P, E, g, K, F, un, q, gs, Ks, m, R, mi, T, Fq, Sd, Et, Pl, G, Un, vO_up O, Mt, Im⟩
theorem s_car (h : vW N I J B A M Q) (hN : N < 1000) (Atrain Acar Awhat : Int32) : ∃ (x : Int32), mX11_car Atrain Acar Awhat (I 2611) (A 27) (A 29) (A 30) (A 32) (A 33) (A 34) (M 35) = x ∧ mX12_car Atrain Acar Awhat (A 224) (A 225) (A 226) (A 230) (A 231) = some x ∧ vW (N + 1) I J B A M Q := by
  obtain ⟨n, tx, s, b, U, P, E, g, K, F, un, q, gs, Ks, m, R, mi, T, Fq, Sd, Et, Pl, G, Un, O, Mt, Im⟩ := h
  have G0 := G
  have Pl0 := Pl
  have Un0 := Un
  obtain ⟨W, h8, Z, S, Y, D⟩ := G0
  obtain ⟨hb, eb, eh, p0, hP, hU99, cu, ru, ⟨H, hH, cH, rH⟩, ⟨mn, hmn, cm, rm, nm⟩, fC, fR, fE, fRE⟩ := Pl0
  obtain ⟨⟨hF, hn, hq⟩, ⟨un1, un2, un3, un4⟩, Ur, Uc⟩ := Un0
  exact ⟨_, rfl, k_car W S Y Atrain Acar Awhat, n, tx, s, b, U, P, E, g, K, F, un, q, gs, Ks, m, R, mi, T, Fq, Sd, Et, Pl, G, Un, vO_up O, Mt, Im⟩
theorem s_retains (h : vW N I J B A M Q) (hN : N < 1000) (Athing : Int32) : ∃ (x : Int32) (p0 p1 : Nat → Int32), mX11_retains Athing (J 2609) (A 32) (A 33) = x ∧ mX12_retains Athing (A 224) (A 230) (A 231) (A 240) (A 241) = some (x, p0, p1) ∧ vW (N + 1) I J B (wu (wu A 240 p0) 241 p1) M Q := by
  obtain ⟨n, tx, s, b, U, P, E, g, K, F, un, q, gs, Ks, m, R, mi, T, Fq, Sd, Et, Pl, G, Un, O, Mt, Im⟩ := h
  have G0 := G
  have Pl0 := Pl
  have Un0 := Un
  obtain ⟨W, h8, Z, S, Y, D⟩ := G0
  obtain ⟨hb, eb, eh, p0, hP, hU99, cu, ru, ⟨H, hH, cH, rH⟩, ⟨mn, hmn, cm, rm, nm⟩, fC, fR, fE, fRE⟩ := Pl0
  obtain ⟨⟨hF, hn, hq⟩, ⟨un1, un2, un3, un4⟩, Ur, Uc⟩ := Un0
  obtain ⟨af, aq, e⟩ := k_retains W S Y Athing (A 240) (A 241)
  exact ⟨_, af, aq, rfl, e, n, tx, s, b, U, P, E, g, K, F, un, q, gs, Ks, m, R, mi, T, Fq, Sd, Et, Pl, G, Un, vO_up O, Mt, Im⟩
theorem s_far (h : vW N I J B A M Q) (hN : N < 1000) (Athing : Int32) : ∃ (x : Int32) (p0 p1 : Nat → Int32), mX11_far Athing (J 2609) (A 32) (A 33) = x ∧ mX12_far Athing (A 224) (A 230) (A 231) (A 240) (A 241) = some (x, p0, p1) ∧ vW (N + 1) I J B (wu (wu A 240 p0) 241 p1) M Q := by
  obtain ⟨n, tx, s, b, U, P, E, g, K, F, un, q, gs, Ks, m, R, mi, T, Fq, Sd, Et, Pl, G, Un, O, Mt, Im⟩ := h
  have G0 := G
  have Pl0 := Pl
  have Un0 := Un
  obtain ⟨W, h8, Z, S, Y, D⟩ := G0
  obtain ⟨hb, eb, eh, p0, hP, hU99, cu, ru, ⟨H, hH, cH, rH⟩, ⟨mn, hmn, cm, rm, nm⟩, fC, fR, fE, fRE⟩ := Pl0
  obtain ⟨⟨hF, hn, hq⟩, ⟨un1, un2, un3, un4⟩, Ur, Uc⟩ := Un0
  obtain ⟨af, aq, e⟩ := k_far W S Y Athing (A 240) (A 241)
  exact ⟨_, af, aq, rfl, e, n, tx, s, b, U, P, E, g, K, F, un, q, gs, Ks, m, R, mi, T, Fq, Sd, Et, Pl, G, Un, vO_up O, Mt, Im⟩
theorem s_ring (h : vW N I J B A M Q) (hN : N < 1000) (Athing : Int32) : ∃ (x : Int32) (p0 p1 : Nat → Int32), mX11_ring Athing (J 2609) (A 32) = x ∧ mX12_ring Athing (A 224) (A 230) (A 240) (A 241) = some (x, p0, p1) ∧ vW (N + 1) I J B (wu (wu A 240 p0) 241 p1) M Q := by
  obtain ⟨n, tx, s, b, U, P, E, g, K, F, un, q, gs, Ks, m, R, mi, T, Fq, Sd, Et, Pl, G, Un, O, Mt, Im⟩ := h
  have G0 := G
  have Pl0 := Pl
  have Un0 := Un
  obtain ⟨W, h8, Z, S, Y, D⟩ := G0
  obtain ⟨hb, eb, eh, p0, hP, hU99, cu, ru, ⟨H, hH, cH, rH⟩, ⟨mn, hmn, cm, rm, nm⟩, fC, fR, fE, fRE⟩ := Pl0
  obtain ⟨⟨hF, hn, hq⟩, ⟨un1, un2, un3, un4⟩, Ur, Uc⟩ := Un0
  obtain ⟨af, aq, e⟩ := k_ring W S Y Athing (A 240) (A 241)
  exact ⟨_, af, aq, rfl, e, n, tx, s, b, U, P, E, g, K, F, un, q, gs, Ks, m, R, mi, T, Fq, Sd, Et, Pl, G, Un, vO_up O, Mt, Im⟩
theorem s_meet (h : vW N I J B A M Q) (hN : N < 1000) : ∃ (x o0 o1 : Int32) (o2 o3 : Nat → Int32) (p0 p1 : Int32) (p2 p3 p4 p5 : Nat → Int32), mX11_meet (I 1) (A 1) (I 7000) (A 72) (A 77) = some (x, o0, o1, o2, o3) ∧ mX12_meet (I 20001) (I 20073) (A 201) (A 222) (A 244) (A 245) (A 246) = some (x, p0, p1, p2, p3, p4, p5) ∧ vW (N + 1) (wu (wu (wu (wu I 1 o0) 7000 o1) 20001 p0) 20073 p1) J B (wu (wu (wu (wu (wu (wu A 72 o2) 77 o3) 222 p2) 244 p3) 245 p4) 246 p5) M Q := by
  obtain ⟨n, tx, s, b, U, P, E, g, K, F, un, q, gs, Ks, m, R, mi, T, Fq, Sd, Et, Pl, G, Un, O, Mt, Im⟩ := h
  have G0 := G
  have Pl0 := Pl
  have Un0 := Un
  obtain ⟨W, h8, Z, S, Y, D⟩ := G0
  obtain ⟨hb, eb, eh, p0, hP, hU99, cu, ru, ⟨H, hH, cH, rH⟩, ⟨mn, hmn, cm, rm, nm⟩, fC, fR, fE, fRE⟩ := Pl0
  obtain ⟨⟨hF, hn, hq⟩, ⟨un1, un2, un3, un4⟩, Ur, Uc⟩ := Un0
  obtain ⟨y, z⟩ := k_meet T.1.1 (fun i hi => (T.1.2 i hi).2.1) (fun i hi => (T.1.2 i hi).1) (fun i hi => (T.1.2 i hi).2.2) (rf := (A 222)) (rf' := (A 77)) (ms := (A 244)) (mw := (A 245)) (mn := (A 246)) (rows := (A 72)) (mm := (I 20073)) (met := (I 7000))
  have T0 : kTp 0 tx (A 1) (A 201) := ⟨by omega, fun i hi => absurd hi (by omega)⟩
  rw [T.2.1, T.2.2]
  cases e : gMeetOk tx n with
  | true =>
    obtain ⟨ms, mw, mn', rows, e2, e1, r1, r2⟩ := y e
    exact ⟨_, _, _, _, _, _, _, _, _, _, _, e1, e2, 0, tx, s, b, U, P, E, g, K, F, un, q, gs, Ks, n / 3, tx, mi, ⟨T0, rfl, rfl⟩, Fq, Sd, Et, Pl, G, Un, vO_up O, ⟨gMeet_met e, r2, r1⟩, Im⟩
  | false =>
    obtain ⟨e2, e1⟩ := z e
    exact ⟨_, _, _, _, _, _, _, _, _, _, _, e1, e2, 0, tx, s, b, U, P, E, g, K, F, un, q, gs, Ks, m, R, mi, ⟨T0, rfl, rfl⟩, k_refused Fq 5 (by decide), Sd, Et, Pl, G, Un, vO_up O, Mt, Im⟩
theorem s_seed (h : vW N I J B A M Q) (hN : N < 1000) (Aseed : Int32) : ∃ (x : Bool) (o0 : Int32) (o1 : Nat → Int32) (p0 : Int64) (p1 : Nat → Int32), mX11_seed Aseed (I 14) (A 77) = (x, o0, o1) ∧ mX12_seed Aseed (J 20057) (A 222) = some (x, p0, p1) ∧ vW (N + 1) (wu I 14 o0) (wu J 20057 p0) B (wu (wu A 77 o1) 222 p1) M Q := by
  obtain ⟨n, tx, s, b, U, P, E, g, K, F, un, q, gs, Ks, m, R, mi, T, Fq, Sd, Et, Pl, G, Un, O, Mt, Im⟩ := h
  have G0 := G
  have Pl0 := Pl
  have Un0 := Un
  obtain ⟨W, h8, Z, S, Y, D⟩ := G0
  obtain ⟨hb, eb, eh, p0, hP, hU99, cu, ru, ⟨H, hH, cH, rH⟩, ⟨mn, hmn, cm, rm, nm⟩, fC, fR, fE, fRE⟩ := Pl0
  obtain ⟨⟨hF, hn, hq⟩, ⟨un1, un2, un3, un4⟩, Ur, Uc⟩ := Un0
  obtain ⟨x, s', rf, rg, e2, e1, hs, Fq'⟩ := k_seed Fq Aseed Sd.1
  refine ⟨x, nI s', rg, lN s', rf, ?_, ?_, n, tx, s', b, U, P, E, g, K, F, un, q, gs, Ks, m, R, mi, T, Fq', ⟨hs, rfl, rfl⟩, Et, Pl, G, Un, vO_up O, Mt, Im⟩
  · rw [Sd.2.1]; exact e1
  · rw [Sd.2.2]; exact e2
theorem s_kept (h : vW N I J B A M Q) (hN : N < 1000) (Ak Awhat : Int32) : ∃ (x : Int32), mX11_kept Ak Awhat (I 6200) (A 63) = x ∧ mX12_kept Ak Awhat (A 232) (A 233) = some x ∧ vW (N + 1) I J B A M Q := by
  obtain ⟨n, tx, s, b, U, P, E, g, K, F, un, q, gs, Ks, m, R, mi, T, Fq, Sd, Et, Pl, G, Un, O, Mt, Im⟩ := h
  have G0 := G
  have Pl0 := Pl
  have Un0 := Un
  obtain ⟨W, h8, Z, S, Y, D⟩ := G0
  obtain ⟨hb, eb, eh, p0, hP, hU99, cu, ru, ⟨H, hH, cH, rH⟩, ⟨mn, hmn, cm, rm, nm⟩, fC, fR, fE, fRE⟩ := Pl0
  obtain ⟨⟨hF, hn, hq⟩, ⟨un1, un2, un3, un4⟩, Ur, Uc⟩ := Un0
  exact ⟨_, rfl, k_told S.2.1 D Ak Awhat, n, tx, s, b, U, P, E, g, K, F, un, q, gs, Ks, m, R, mi, T, Fq, Sd, Et, Pl, G, Un, vO_up O, Mt, Im⟩
theorem s_image (h : vW N I J B A M Q) (hN : N < 1000) : ∃ (x o0 : Int32) (o1 : Nat → Int32) (p0 : Int32) (p1 : Nat → Int32), mX11_image (J 2610) (I 2612) (A 27) (A 28) (A 29) (A 30) (A 31) (A 32) (A 33) (A 76) = (x, o0, o1) ∧ mX12_image (A 223) (A 224) (A 225) (A 226) (A 227) (A 228) (A 229) (A 230) (A 231) (A 250) = some (x, p0, p1) ∧ vW (N + 1) (wu (wu I 7501 o0) 20081 p0) J B (wu (wu A 76 o1) 250 p1) M Q := by
  obtain ⟨n, tx, s, b, U, P, E, g, K, F, un, q, gs, Ks, m, R, mi, T, Fq, Sd, Et, Pl, G, Un, O, Mt, Im⟩ := h
  have G0 := G
  have Pl0 := Pl
  have Un0 := Un
  obtain ⟨W, h8, Z, S, Y, D⟩ := G0
  obtain ⟨hb, eb, eh, p0, hP, hU99, cu, ru, ⟨H, hH, cH, rH⟩, ⟨mn, hmn, cm, rm, nm⟩, fC, fR, fE, fRE⟩ := Pl0
  obtain ⟨⟨hF, hn, hq⟩, ⟨un1, un2, un3, un4⟩, Ur, Uc⟩ := Un0
  obtain ⟨mi', cb, rb, hm, e1, e2, Im'⟩ := k_image W h8 S Y (A 76) (A 250)
  exact ⟨nI mi', nI mi', cb, nI mi', rb, e1, e2, n, tx, s, b, U, P, E, g, K, F, un, q, gs, Ks, m, R, mi', T, Fq, Sd, Et, Pl, G, Un, vO_up O, Mt, ⟨hm, rfl, rfl, Im'⟩⟩
theorem s_octet (h : vW N I J B A M Q) (hN : N < 1000) (Ak : Int32) : ∃ (x : Int32), mX11_octet Ak (I 7501) (A 76) = x ∧ mX12_octet Ak (I 20081) (A 250) = some x ∧ vW (N + 1) I J B A M Q := by
  obtain ⟨n, tx, s, b, U, P, E, g, K, F, un, q, gs, Ks, m, R, mi, T, Fq, Sd, Et, Pl, G, Un, O, Mt, Im⟩ := h
  have G0 := G
  have Pl0 := Pl
  have Un0 := Un
  obtain ⟨W, h8, Z, S, Y, D⟩ := G0
  obtain ⟨hb, eb, eh, p0, hP, hU99, cu, ru, ⟨H, hH, cH, rH⟩, ⟨mn, hmn, cm, rm, nm⟩, fC, fR, fE, fRE⟩ := Pl0
  obtain ⟨⟨hF, hn, hq⟩, ⟨un1, un2, un3, un4⟩, Ur, Uc⟩ := Un0
  refine ⟨_, rfl, ?_, n, tx, s, b, U, P, E, g, K, F, un, q, gs, Ks, m, R, mi, T, Fq, Sd, Et, Pl, G, Un, vO_up O, Mt, Im⟩
  rw [Im.2.1, Im.2.2.1]
  exact k_octet Im.1 Im.2.2.2 Ak
theorem s_status (h : vW N I J B A M Q) (hN : N < 1000) (Awhat : Int32) : ∃ (x : Int32), mX11_status Awhat (A 77) = x ∧ mX12_status Awhat (A 222) = some x ∧ vW (N + 1) I J B A M Q := by
  obtain ⟨n, tx, s, b, U, P, E, g, K, F, un, q, gs, Ks, m, R, mi, T, Fq, Sd, Et, Pl, G, Un, O, Mt, Im⟩ := h
  have G0 := G
  have Pl0 := Pl
  have Un0 := Un
  obtain ⟨W, h8, Z, S, Y, D⟩ := G0
  obtain ⟨hb, eb, eh, p0, hP, hU99, cu, ru, ⟨H, hH, cH, rH⟩, ⟨mn, hmn, cm, rm, nm⟩, fC, fR, fE, fRE⟩ := Pl0
  obtain ⟨⟨hF, hn, hq⟩, ⟨un1, un2, un3, un4⟩, Ur, Uc⟩ := Un0
  exact ⟨_, rfl, k_status Fq Awhat, n, tx, s, b, U, P, E, g, K, F, un, q, gs, Ks, m, R, mi, T, Fq, Sd, Et, Pl, G, Un, vO_up O, Mt, Im⟩
end SW
