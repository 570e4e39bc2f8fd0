theorem vUc_same {U n q q0 : Nat} {gs : Nat → GH} {Ks : Nat → GK} {Q : Nat → QT} (h : vUc U n q gs Ks Q) : vUc U n q gs Ks (wu Q q0 (Q q0)) := by
  have e : wu Q q0 (Q q0) = Q := by
    funext j
    by_cases hj : j = q0
    · rw [hj, wu_s]
    · exact wu_n Q _ hj
  rw [e]
  exact h
theorem pF_lt {F n : Nat} (h : F < 20) : pF F n < 20 := by
  unfold pF
  split <;> omega
theorem pU_le {n : Nat} (h : n ≤ 20) : pU n ≤ 20 := by
  unfold pU
  split <;> omega
theorem vO_new {N : Nat} {P P' : GP} {g g' : GH} {I I' : Nat → Int32} {A A' : Nat → Nat → Int32} (h : vO N P g I A) (hN : N < 1000) (e : I' 15 = I 15 + 1) (e1 : I' 6704 = I 6704) (e2 : I' 7008 = I 7008) : vO (N + 1) P' g' I' A' := by
  obtain ⟨c, hc, h1, h2, h3, -⟩ := h
  have ec : I' 15 = nI (c + 1) := by rw [e, h1]; exact nI_1 c
  refine ⟨c + 1, by omega, ec, ?_, ?_, fun z => ?_, fun t ht z => ?_⟩
  · rw [e1]; exact vO1_up h2 (by omega)
  · rw [e2]; exact vO1_up h3 (by omega)
  · rw [e1, e, h1] at z
    exact absurd z (vO1_ne h2 (by omega))
  · rw [e2, e, h1] at z
    exact absurd z (vO1_ne h3 (by omega))
theorem gCn_none {P : GP} {g : GH} (h : ∀ t, t < 40 → g 0 t = 0) : gCn P g 0 = true := by
  have e : bex (fun t => gRb g t && gTh (gA P g 0) t) 40 0 = false := by
    cases e : bex (fun t => gRb g t && gTh (gA P g 0) t) 40 0 with
    | false => rfl
    | true =>
      obtain ⟨t, -, ht, q⟩ := (bex_iff _ 40 0).mp e
      exfalso
      have q : (gRb g t && gTh (gA P g 0) t) = true := q
      rw [Bool.and_eq_true] at q
      have z : gTh g t = true := q.2
      unfold gTh at z
      rw [h t (by omega)] at z
      exact absurd z (by decide)
  unfold gCn
  rw [e]
  rfl
theorem gt_out {x : Int32} {N : Nat} (h : x < 0 ∨ ¬ x < nI (N + 1)) (h0 : ¬ x < 0) (hN : N < 1000) : nI N < x := Int32.lt_of_lt_of_le (nI_lt (show N < N + 1 by omega) (by omega)) (Int32.not_lt.mp (h.resolve_left h0))
theorem gLt_out {P : GP} {g : GH} {n : Nat} {x : Int32} (h : x < 0 ∨ ¬ x < 5) : gLt P g n x = -1 := by
  have k : ∀ y : Int32, ¬ y < 0 → y < 5 → ¬ x = y := fun y h0 h5 e => by
    subst e
    exact h.elim h0 (fun q => q h5)
  unfold gLt
  rw [if_neg (k 0 (by decide) (by decide)), if_neg (k 1 (by decide) (by decide)), if_neg (k 2 (by decide) (by decide)), if_neg (k 3 (by decide) (by decide)), if_neg (k 4 (by decide) (by decide))]
theorem gT2_eq {P : GP} {g : GH} {t t1 D Z : Nat} {cn : Nat → Int32} (h : gT2 P g t D Z cn) (e : t = t1) : gT2 P g t1 D Z cn := e ▸ h
theorem rS_so {v : Nat} {g : GH} {K : GK} {so sz tr ca pl ag mk lk rt km kr : Nat → Int32} (S : rS v g K so sz tr ca pl ag mk lk rt km kr) : so v = nI (g 8 0) := S.2.2
theorem gIt_W {P : GP} {H : Nat} : ∀ (n : Nat) {q : GC}, gW q.1 → q.2.1 < 2 ^ 31 → gW (gIt P H n q).1 ∧ (gIt P H n q).1 8 0 = q.1 8 0 + n ∧ (gIt P H n q).2.1 < 2 ^ 31
  | 0, q, h, hs => ⟨h, rfl, hs⟩
  | n + 1, q, h, _ => by
    obtain ⟨w1, w2, w3⟩ := gCs_W (P := P) (H := H) (q := q) h
    obtain ⟨a, b, c⟩ := gIt_W n (q := gCs P H q) w1 w3
    exact ⟨a, by rw [show gIt P H (n + 1) q = gIt P H n (gCs P H q) from rfl, b, w2]; omega, c⟩
/-- a thing that doesn't LIVE doesn't by a link between those that do -/
theorem gRows_dead {g : GH} {t : Nat} (h : gL g t = false) (ht : t < 40) : gRows g t 160 = 0 := by
  have key : ∀ l, l < 160 → gL g (l / 4) = true → gRow g t l = 0 := fun l hl hL => by
    unfold gRow
    rw [fb_ct_zero]
    intro b hb
    cases e : gL g b && gL (gset g 6 l (b + 1)) t with
    | false => rfl
    | true =>
      rw [Bool.and_eq_true] at e
      have e2 := e.2
      rw [gL_6s hl hb ht hL, Bool.or_eq_true] at e2
      rcases e2 with e2 | e2
      · rw [gL_60 ht e2] at h
        exact absurd h (by decide)
      · have : gL g t = true := blv_in _ _ (gL g) (fun u hu q => by rw [of_decide_eq_true q]; exact e.1) (fun u v hu hv q r => gL_next hu hv q (gLk_60 r)) 40 t ht e2
        rw [this] at h
        exact absurd h (by decide)
  have go : ∀ n, n ≤ 160 → gRows g t n = 0 := by
    intro n
    induction n with
    | zero => intro _; rfl
    | succ n ih =>
      intro hn
      unfold gRows at ih ⊢
      rw [fb_sm_succ, ih (by omega)]
      by_cases q : gL g (n / 4) = true
      · rw [if_pos q, key n (by omega) q]
      · rw [if_neg q]
  exact go 160 (Nat.le_refl _)
section SW
variable {N : Nat} {I : Nat → Int32} {J : Nat → Int64} {B : Nat → Bool} {A : Nat → Nat → Int32} {M : Nat → Nat → Int64} {Q : Nat → QT}
theorem s_undo (h : vW N I J B A M Q) (hN : N < 1000) : ∃ q, q < 20 ∧ (I 6401) = nI q ∧ ∃ (x : Bool) (o0 : Int32) (o1 o2 : Int64) (o3 o4 : Int32) (o5 o6 o7 o8 o9 o10 o11 o12 : Nat → Int32) (o13 : Nat → Int64) (o14 : Int32) (o15 : Nat → Int32) (o16 o17 : Int32) (o18 : Nat → Int32) (p0 : Int32) (p1 p2 p3 p4 p5 p6 p7 p8 p9 p10 p11 p12 : Nat → Int32), mX11_undo (I 15) (J 2609) (J 2610) (I 2611) (I 2612) (A 27) (A 28) (A 29) (A 30) (A 31) (A 32) (A 33) (A 34) (M 35) (I 6200) (A 63) (I 6400) (I 6401) (A 77) (Q ((q + 19) % 20)).1 (Q ((q + 19) % 20)).2.1 (Q ((q + 19) % 20)).2.2.1 (Q ((q + 19) % 20)).2.2.2.1 (Q ((q + 19) % 20)).2.2.2.2.1 (Q ((q + 19) % 20)).2.2.2.2.2.1 (Q ((q + 19) % 20)).2.2.2.2.2.2.1 (Q ((q + 19) % 20)).2.2.2.2.2.2.2.1 (Q ((q + 19) % 20)).2.2.2.2.2.2.2.2.1 (Q ((q + 19) % 20)).2.2.2.2.2.2.2.2.2.1 (Q ((q + 19) % 20)).2.2.2.2.2.2.2.2.2.2.1 (Q ((q + 19) % 20)).2.2.2.2.2.2.2.2.2.2.2.1 (Q ((q + 19) % 20)).2.2.2.2.2.2.2.2.2.2.2.2.1 (Q ((q + 19) % 20)).2.2.2.2.2.2.2.2.2.2.2.2.2.1 (Q ((q + 19) % 20)).2.2.2.2.2.2.2.2.2.2.2.2.2.2 = (x, o0, o1, o2, o3, o4, o5, o6, o7, o8, o9, o10, o11, o12, o13, o14, o15, o16, o17, o18) ∧ mX12_undo (I 20055) (I 20056) (A 222) (A 223) (A 224) (A 225) (A 226) (A 227) (A 228) (A 229) (A 230) (A 231) (A 232) (A 233) = some (x, p0, p1, p2, p3, p4, p5, p6, p7, p8, p9, p10, p11, p12) ∧ vW (N + 1) (wu (wu (wu (wu (wu (wu (wu I 15 o0) 2611 o3) 2612 o4) 6200 o14) 6400 o16) 6401 o17) 20056 p0) (wu (wu J 2609 o1) 2610 o2) B (wu (wu (wu (wu (wu (wu (wu (wu (wu (wu (wu (wu (wu (wu (wu (wu (wu (wu (wu (wu (wu (wu A 27 o5) 28 o6) 29 o7) 30 o8) 31 o9) 32 o10) 33 o11) 34 o12) 63 o15) 77 o18) 222 p1) 223 p2) 224 p3) 225 p4) 226 p5) 227 p6) 228 p7) 229 p8) 230 p9) 231 p10) 232 p11) 233 p12) (wu M 35 o13) Q := by
  obtain ⟨n, tx, s, b, U, P, E, g, K, F, un, q, gs, Ks, m, R, mi, T, Fq, Sd, Et, Pl, G, Un, O, Mt, Im⟩ := h
  have G0 := G
  have Pl0 := Pl
  have Un0 := Un
  obtain ⟨W, h8, Z, S, Y, D⟩ := G0
  obtain ⟨hb, eb, eh, p0, hP, hU99, cu, ru, ⟨H, hH, cH, rH⟩, ⟨mn, hmn, cm, rm, nm⟩, fC, fR, fE, fRE⟩ := Pl0
  obtain ⟨⟨hF, hn, hq⟩, ⟨un1, un2, un3, un4⟩, Ur, Uc⟩ := Un0
  rw [un1, un2, un3, un4]
  by_cases u0 : un = 0
  · subst u0
    have e1 := c_undo0 (th := (Q ((q + 19) % 20)).1) (mk := (Q ((q + 19) % 20)).2.1) (tn := (Q ((q + 19) % 20)).2.2.1) (sp := (Q ((q + 19) % 20)).2.2.2.1) (sz := (Q ((q + 19) % 20)).2.2.2.2.1) (ag := (Q ((q + 19) % 20)).2.2.2.2.2.1) (tr := (Q ((q + 19) % 20)).2.2.2.2.2.2.1) (ca := (Q ((q + 19) % 20)).2.2.2.2.2.2.2.1) (pl := (Q ((q + 19) % 20)).2.2.2.2.2.2.2.2.1) (lk := (Q ((q + 19) % 20)).2.2.2.2.2.2.2.2.2.1) (rt := (Q ((q + 19) % 20)).2.2.2.2.2.2.2.2.2.2.1) (cs := (Q ((q + 19) % 20)).2.2.2.2.2.2.2.2.2.2.2.1) (fr := (Q ((q + 19) % 20)).2.2.2.2.2.2.2.2.2.2.2.2.1) (cnt := (Q ((q + 19) % 20)).2.2.2.2.2.2.2.2.2.2.2.2.2.1) (rows := (Q ((q + 19) % 20)).2.2.2.2.2.2.2.2.2.2.2.2.2.2) (nI q) (A 77) (I 15) (J 2609) (J 2610) (I 2611) (I 2612) (A 27) (A 28) (A 29) (A 30) (A 31) (A 32) (A 33) (A 34) (M 35) (I 6200) (A 63)
    have e2 := r_undo0 (nI F) (A 222) (A 223) (A 224) (A 225) (A 226) (A 227) (A 228) (A 229) (A 230) (A 231) (A 232) (A 233)
    exact ⟨q, hq, rfl, _, _, _, _, _, _, _, _, _, _, _, _, _, _, _, _, _, _, _, _, _, _, _, _, _, _, _, _, _, _, _, _, _, e1, e2, n, tx, s, b, _, P, E, g, K, F, 0, q, gs, Ks, m, R, mi, T, k_refused Fq 4 (by decide), Sd, Et, Pl, G, ⟨⟨hF, hn, hq⟩, ⟨rfl, rfl, un3, rfl⟩, Ur, Uc⟩, vO_up O, Mt, Im⟩
  · obtain ⟨W1, h81, Z1, Y1, D1⟩ := Uc (un - 1) (by omega)
    have S1 := Ur (un - 1) (by omega)
    rw [show (q + 20 - un + (un - 1)) % 20 = (q + 19) % 20 by omega] at Y1 D1
    rw [show F + (un - 1) = F + un - 1 by omega] at S1
    obtain ⟨sz2, ag2, tr2, ca2, pl2, lk2, rt2, cs2, fr2, rows2, e1, Y2, D2⟩ := c_undo hq (Nat.pos_of_ne_zero u0) hn W1 Y1 D1 (A 77) (I 15) (J 2609) (J 2610) (I 2611) (I 2612) (A 27) (A 28) (A 29) (A 30) (A 31) (A 32) (A 33) (A 34) (M 35) (I 6200) (A 63)
    obtain ⟨so1, sz1, tr1, ca1, pl1, ag1, mk1, lk1, rt1, km1, kr1, e2, S2, Yr⟩ := r_undo hF (Nat.pos_of_ne_zero u0) hn S1 (A 222)
    refine ⟨q, hq, rfl, _, _, _, _, _, _, _, _, _, _, _, _, _, _, _, _, _, _, _, _, _, _, _, _, _, _, _, _, _, _, _, _, _, e1, e2, n, tx, s, b, _, P, E, gs (un - 1), Ks (un - 1), F, un - 1, (q + 19) % 20, gs, Ks, m, R, mi, T, Fq, Sd, Et, Pl, ⟨W1, h81, Z1, S2, Y2, D2⟩, ⟨⟨hF, by omega, Nat.mod_lt _ (by decide)⟩, ⟨rfl, rfl, un3, rfl⟩, fun i hi => vUr_y (v := 0) (by decide) Yr Ur i (by omega), fun i hi => ?_⟩, vO_new O hN rfl rfl rfl, Mt, Im⟩
    rw [show ((q + 19) % 20 + 20 - (un - 1) + i) % 20 = (q + 20 - un + i) % 20 by omega]
    exact Uc i (by omega)
theorem s_set (h : vW N I J B A M Q) (hN : N < 1000) (Athing Ak Ato : Int32) : ∃ q, q < 20 ∧ (I 6401) = nI q ∧ ∃ (x : Bool) (o0 : Int32) (o1 : Nat → Int32) (o2 : Nat → Int64) (o3 o4 : Int32) (o5 : Nat → Int32) (o6 o7 : Int64) (o8 o9 : Int32) (o10 o11 o12 o13 o14 o15 o16 o17 : Nat → Int32) (o18 : Nat → Int64) (o19 : Int32) (o20 : Nat → Int32) (p0 p1 : Int32) (p2 p3 p4 p5 p6 p7 p8 p9 p10 p11 p12 p13 p14 p15 : Nat → Int32), mX11_set Athing Ak Ato (I 15) (J 2609) (J 2610) (I 2611) (I 2612) (A 27) (A 28) (A 29) (A 30) (A 31) (A 32) (A 33) (A 34) (M 35) (I 6200) (A 63) (I 6400) (I 6401) (A 77) (Q q).1 (Q q).2.1 (Q q).2.2.1 (Q q).2.2.2.1 (Q q).2.2.2.2.1 (Q q).2.2.2.2.2.1 (Q q).2.2.2.2.2.2.1 (Q q).2.2.2.2.2.2.2.1 (Q q).2.2.2.2.2.2.2.2.1 (Q q).2.2.2.2.2.2.2.2.2.1 (Q q).2.2.2.2.2.2.2.2.2.2.1 (Q q).2.2.2.2.2.2.2.2.2.2.2.1 (Q q).2.2.2.2.2.2.2.2.2.2.2.2.1 (Q q).2.2.2.2.2.2.2.2.2.2.2.2.2.1 (Q q).2.2.2.2.2.2.2.2.2.2.2.2.2.2 = (x, o0, o1, o2, o3, o4, o5, o6, o7, o8, o9, o10, o11, o12, o13, o14, o15, o16, o17, o18, o19, o20) ∧ mX12_set Athing Ak Ato (I 20055) (I 20056) (A 222) (A 223) (A 224) (A 225) (A 226) (A 227) (A 228) (A 229) (A 230) (A 231) (A 232) (A 233) (A 240) (A 241) = some (x, p0, p1, p2, p3, p4, p5, p6, p7, p8, p9, p10, p11, p12, p13, p14, p15) ∧ vW (N + 1) (wu (wu (wu (wu (wu I 15 o0) 6400 o3) 6401 o4) 20055 p0) 20056 p1) J B (wu (wu (wu (wu (wu (wu (wu (wu (wu (wu (wu (wu (wu (wu (wu (wu A 32 o1) 77 o5) 222 p2) 223 p3) 224 p4) 225 p5) 226 p6) 227 p7) 228 p8) 229 p9) 230 p10) 231 p11) 232 p12) 233 p13) 240 p14) 241 p15) (wu M 35 o2) (wu Q q (o6, o7, o8, o9, o10, o11, o12, o13, o14, o15, o16, o17, o18, o19, o20)) := by
  obtain ⟨n, tx, s, b, U, P, E, g, K, F, un, q, gs, Ks, m, R, mi, T, Fq, Sd, Et, Pl, G, Un, O, Mt, Im⟩ := h
  have G0 := G
  have Pl0 := Pl
  have Un0 := Un
  obtain ⟨W, h8, Z, S, Y, D⟩ := G0
  obtain ⟨hb, eb, eh, p0, hP, hU99, cu, ru, ⟨H, hH, cH, rH⟩, ⟨mn, hmn, cm, rm, nm⟩, fC, fR, fE, fRE⟩ := Pl0
  obtain ⟨⟨hF, hn, hq⟩, ⟨un1, un2, un3, un4⟩, Ur, Uc⟩ := Un0
  obtain ⟨af, aq, e⟩ := k_set W S Y D hF hn hq Athing Ak Ato (A 222) (A 77) (A 240) (A 241) (I 15) (Q q).1 (Q q).2.1 (Q q).2.2.1 (Q q).2.2.2.1 (Q q).2.2.2.2.1 (Q q).2.2.2.2.2.1 (Q q).2.2.2.2.2.2.1 (Q q).2.2.2.2.2.2.2.1 (Q q).2.2.2.2.2.2.2.2.1 (Q q).2.2.2.2.2.2.2.2.2.1 (Q q).2.2.2.2.2.2.2.2.2.2.1 (Q q).2.2.2.2.2.2.2.2.2.2.2.1 (Q q).2.2.2.2.2.2.2.2.2.2.2.2.1 (Q q).2.2.2.2.2.2.2.2.2.2.2.2.2.1 (Q q).2.2.2.2.2.2.2.2.2.2.2.2.2.2
  rw [un1, un2, un3, un4]
  rcases e with ⟨e2, e1⟩ | ⟨g', so1, sz1, tr1, ca1, pl1, ag1, mk1, lk1, rt1, km1, kr1, clk1, cfr1, sz2, ag2, tr2, ca2, pl2, lk2, rt2, cs2, fr2, rows2, W', h8', e2, RA, e1, Y', Y2, D2⟩
  · exact ⟨q, hq, rfl, _, _, _, _, _, _, _, _, _, _, _, _, _, _, _, _, _, _, _, _, _, _, _, _, _, _, _, _, _, _, _, _, _, _, _, _, _, _, e1, e2, n, tx, s, b, _, P, E, g, K, F, un, q, gs, Ks, m, R, mi, T, k_refused Fq 3 (by decide), Sd, Et, Pl, G, ⟨⟨hF, hn, hq⟩, ⟨rfl, rfl, rfl, rfl⟩, Ur, vUc_same (q0 := q) Uc⟩, vO_up O, Mt, Im⟩
  · exact ⟨q, hq, rfl, _, _, _, _, _, _, _, _, _, _, _, _, _, _, _, _, _, _, _, _, _, _, _, _, _, _, _, _, _, _, _, _, _, _, _, _, _, _, e1, e2, n, tx, s, b, _, P, E, g', K, pF F un, pU un, (q + 1) % 20, kG un g gs, kG un K Ks, m, R, mi, T, Fq, Sd, Et, Pl, ⟨W', by rw [h8']; exact h8, vZ_sz Z W W' Y.1 Y'.1, RA.2.1, Y', D⟩, ⟨⟨pF_lt hF, pU_le hn, Nat.mod_lt _ (by decide)⟩, ⟨rfl, rfl, rfl, rfl⟩, vUr_keep hF hn Ur RA.1 RA.2.2, vUc_keep hq hn Uc W h8 Z Y2 D2⟩, vO_new O hN rfl rfl rfl, Mt, Im⟩
theorem s_aim (h : vW N I J B A M Q) (hN : N < 1000) (Aroot Ato : Int32) : ∃ q, q < 20 ∧ (I 6401) = nI q ∧ ∃ (x : Bool) (o0 : Int32) (o1 : Nat → Int32) (o2 o3 : Int32) (o4 : Nat → Int32) (o5 o6 : Int64) (o7 o8 : Int32) (o9 o10 o11 o12 o13 o14 o15 o16 : Nat → Int32) (o17 : Nat → Int64) (o18 : Int32) (o19 : Nat → Int32) (p0 p1 : Int32) (p2 p3 p4 p5 p6 p7 p8 p9 p10 p11 p12 p13 p14 p15 : Nat → Int32), mX11_aim Aroot Ato (I 15) (J 2609) (J 2610) (I 2611) (I 2612) (A 27) (A 28) (A 29) (A 30) (A 31) (A 32) (A 33) (A 34) (M 35) (I 6200) (A 63) (I 6400) (I 6401) (A 77) (Q q).1 (Q q).2.1 (Q q).2.2.1 (Q q).2.2.2.1 (Q q).2.2.2.2.1 (Q q).2.2.2.2.2.1 (Q q).2.2.2.2.2.2.1 (Q q).2.2.2.2.2.2.2.1 (Q q).2.2.2.2.2.2.2.2.1 (Q q).2.2.2.2.2.2.2.2.2.1 (Q q).2.2.2.2.2.2.2.2.2.2.1 (Q q).2.2.2.2.2.2.2.2.2.2.2.1 (Q q).2.2.2.2.2.2.2.2.2.2.2.2.1 (Q q).2.2.2.2.2.2.2.2.2.2.2.2.2.1 (Q q).2.2.2.2.2.2.2.2.2.2.2.2.2.2 = (x, o0, o1, o2, o3, o4, o5, o6, o7, o8, o9, o10, o11, o12, o13, o14, o15, o16, o17, o18, o19) ∧ mX12_aim Aroot Ato (I 20055) (I 20056) (A 222) (A 223) (A 224) (A 225) (A 226) (A 227) (A 228) (A 229) (A 230) (A 231) (A 232) (A 233) (A 240) (A 241) = some (x, p0, p1, p2, p3, p4, p5, p6, p7, p8, p9, p10, p11, p12, p13, p14, p15) ∧ vW (N + 1) (wu (wu (wu (wu (wu I 15 o0) 6400 o2) 6401 o3) 20055 p0) 20056 p1) J B (wu (wu (wu (wu (wu (wu (wu (wu (wu (wu (wu (wu (wu (wu (wu (wu A 33 o1) 77 o4) 222 p2) 223 p3) 224 p4) 225 p5) 226 p6) 227 p7) 228 p8) 229 p9) 230 p10) 231 p11) 232 p12) 233 p13) 240 p14) 241 p15) M (wu Q q (o5, o6, o7, o8, o9, o10, o11, o12, o13, o14, o15, o16, o17, o18, o19)) := by
  obtain ⟨n, tx, s, b, U, P, E, g, K, F, un, q, gs, Ks, m, R, mi, T, Fq, Sd, Et, Pl, G, Un, O, Mt, Im⟩ := h
  have G0 := G
  have Pl0 := Pl
  have Un0 := Un
  obtain ⟨W, h8, Z, S, Y, D⟩ := G0
  obtain ⟨hb, eb, eh, p0, hP, hU99, cu, ru, ⟨H, hH, cH, rH⟩, ⟨mn, hmn, cm, rm, nm⟩, fC, fR, fE, fRE⟩ := Pl0
  obtain ⟨⟨hF, hn, hq⟩, ⟨un1, un2, un3, un4⟩, Ur, Uc⟩ := Un0
  obtain ⟨af, aq, e⟩ := k_aim W S Y D hF hn hq Aroot Ato (A 222) (A 77) (A 240) (A 241) (I 15) (Q q).1 (Q q).2.1 (Q q).2.2.1 (Q q).2.2.2.1 (Q q).2.2.2.2.1 (Q q).2.2.2.2.2.1 (Q q).2.2.2.2.2.2.1 (Q q).2.2.2.2.2.2.2.1 (Q q).2.2.2.2.2.2.2.2.1 (Q q).2.2.2.2.2.2.2.2.2.1 (Q q).2.2.2.2.2.2.2.2.2.2.1 (Q q).2.2.2.2.2.2.2.2.2.2.2.1 (Q q).2.2.2.2.2.2.2.2.2.2.2.2.1 (Q q).2.2.2.2.2.2.2.2.2.2.2.2.2.1 (Q q).2.2.2.2.2.2.2.2.2.2.2.2.2.2
  rw [un1, un2, un3, un4]
  rcases e with ⟨e2, e1⟩ | ⟨g', so1, sz1, tr1, ca1, pl1, ag1, mk1, lk1, rt1, km1, kr1, crt1, sz2, ag2, tr2, ca2, pl2, lk2, rt2, cs2, fr2, rows2, W', h8', e2, RA, e1, Y', Y2, D2⟩
  · exact ⟨q, hq, rfl, _, _, _, _, _, _, _, _, _, _, _, _, _, _, _, _, _, _, _, _, _, _, _, _, _, _, _, _, _, _, _, _, _, _, _, _, _, e1, e2, n, tx, s, b, _, P, E, g, K, F, un, q, gs, Ks, m, R, mi, T, k_refused Fq 3 (by decide), Sd, Et, Pl, G, ⟨⟨hF, hn, hq⟩, ⟨rfl, rfl, rfl, rfl⟩, Ur, vUc_same (q0 := q) Uc⟩, vO_up O, Mt, Im⟩
  · exact ⟨q, hq, rfl, _, _, _, _, _, _, _, _, _, _, _, _, _, _, _, _, _, _, _, _, _, _, _, _, _, _, _, _, _, _, _, _, _, _, _, _, _, e1, e2, n, tx, s, b, _, P, E, g', K, pF F un, pU un, (q + 1) % 20, kG un g gs, kG un K Ks, m, R, mi, T, Fq, Sd, Et, Pl, ⟨W', by rw [h8']; exact h8, vZ_sz Z W W' Y.1 Y'.1, RA.2.1, Y', D⟩, ⟨⟨pF_lt hF, pU_le hn, Nat.mod_lt _ (by decide)⟩, ⟨rfl, rfl, rfl, rfl⟩, vUr_keep hF hn Ur RA.1 RA.2.2, vUc_keep hq hn Uc W h8 Z Y2 D2⟩, vO_new O hN rfl rfl rfl, Mt, Im⟩
theorem s_make (h : vW N I J B A M Q) (hN : N < 1000) (Asize Aroot : Int32) : ∃ q, q < 20 ∧ (I 6401) = nI q ∧ ∃ (x o0 : Int32) (o1 : Int64) (o2 : Int32) (o3 o4 o5 o6 o7 o8 o9 : Nat → Int32) (o10 : Int32) (o11 o12 : Nat → Int32) (o13 o14 : Int32) (o15 : Nat → Int32) (o16 o17 : Int64) (o18 o19 : Int32) (o20 o21 o22 o23 o24 o25 o26 o27 : Nat → Int32) (o28 : Nat → Int64) (o29 : Int32) (o30 : Nat → Int32) (p0 p1 : Int32) (p2 p3 p4 p5 p6 p7 p8 p9 p10 p11 p12 p13 : Nat → Int32) (p14 : Nat → Int64) (p15 : Nat → Int32), mX11_make Asize Aroot (I 15) (I 1600) (A 23) (A 24) (A 25) (J 2609) (J 2610) (I 2611) (I 2612) (A 27) (A 28) (A 29) (A 30) (A 31) (A 32) (A 33) (A 34) (M 35) (I 5702) (A 58) (A 59) (I 6200) (A 63) (I 6400) (I 6401) (A 77) (Q q).1 (Q q).2.1 (Q q).2.2.1 (Q q).2.2.2.1 (Q q).2.2.2.2.1 (Q q).2.2.2.2.2.1 (Q q).2.2.2.2.2.2.1 (Q q).2.2.2.2.2.2.2.1 (Q q).2.2.2.2.2.2.2.2.1 (Q q).2.2.2.2.2.2.2.2.2.1 (Q q).2.2.2.2.2.2.2.2.2.2.1 (Q q).2.2.2.2.2.2.2.2.2.2.2.1 (Q q).2.2.2.2.2.2.2.2.2.2.2.2.1 (Q q).2.2.2.2.2.2.2.2.2.2.2.2.2.1 (Q q).2.2.2.2.2.2.2.2.2.2.2.2.2.2 = (x, o0, o1, o2, o3, o4, o5, o6, o7, o8, o9, o10, o11, o12, o13, o14, o15, o16, o17, o18, o19, o20, o21, o22, o23, o24, o25, o26, o27, o28, o29, o30) ∧ mX12_make Asize Aroot (I 20013) (B 20042) (I 20055) (I 20056) (A 202) (A 211) (A 212) (A 213) (A 214) (A 222) (A 223) (A 224) (A 225) (A 226) (A 227) (A 228) (A 229) (A 230) (A 231) (A 232) (A 233) (M 234) (A 235) = some (x, p0, p1, p2, p3, p4, p5, p6, p7, p8, p9, p10, p11, p12, p13, p14, p15) ∧ vW (N + 1) (wu (wu (wu (wu (wu (wu (wu I 15 o0) 2611 o2) 5702 o10) 6400 o13) 6401 o14) 20055 p0) 20056 p1) (wu J 2609 o1) B (wu (wu (wu (wu (wu (wu (wu (wu (wu (wu (wu (wu (wu (wu (wu (wu (wu (wu (wu (wu (wu (wu (wu A 27 o3) 28 o4) 29 o5) 30 o6) 31 o7) 33 o8) 34 o9) 58 o11) 59 o12) 77 o15) 222 p2) 223 p3) 224 p4) 225 p5) 226 p6) 227 p7) 228 p8) 229 p9) 230 p10) 231 p11) 232 p12) 233 p13) 235 p15) (wu M 234 p14) (wu Q q (o16, o17, o18, o19, o20, o21, o22, o23, o24, o25, o26, o27, o28, o29, o30)) := by
  obtain ⟨n, tx, s, b, U, P, E, g, K, F, un, q, gs, Ks, m, R, mi, T, Fq, Sd, Et, Pl, G, Un, O, Mt, Im⟩ := h
  have G0 := G
  have Pl0 := Pl
  have Un0 := Un
  obtain ⟨W, h8, Z, S, Y, D⟩ := G0
  obtain ⟨hb, eb, eh, p0, hP, hU99, cu, ru, ⟨H, hH, cH, rH⟩, ⟨mn, hmn, cm, rm, nm⟩, fC, fR, fE, fRE⟩ := Pl0
  obtain ⟨⟨hF, hn, hq⟩, ⟨un1, un2, un3, un4⟩, Ur, Uc⟩ := Un0
  have hE : 0 < U → cE (A 23) (A 24) (A 25) E ∧ rE b (A 211) (A 212) (A 213) (A 214) E := fun _ => ⟨fE, fRE⟩
  have e := k_make hb ru hU99 hE W h8 S Y D hF hn hq Asize Aroot (A 222) (A 77) (M 234) (A 235) (I 15) (I 5702) (A 58) (A 59) (Q q).1 (Q q).2.1 (Q q).2.2.1 (Q q).2.2.2.1 (Q q).2.2.2.2.1 (Q q).2.2.2.2.2.1 (Q q).2.2.2.2.2.2.1 (Q q).2.2.2.2.2.2.2.1 (Q q).2.2.2.2.2.2.2.2.1 (Q q).2.2.2.2.2.2.2.2.2.1 (Q q).2.2.2.2.2.2.2.2.2.2.1 (Q q).2.2.2.2.2.2.2.2.2.2.2.1 (Q q).2.2.2.2.2.2.2.2.2.2.2.2.1 (Q q).2.2.2.2.2.2.2.2.2.2.2.2.2.1 (Q q).2.2.2.2.2.2.2.2.2.2.2.2.2.2
  rw [un1, un2, un3, un4, cu, eb, eh]
  rcases e with ⟨e2, e1⟩ | ⟨g', t, so1, sz1, tr1, ca1, pl1, ag1, mk1, lk1, rt1, km1, kr1, sk, ask, cth1, ctn1, csz1, cag1, ctr1, cca1, cpl1, crt1, ccs1, top, fa, sc, sz2, ag2, tr2, ca2, pl2, lk2, rt2, cs2, fr2, rows2, W', h8', ht, e2, RA, e1, Y', Y2, D2⟩
  · exact ⟨q, hq, rfl, _, _, _, _, _, _, _, _, _, _, _, _, _, _, _, _, _, _, _, _, _, _, _, _, _, _, _, _, _, _, _, _, _, _, _, _, _, _, _, _, _, _, _, _, _, _, _, _, e1, e2, n, tx, s, b, _, P, E, g, K, F, un, q, gs, Ks, m, R, mi, T, k_refused Fq 3 (by decide), Sd, Et, Pl, G, ⟨⟨hF, hn, hq⟩, ⟨rfl, rfl, rfl, rfl⟩, Ur, vUc_same (q0 := q) Uc⟩, vO_up O, Mt, Im⟩
  · have u : vZ U g' := fun u => by
      exfalso
      rw [u] at e1
      have e3 := congrArg Prod.fst e1
      have e4 : (-1 : Int32) = nI t := e3
      exact nI_m1 (by omega) e4.symm
    exact ⟨q, hq, rfl, _, _, _, _, _, _, _, _, _, _, _, _, _, _, _, _, _, _, _, _, _, _, _, _, _, _, _, _, _, _, _, _, _, _, _, _, _, _, _, _, _, _, _, _, _, _, _, _, e1, e2, n, tx, s, b, _, P, E, g', K, pF F un, pU un, (q + 1) % 20, kG un g gs, kG un K Ks, m, R, mi, T, Fq, Sd, Et, Pl, ⟨W', by rw [h8']; exact h8, u, RA.2.1, Y', D⟩, ⟨⟨pF_lt hF, pU_le hn, Nat.mod_lt _ (by decide)⟩, ⟨rfl, rfl, rfl, rfl⟩, vUr_keep hF hn Ur RA.1 RA.2.2, vUc_keep hq hn Uc W h8 Z Y2 D2⟩, vO_new O hN rfl rfl rfl, Mt, Im⟩
end SW
