/-- the plan in force, of both sides -/
def wPl (b : Nat) (P : NP) (L : List (Nat × Nat)) (un hn sm tq rn cd : Int32) (nmc ps bg lc ln rr co cf cl : Nat → Int32) (TT : Nat → Nat → Int32) (nm : Nat → Int64) : Prop :=
  nOkP P L ∧ nInv P L ∧ L.length ≤ 1600 ∧ 8 ≤ P 0 0 ∧ (∃ du, cPl P L un hn sm tq rn cd nmc ps bg lc ln rr co cf cl du) ∧ ∃ (tx : Nat → Nat) (n : Nat) (CS0 CV0 : Nat → Int32) (trd cds : Int32), rPl tx n b P L CS0 CV0 trd cds TT nm
theorem rput_fr {A A0 : Nat → Int32} {c : Nat} {l : List Nat} (h : ∀ j, c ≤ j → j < c + l.length → A j = rput A0 c l j) : A = rput A c l := by
  funext j
  by_cases w : c ≤ j ∧ j < c + l.length
  · rw [h j w.1 w.2]
    obtain ⟨q, hq, rfl⟩ : ∃ q, q < l.length ∧ j = c + q := ⟨j - c, by omega, by omega⟩
    rw [rput_in l A0 c q hq, rput_in l A c q hq]
  · rw [rput_out l A c j (by omega)]
/-- what is told of the other bank leaves it -/
theorem wPl_fr {b i : Nat} (hb : b < 2) (hi : i < 2) (hne : i ≠ b) {P : NP} {L : List (Nat × Nat)} {un hn sm tq rn cd : Int32} {nmc ps bg lc ln rr co cf cl : Nat → Int32} {TT T' : Nat → Nat → Int32} {nm nm' : Nat → Int64} (h : wPl b P L un hn sm tq rn cd nmc ps bg lc ln rr co cf cl TT nm) (o : rOut i T' TT nm' nm) : wPl b P L un hn sm tq rn cd nmc ps bg lc ln rr co cf cl T' nm' := by
  obtain ⟨h1, h2, h3, h4, h5, tx, n, CS0, CV0, trd, cds, r1, r2, r3, r4, r5, r6, r7, r8, r9, r10, r11, r12, r13⟩ := h
  obtain ⟨o0, o1, o2, o3, o4, o5, o6, o7, o8, o9, o10, o11, o12, o13⟩ := o
  have p4 := h1.2.2.2.1
  have p5 := h1.2.2.2.2.1
  have p9 := h1.2.2.2.2.2.2.2.2.2.1
  have d : ∀ s j, j < s → s * b + j < s * i ∨ s * (i + 1) ≤ s * b + j := by
    intro s j hj
    rcases (show (b = 0 ∧ i = 1) ∨ (b = 1 ∧ i = 0) by omega) with ⟨e1, e2⟩ | ⟨e1, e2⟩
    · subst e1 e2; omega
    · subst e1 e2; omega
  have lS : ∀ l : List (Nat × Nat), (oSo l).length = l.length := fun l => by unfold oSo; rw [List.length_map]
  have lV : ∀ l : List (Nat × Nat), (oVa l).length = l.length := fun l => by unfold oVa; rw [List.length_map]
  refine ⟨h1, h2, h3, h4, h5, tx, n, T' 11, T' 12, trd, cds, ?_, ?_, ?_, ?_, r5, r6, fun t ht => ⟨?_, ?_, ?_⟩, fun t k ht hk => ?_, fun k hk => ?_, fun w hw => ⟨?_, fun z => ?_⟩, rput_fr (A0 := CS0) (fun j h1 h2 => ?_), rput_fr (A0 := CV0) (fun j h1 h2 => ?_), fun t ht => ⟨?_, (r13 t ht).2⟩⟩
  · rw [o0 b (by have := d 1 0 (by decide); omega)]; exact r1
  · rw [o1 b (by have := d 1 0 (by decide); omega)]; exact r2
  · rw [o6 b (by have := d 1 0 (by decide); omega)]; exact r3
  · rw [o8 b (by have := d 1 0 (by decide); omega)]; exact r4
  · rw [o2 _ (d 24 t (by omega))]; exact (r7 t ht).1
  · rw [o3 _ (d 24 t (by omega))]; exact (r7 t ht).2.1
  · rw [o5 _ (d 24 t (by omega))]; exact (r7 t ht).2.2
  · have q4 := h1.2.2.2.2.2.2.2.2.2.1 t
    rw [o4 _ (by have := d 96 (4 * t + k) (by omega); omega)]; exact r8 t k ht hk
  · rw [o7 _ (d 8 k (by omega))]; exact r9 k hk
  · rw [o9 _ (d 3 w hw)]; exact (r10 w hw).1
  · rw [o10 _ (d 3 w hw)]; exact (r10 w hw).2 z
  · rw [lS] at h2
    rw [o11 j (by have := d 1600 (j - 1600 * b) (by omega); omega), r11]
  · rw [lV] at h2
    rw [o12 j (by have := d 1600 (j - 1600 * b) (by omega); omega), r12]
  · rw [o13 _ (d 24 t (by omega))]; exact (r13 t ht).1
section KH
variable {n b : Nat} {tx : Nat → Nat} {tc tp : Nat → Int32}
/-- heap, on both sides -/
theorem k_heap (T : kTp n tx tc tp) (hb : b < 2) (v0 : Int32) (w0 : Int64) (law d0 o0 q0 : Int32) (b0 isH : Bool) (und met : Int32) (ut to st tt lt ls rs rq ch sf sb cs cv : Nat → Int32) (nm : Nat → Int64) (fr ph be pa ba op rf so sz tr ca pl ag mk lk rt km kr : Nat → Int32) (chg : Int32) (rst rtp : Int32) (rks rss rvs rnm rsz rbg rlc rln rrr rco rcf rcl : Nat → Int32) (cth cmk : Int64) (ctn csp : Int32) (csz cag ctr cca cpl clk crt ccs : Nat → Int32) (cfr : Nat → Int64) (cnt pn gm : Int32) (rg : Nat → Int32) :
    (∃ (kd pl0 : Int32), (0 < kd) ∧ (∃ (a1 a2 a3 a4 : Int32) (a5 : Int64) (a6 a7 a8 a9 a10 a11 a12 : Int32) (a13 : Bool) (ut' to' st' tt' lt' ls' rs' rq' ch' sf' sb' cs' cv' : Nat → Int32) (nm' : Nat → Int64) (fr' ph' be' pa' ba' op' : Nat → Int32), mX12_heap (nI n) v0 w0 (nI b) law d0 o0 q0 b0 isH und met tp ut to st tt lt ls rs rq ch sf sb cs cv nm fr ph be pa ba op rf so sz tr ca pl ag mk lk rt km = some (-1, 0, nI n, a1, a2, a3, a4, a5, kd, pl0, kd, pl0, a6, nI b, a7, nI (1 - b), a8, a9, a10, a11, a12, a13, isH, und, met, ut', to', st', tt', lt', ls', rs', rq', ch', sf', sb', cs', cv', nm', fr', ph', be', pa', ba', op', upd rf 1 (rf 1 + 1), so, sz, tr, ca, pl, ag, mk, lk, rt, km) ∧ rOut (1 - b) (tB ut' to' st' tt' lt' ls' rs' rq' ch' sf' sb' cs' cv') (tB ut to st tt lt ls rs rq ch sf sb cs cv) nm' nm) ∧
      ∃ (s4 : Int32) (s5 : Int32) (s6 : Int32) (s7 : Int32) (s8 : Int32) (s9 : Int32) (s10 : Int32) (s11 : Bool) (s12 : Nat → Int32) (s13 : Nat → Int32) (s14 : Nat → Int32) (s15 : Int32) (s16 : Int32) (s17 : Int32) (s18 : Int32) (s19 : Int32) (s20 : Int32) (s21 : Nat → Int32) (s22 : Nat → Int32) (s23 : Nat → Int32) (s24 : Nat → Int32) (s25 : Nat → Int32) (s26 : Nat → Int32) (s27 : Nat → Int32) (s28 : Nat → Int32) (s29 : Nat → Int32), mX11_heap (nI n) chg tc rst rtp rks rss rvs rnm rsz rbg rlc rln rrr rco rcf rcl cth cmk ctn csp csz cag ctr cca cpl clk crt ccs cfr cnt pn gm rg = some (-1, 0, 16, chg, kd, pl0, 6, s4, s5, s6, s7, s8, s9, s10, s11, s12, s13, s14, s15, s16, s17, s18, s19, s20, s21, s22, s23, s24, s25, s26, s27, s28, s29, cth, cmk, ctn, csp, csz, cag, ctr, cca, cpl, clk, crt, ccs, cfr, cnt, pn, gm, upd rg 1 (rg 1 + 1))) ∨
    ∃ (P : NP) (L : List (Nat × Nat)), gW (gHp P) ∧ gHp P 8 0 = 0 ∧ (∃ (a1 a2 a3 a4 : Int32) (a5 : Int64) (a6 a7 a8 a9 a10 a11 a12 : Int32) (a13 : Bool) (ut' to' st' tt' lt' ls' rs' rq' ch' sf' sb' cs' cv' : Nat → Int32) (nm' : Nat → Int64) (fr' ph' be' pa' ba' op' : Nat → Int32) (sz' tr' ca' pl' ag' mk' lk' rt' : Nat → Int32), mX12_heap (nI n) v0 w0 (nI b) law d0 o0 q0 b0 isH und met tp ut to st tt lt ls rs rq ch sf sb cs cv nm fr ph be pa ba op rf so sz tr ca pl ag mk lk rt km = some (nI (P 0 2), 0, nI n, a1, a2, a3, a4, a5, 0, -1, 0, -1, a6, nI (1 - b), a7, nI (1 - b), a8, a9, a10, a11, a12, a13, true, 0, 0, ut', to', st', tt', lt', ls', rs', rq', ch', sf', sb', cs', cv', nm', fr', ph', be', pa', ba', op', rf, upd so 0 0, sz', tr', ca', pl', ag', mk', lk', rt', upd km 0 0) ∧ rS 0 (gHp P) (0, fun _ => 0) (upd so 0 0) sz' tr' ca' pl' ag' mk' lk' rt' (upd km 0 0) kr ∧ rY 0 so sz tr ca pl ag mk lk rt km kr (upd so 0 0) sz' tr' ca' pl' ag' mk' lk' rt' (upd km 0 0) kr ∧
      ∃ (s4 : Int32) (s5 : Int32) (s6 : Int32) (s7 : Int32) (s8 : Int32) (s9 : Int32) (s10 : Int32) (s11 : Bool) (s12 : Nat → Int32) (s13 : Nat → Int32) (s14 : Nat → Int32) (s15 : Int32) (s16 : Int32) (s17 : Int32) (s18 : Int32) (s19 : Int32) (s20 : Int32) (s21 : Nat → Int32) (s22 : Nat → Int32) (s23 : Nat → Int32) (s24 : Nat → Int32) (s25 : Nat → Int32) (s26 : Nat → Int32) (s27 : Nat → Int32) (s28 : Nat → Int32) (s29 : Nat → Int32) (th mk2 : Int64) (tn sp : Int32) (sz2 ag2 tr2 ca2 pl2 lk2 rt2 cs2 : Nat → Int32) (fr2 : Nat → Int64), mX11_heap (nI n) chg tc rst rtp rks rss rvs rnm rsz rbg rlc rln rrr rco rcf rcl cth cmk ctn csp csz cag ctr cca cpl clk crt ccs cfr cnt pn gm rg = some (nI (P 0 2), 0, 6, chg + 1, 0, -1, 16, s4, s5, s6, s7, s8, s9, s10, s11, s12, s13, s14, s15, s16, s17, s18, s19, s20, s21, s22, s23, s24, s25, s26, s27, s28, s29, th, mk2, tn, sp, sz2, ag2, tr2, ca2, pl2, lk2, rt2, cs2, fr2, 0, 0, 0, rg) ∧ cY (gHp P) sz2 ag2 tr2 ca2 pl2 lk2 rt2 cs2 fr2 th mk2 tn sp ∧ wPl (1 - b) P L s15 s16 s17 s18 s19 s20 s21 s22 s23 s24 s25 s26 s27 s28 s29 (tB ut' to' st' tt' lt' ls' rs' rq' ch' sf' sb' cs' cv') nm') := by
  obtain ⟨hn, hT⟩ := T
  have ht1 : ∀ i, i < n → tc i = nI (tx i) := fun i h => (hT i h).1
  have ht2 : ∀ i, i < n → tp i = nI (tx i) := fun i h => (hT i h).2.1
  have hb2 : ∀ i, i < n → tx i < 256 := fun i h => (hT i h).2.2
  have hi : 1 - b < 2 := by omega
  have hbk : 1 - nI b = nI (1 - b) := by
    rcases (show b = 0 ∨ b = 1 by omega) with e | e
    · subst e; rfl
    · subst e; rfl
  obtain ⟨B, T1, ks1, ss1, vs1, e1, b1, b2, ⟨b3, b4, b5, b6⟩⟩ := s_cut tx n tp hn ht2 hb2 (fun _ => 0) (fun _ => 0) (fun _ => 0)
  have inv := nAll_inv (B := B) hn hb2 b4 b5 b3
  obtain ⟨T2, ks2, ss2, vs2, t1, hc⟩ := j_all tx n hn ht1 hb2 rst rtp rks rss rvs rnm rsz rbg rlc rln rrr rco rcf rcl
  obtain ⟨m', a, b', c, d, e, F, Q', f9, cds', trd', law', d', o', q', b1', ut', to', st', tt', lt', ls', rs', rq', ch', sf', sb', cs', cv', nm', fr', ph', be', pa', ba', op', er, hO, hR⟩ := r_heap (isH := isH) (und := und) (met := met) (c1 := rf) (c2 := so) (c3 := sz) (c4 := tr) (c5 := ca) (c6 := pl) (c7 := ag) (c8 := mk) (c9 := lk) (c10 := rt) (c11 := km) hn ht2 hb2 hi hbk v0 w0 law d0 o0 q0 b0 ut to st tt lt ls rs rq ch sf sb cs cv nm fr ph be pa ba op
  rw [er]
  generalize hr : (nAll (tK tx n) (tV tx n) (tS tx n) n) = r at *
  rcases hR with ⟨f1, ⟨f2, f3⟩, f4, f5, f6, f7⟩ | ⟨f1, f2, f3, f4⟩
  · rcases hc with ⟨g1, g2, g3, g4, now, kd, st1, v, tp1, du, un, hn, sm, tq, rn, cd, nmc, ps, bg, lc, ln, rr, co, cf, cl, g5, g6⟩ | ⟨g1, _⟩
    · obtain ⟨i1, i2⟩ := inv g1
      obtain ⟨th, mk2, tn, sp, sz2, ag2, tr2, ca2, pl2, lk2, rt2, cs2, fr2, se, sY⟩ := c_settle g2 i1 g5 csz cag ctr cca cpl clk crt ccs cfr
      obtain ⟨sz', tr', ca', pl', ag', mk', lk', rt', be, bS, bY⟩ := r_begin g2 i1 f4 hi so sz tr ca pl ag mk lk rt km kr
      obtain ⟨W, -, -⟩ := gHp_w g2 i1
      have eqC : mX11_heap (nI n) chg tc rst rtp rks rss rvs rnm rsz rbg rlc rln rrr rco rcf rcl cth cmk ctn csp csz cag ctr cca cpl clk crt ccs cfr cnt pn gm rg = some (nI (r.2.2.2.1 0 2), 0, 6, chg + 1, 0, -1, 16, nI T2, now, kd, st1, v, 0, tp1, du, ks2, ss2, vs2, un, hn, sm, tq, rn, cd, nmc, ps, bg, lc, ln, rr, co, cf, cl, th, mk2, tn, sp, sz2, ag2, tr2, ca2, pl2, lk2, rt2, cs2, fr2, 0, 0, 0, rg) := by
        unfold mX11_heap mX11_takeTape
        rw [xlet_eq, xu_q, g6, obind]
        repeat rw [xu_q]
        rw [if_pos rfl, se, xlet_eq]
        repeat rw [xu_q]
        unfold mX11_startAfresh
        rw [xlet_eq, xlet_eq]
        repeat rw [xu_q]
        rw [g5.2.2.1]
        rfl
      refine Or.inr ⟨r.2.2.2.1, r.2.2.2.2, W, gLys_o (P := r.2.2.2.1) (r.2.2.2.1 0 3) (a := 8) (by decide) 0, a, b', c, d, e, f9, cds', trd', law', d', o', q', b1', ut', to', st', tt', lt', ls', rs', rq', ch', sf', sb', cs', cv', nm', fr', ph', be', pa', ba', op', sz', tr', ca', pl', ag', mk', lk', rt', ?_, bS, bY, nI T2, now, kd, st1, v, 0, tp1, du, ks2, ss2, vs2, un, hn, sm, tq, rn, cd, nmc, ps, bg, lc, ln, rr, co, cf, cl, th, mk2, tn, sp, sz2, ag2, tr2, ca2, pl2, lk2, rt2, cs2, fr2, eqC, sY, g2, i1, g3, i2, ⟨du, g5⟩, tx, n, cs, cv, trd', cds', f4⟩
      unfold mX12_heap_154
      rw [f2, hbk, if_neg (show ¬ (0 : Int32) < 0 by decide), be, obind]
      repeat rw [xu_q]
      rw [f3, f5]
      rfl
    · exact absurd f1 g1
  · rcases hc with ⟨g1, _⟩ | ⟨-, -, s, g6⟩
    · exact absurd g1 f1
    · obtain ⟨s4, s5, s6, s7, s8, s9, s10, s11, s12, s13, s14, s15, s16, s17, s18, s19, s20, s21, s22, s23, s24, s25, s26, s27, s28, s29⟩ := s
      have eqC : mX11_heap (nI n) chg tc rst rtp rks rss rvs rnm rsz rbg rlc rln rrr rco rcf rcl cth cmk ctn csp csz cag ctr cca cpl clk crt ccs cfr cnt pn gm rg = some (-1, 0, 16, chg, nI r.1, nI r.2.1, 6, s4, s5, s6, s7, s8, s9, s10, s11, s12, s13, s14, s15, s16, s17, s18, s19, s20, s21, s22, s23, s24, s25, s26, s27, s28, s29, cth, cmk, ctn, csp, csz, cag, ctr, cca, cpl, clk, crt, ccs, cfr, cnt, pn, gm, upd rg 1 (rg 1 + 1)) := by
        unfold mX11_heap mX11_takeTape
        rw [xlet_eq, xu_q, g6, obind]
        repeat rw [xu_q]
        rw [if_neg (by decide), show mX11_refuse (1 : Int32) rg = (-1, upd rg 1 (rg 1 + 1)) from c_refuse (k := 1) (by decide) rg, xlet_eq, xu_q]
      refine Or.inl ⟨nI r.1, nI r.2.1, nI_lt (a := 0) (by omega) (by omega), ⟨a, b', c, d, e, f9, cds', trd', law', d', o', q', b1', ut', to', st', tt', lt', ls', rs', rq', ch', sf', sb', cs', cv', nm', fr', ph', be', pa', ba', op', ?_, hO⟩, s4, s5, s6, s7, s8, s9, s10, s11, s12, s13, s14, s15, s16, s17, s18, s19, s20, s21, s22, s23, s24, s25, s26, s27, s28, s29, eqC⟩
      unfold mX12_heap_154
      rw [f3, f4, if_pos (show (0 : Int32) < nI r.1 from nI_lt (a := 0) (by omega) (by omega)), hbk, show mX12_refuses (1 : Int32) rf = some (-1, upd rf 1 (rf 1 + 1)) from r_refuses (k := 1) (by decide) rf, obind, xu_q]
end KH
