section IV2
variable {tx : Nat → Nat} {n U b : Nat} {tc tp ut : Nat → Int32} {g : GH} {K : GK}
/-- on, on both sides -/
theorem k_on (T : kTp n tx tc tp) (hbk : b < 2) (hU : ut b = nI U) (hU2 : U ≤ 99) {so sz tr ca pl ag mk lk rt km kr : Nat → Int32} (S : rS 0 g K so sz tr ca pl ag mk lk rt km kr) (und chg cnt pn : Int32) (rf rg : Nat → Int32) (cth cmk : Int64) (ctn csp : Int32) (csz cag ctr cca cpl clk crt ccs : Nat → Int32) (cfr : Nat → Int64) (dth dmk : Int64) (dtn dsp : Int32) (dsz dag dtr dca dpl dlk drt dcs : Nat → Int32) (dfr : Nat → Int64) :
    (∃ g', gW g' ∧ g' 8 0 ≤ 999 ∧ ∃ so1 sz1 tr1 ca1 pl1 ag1 mk1 lk1 rt1 km1 kr1, mX12_on (nI n) (nI b) (decide (0 < U)) und tp ut rf so sz tr ca pl ag mk lk rt km kr = some (true, 0, 0, rf, so1, sz1, tr1, ca1, pl1, ag1, mk1, lk1, rt1, km1, kr1) ∧ rS 0 g' (0, fun _ => 0) so1 sz1 tr1 ca1 pl1 ag1 mk1 lk1 rt1 km1 kr1 ∧ (∀ u h L, u ≠ 0 → u ≠ 1 → rS u h L so sz tr ca pl ag mk lk rt km kr → rS u h L so1 sz1 tr1 ca1 pl1 ag1 mk1 lk1 rt1 km1 kr1) ∧ ∃ (th2 mk2 : Int64) (tn2 sp2 : Int32) (sz3 ag3 tr3 ca3 pl3 lk3 rt3 cs3 : Nat → Int32) (fr3 : Nat → Int64) (dth' dmk' : Int64) (dtn' dsp' : Int32) (dsz' dag' dtr' dca' dpl' dlk' drt' dcs' : Nat → Int32) (dfr' : Nat → Int64), mX11_on (nI n) chg tc (nI U) cth cmk ctn csp csz cag ctr cca cpl clk crt ccs cfr dth dmk dtn dsp dsz dag dtr dca dpl dlk drt dcs dfr cnt pn rg = (true, 0, chg + 1, th2, mk2, tn2, sp2, sz3, ag3, tr3, ca3, pl3, lk3, rt3, cs3, fr3, dth', dmk', dtn', dsp', dsz', dag', dtr', dca', dpl', dlk', drt', dcs', dfr', 0, 0, rg) ∧ cY g' sz3 ag3 tr3 ca3 pl3 lk3 rt3 cs3 fr3 th2 mk2 tn2 sp2) ∨
    (∃ so1 sz1 tr1 ca1 pl1 ag1 mk1 lk1 rt1 km1 kr1, mX12_on (nI n) (nI b) (decide (0 < U)) und tp ut rf so sz tr ca pl ag mk lk rt km kr = some (false, 0, und, upd rf 5 (rf 5 + 1), so1, sz1, tr1, ca1, pl1, ag1, mk1, lk1, rt1, km1, kr1) ∧ rY 1 so sz tr ca pl ag mk lk rt km kr so1 sz1 tr1 ca1 pl1 ag1 mk1 lk1 rt1 km1 kr1 ∧ ∃ (dth' dmk' : Int64) (dtn' dsp' : Int32) (dsz' dag' dtr' dca' dpl' dlk' drt' dcs' : Nat → Int32) (dfr' : Nat → Int64), mX11_on (nI n) chg tc (nI U) cth cmk ctn csp csz cag ctr cca cpl clk crt ccs cfr dth dmk dtn dsp dsz dag dtr dca dpl dlk drt dcs dfr cnt pn rg = (false, 0, chg, cth, cmk, ctn, csp, csz, cag, ctr, cca, cpl, clk, crt, ccs, cfr, dth', dmk', dtn', dsp', dsz', dag', dtr', dca', dpl', dlk', drt', dcs', dfr', cnt, pn, upd rg 5 (rg 5 + 1))) := by
  obtain ⟨hn, hT⟩ := T
  have cno : mX11_refuse (5 : Int32) rg = (-1, upd rg 5 (rg 5 + 1)) := c_refuse (k := 5) (by decide) rg
  have rno : mX12_refuses (5 : Int32) rf = some (-1, upd rf 5 (rf 5 + 1)) := r_refuses (k := 5) (by decide) rf
  by_cases u : 0 < U
  · have hh : mX11_hasHeap (nI U) = true := if_pos (show (0 : Int32) < nI U from nI_lt (a := 0) u (by omega))
    obtain ⟨so1, sz1, tr1, ca1, pl1, ag1, mk1, lk1, rt1, km1, kr1, e, Y1⟩ := ir_comes (fun i h => (hT i h).2.1) (fun i h => (hT i h).2.2) hn hbk hU hU2 S
    have c := ic_read (fun i h => (hT i h).1) (fun i h => (hT i h).2.2) hn hU2 dsz dag dtr dca dpl dlk drt dcs dfr
    rcases e with ⟨A, e, S1⟩ | ⟨A, e⟩
    · rcases c with ⟨-, th, mk', tn, sp, sz', ag', tr', ca', pl', lk', rt', cs', fr', ec, Y⟩ | ⟨q, -⟩
      · have W := gIm_W (fun i h => (hT i h).2.2) hU2 (show 0 < n by have := A.1.1; omega) A.2.1 A.2.2.1 A.2.2.2.1
        obtain ⟨sz3, ag3, tr3, ca3, pl3, lk3, rt3, cs3, fr3, e3, Y3⟩ := cY_copy W Y csz cag ctr cca cpl clk crt ccs cfr
        obtain ⟨so2, sz2, tr2, ca2, pl2, ag2, mk2, lk2, rt2, km2, kr2, e2, S2, -, Y2⟩ := r_copies (to := 0) (fm := 1) (by decide) (by decide) (by decide) S1
        have eqC : mX11_on (nI n) chg tc (nI U) cth cmk ctn csp csz cag ctr cca cpl clk crt ccs cfr dth dmk dtn dsp dsz dag dtr dca dpl dlk drt dcs dfr cnt pn rg = (true, 0, chg + 1, th, mk', tn, sp, sz3, ag3, tr3, ca3, pl3, lk3, rt3, cs3, fr3, th, mk', tn, sp, sz', ag', tr', ca', pl', lk', rt', cs', fr', 0, 0, rg) := by
          unfold mX11_on mX11_takeTape
          rw [xlet_eq, xu_q, hh, if_pos rfl, ec, xlet_eq]
          repeat rw [xu_q]
          rw [if_pos rfl, e3, xlet_eq]
          repeat rw [xu_q]
          unfold mX11_startAfresh
          rw [xlet_eq]
          repeat rw [xu_q]
        refine Or.inl ⟨gIm tx, W, by rw [gIm_8]; exact A.1.2.2.2, so2, sz2, tr2, ca2, pl2, ag2, mk2, lk2, rt2, km2, kr2, ?_, S2, fun v h L h0 h1 s => Y2 v h L h0 (Y1 v h L h1 s), th, mk', tn, sp, sz3, ag3, tr3, ca3, pl3, lk3, rt3, cs3, fr3, th, mk', tn, sp, sz', ag', tr', ca', pl', lk', rt', cs', fr', eqC, Y3⟩
        unfold mX12_on
        rw [decide_eq_true u, e, obind]
        repeat rw [xu_q]
        rw [if_pos rfl, show mX12_copies (0 : Int32) (1 : Int32) so1 sz1 tr1 ca1 pl1 ag1 mk1 lk1 rt1 km1 kr1 = _ from e2, obind]
        repeat rw [xu_q]
      · exact absurd A q
    · rcases c with ⟨q, -⟩ | ⟨-, s, ec⟩
      · exact absurd q A
      · obtain ⟨dth', dmk', dtn', dsp', dsz', dag', dtr', dca', dpl', dlk', drt', dcs', dfr'⟩ := s
        have eqC : mX11_on (nI n) chg tc (nI U) cth cmk ctn csp csz cag ctr cca cpl clk crt ccs cfr dth dmk dtn dsp dsz dag dtr dca dpl dlk drt dcs dfr cnt pn rg = (false, 0, chg, cth, cmk, ctn, csp, csz, cag, ctr, cca, cpl, clk, crt, ccs, cfr, dth', dmk', dtn', dsp', dsz', dag', dtr', dca', dpl', dlk', drt', dcs', dfr', cnt, pn, upd rg 5 (rg 5 + 1)) := by
          unfold mX11_on mX11_takeTape
          rw [xlet_eq, xu_q, hh, if_pos rfl, ec, xlet_eq]
          repeat rw [xu_q]
          rw [if_neg (by decide), cno, xlet_eq, xu_q]
        refine Or.inr ⟨so1, sz1, tr1, ca1, pl1, ag1, mk1, lk1, rt1, km1, kr1, ?_, Y1, dth', dmk', dtn', dsp', dsz', dag', dtr', dca', dpl', dlk', drt', dcs', dfr', eqC⟩
        unfold mX12_on
        rw [decide_eq_true u, e, obind]
        repeat rw [xu_q]
        rw [if_neg (by decide), rno, obind, xu_q, if_pos (show (-1 : Int32) < 0 by decide)]
  · have u0 : U = 0 := by omega
    subst u0
    refine Or.inr ⟨so, sz, tr, ca, pl, ag, mk, lk, rt, km, kr, ?_, fun _ _ _ _ h => h, dth, dmk, dtn, dsp, dsz, dag, dtr, dca, dpl, dlk, drt, dcs, dfr, ?_⟩
    · unfold mX12_on mX12_comesOn
      rw [decide_eq_false u, if_neg (by decide), obind]
      repeat rw [xu_q]
      rw [if_neg (by decide), rno, obind, xu_q, if_pos (show (-1 : Int32) < 0 by decide)]
    · unfold mX11_on mX11_takeTape
      rw [xlet_eq, xu_q, show mX11_hasHeap (nI 0) = false from rfl, if_neg (by decide), cno, xlet_eq, xu_q]
end IV2
