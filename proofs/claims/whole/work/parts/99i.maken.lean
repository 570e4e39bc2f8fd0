section MN
variable {g : GH} {K : GK} {E : Nat → Nat → Nat → Nat → Bool} {b U : Nat} {so sz tr ca pl ag mk lk rt km kr csz cag ctr cca cpl clk crt ccs rows ut sf sb cs cv code cf cl : Nat → Int32} {cfr : Nat → Int64} {cth cmk : Int64} {ctn csp cnt : Int32}
/-- make, on both sides -/
theorem k_make (hb : b < 2) (hU : ut b = nI U) (hU2 : U ≤ 99) (hE : 0 < U → cE code cf cl E ∧ rE b sf sb cs cv E) (W : gW g) (h8 : g 8 0 ≤ 999) (S : rS 0 g K so sz tr ca pl ag mk lk rt km kr) (Y : cY g csz cag ctr cca cpl clk crt ccs cfr cth cmk ctn csp) (hK : cK K cnt rows) {F n q : Nat} (hF : F < 20) (hn : n ≤ 20) (hq : q < 20) (x k : Int32) (rf rg : Nat → Int32) (sk : Nat → Int64) (ask : Nat → Int32) (ch top : Int32) (fa sc : Nat → Int32) (p1 p2 : Int64) (p3 p4 : Int32) (m1 m2 m3 m4 m5 m6 m7 m8 : Nat → Int32) (m9 : Nat → Int64) (p5 : Int32) (m0 : Nat → Int32) :
    (mX12_make x k (nI b) (decide (0 < U)) (nI F) (nI n) ut sf sb cs cv rf so sz tr ca pl ag mk lk rt km kr sk ask = some (-1, nI F, nI n, upd rf 3 (rf 3 + 1), so, sz, tr, ca, pl, ag, mk, lk, rt, km, kr, sk, ask) ∧ mX11_make x k ch (nI U) code cf cl cth cmk ctn csp csz cag ctr cca cpl clk crt ccs cfr top fa sc cnt rows (nI n) (nI q) rg p1 p2 p3 p4 m1 m2 m3 m4 m5 m6 m7 m8 m9 p5 m0 = (-1, ch, cth, ctn, csz, cag, ctr, cca, cpl, crt, ccs, top, fa, sc, nI n, nI q, upd rg 3 (rg 3 + 1), p1, p2, p3, p4, m1, m2, m3, m4, m5, m6, m7, m8, m9, p5, m0)) ∨
      ∃ (g' : GH) (t : Nat) (so1 sz1 tr1 ca1 pl1 ag1 mk1 lk1 rt1 km1 kr1 : Nat → Int32) (sk' : Nat → Int64) (ask' : Nat → Int32) (cth1 : Int64) (ctn1 : Int32) (csz1 cag1 ctr1 cca1 cpl1 crt1 ccs1 : Nat → Int32) (top' : Int32) (fa' sc' : Nat → Int32) (sz2 ag2 tr2 ca2 pl2 lk2 rt2 cs2 : Nat → Int32) (fr2 : Nat → Int64) (rows2 : Nat → Int32), gW g' ∧ g' 8 0 = g 8 0 ∧ t < 40 ∧ mX12_make x k (nI b) (decide (0 < U)) (nI F) (nI n) ut sf sb cs cv rf so sz tr ca pl ag mk lk rt km kr sk ask = some (nI t, nI (pF F n), nI (pU n), rf, so1, sz1, tr1, ca1, pl1, ag1, mk1, lk1, rt1, km1, kr1, sk', ask') ∧ rA (2 + (F + n) % 20) g g' K K so sz tr ca pl ag mk lk rt km kr so1 sz1 tr1 ca1 pl1 ag1 mk1 lk1 rt1 km1 kr1 ∧ mX11_make x k ch (nI U) code cf cl cth cmk ctn csp csz cag ctr cca cpl clk crt ccs cfr top fa sc cnt rows (nI n) (nI q) rg p1 p2 p3 p4 m1 m2 m3 m4 m5 m6 m7 m8 m9 p5 m0 = (nI t, ch + 1, cth1, ctn1, csz1, cag1, ctr1, cca1, cpl1, crt1, ccs1, top', fa', sc', nI (pU n), nI ((q + 1) % 20), rg, cth, cmk, ctn, csp, sz2, ag2, tr2, ca2, pl2, lk2, rt2, cs2, fr2, cnt, rows2) ∧ cY g' csz1 cag1 ctr1 cca1 cpl1 clk crt1 ccs1 cfr cth1 cmk ctn1 csp ∧ cY g sz2 ag2 tr2 ca2 pl2 lk2 rt2 cs2 fr2 cth cmk ctn csp ∧ cK K cnt rows2 := by
  have cno : mX11_refuse (3 : Int32) rg = (-1, upd rg 3 (rg 3 + 1)) := c_refuse (k := 3) (by decide) rg
  have rno : mX12_refuses (3 : Int32) rf = some (-1, upd rf 3 (rf 3 + 1)) := r_refuses (k := 3) (by decide) rf
  by_cases u : 0 < U
  · have hh : mX11_hasHeap (nI U) = true := if_pos (show (0 : Int32) < nI U from nI_lt (a := 0) u (by omega))
    by_cases x1 : x < 1
    · refine Or.inl ⟨?_, ?_⟩
      · unfold mX12_make
        rw [decide_eq_true u, if_pos rfl, zb _ _ hb (by decide), if_pos rfl, zc b (by omega), z_is, decide_eq_true x1, if_neg (by rw [Bool.not_true, Bool.false_and]; decide), rno, obind, xu_q]
      · unfold mX11_make
        rw [hh, if_pos rfl, if_pos x1, cno, xlet_eq, xu_q]
    · by_cases x2 : nI U < x
      · refine Or.inl ⟨?_, ?_⟩
        · unfold mX12_make
          rw [decide_eq_true u, if_pos rfl, zb _ _ hb (by decide), if_pos rfl, zc b (by omega), hU, z_is, decide_eq_true x2, if_neg (by rw [Bool.not_true, Bool.and_false]; decide), rno, obind, xu_q]
        · unfold mX11_make
          rw [hh, if_pos rfl, if_neg x1, if_pos x2, cno, xlet_eq, xu_q]
      · obtain ⟨z, hz, hzU, rfl⟩ : ∃ z, 1 ≤ z ∧ z ≤ U ∧ x = nI z := by
          obtain ⟨j, hj, e, -, -, -⟩ := pk_mu (L := U + 1) (fun q => x1 (Int32.lt_of_lt_of_le q (by decide))) (Int32.not_le.mpr (Int32.lt_of_le_of_lt (Int32.not_lt.mp x2) (nI_lt (Nat.lt_succ_self U) (by omega)))) (by omega)
          subst e
          exact ⟨j, Decidable.byContradiction (fun q => x1 (nI_lt (b := 1) (by omega) (by decide))), by omega, rfl⟩
        have is1 : mX12_is (nI z) 1 (nI U) = true := Eq.trans (k_is z 1 U (by omega) (by decide) (by omega)) (decide_eq_true ⟨hz, hzU⟩)
        rcases k_range k (N := 8) (by decide) (by decide) with ⟨o, i⟩ | ⟨r, hr, rfl, i⟩
        · refine Or.inl ⟨?_, ?_⟩
          · unfold mX12_make
            rw [decide_eq_true u, if_pos rfl, zb _ _ hb (by decide), if_pos rfl, zc b (by omega), hU, is1, if_pos rfl, show mX12_is k 0 7 = false from i, if_neg (by decide), rno, obind, xu_q]
          · unfold mX11_make
            rw [hh, if_pos rfl, if_neg x1, if_neg x2]
            by_cases y : k < 0
            · rw [if_pos y, cno, xlet_eq, xu_q]
            · rw [if_neg y, if_neg (show ¬ k < 8 from o.resolve_left y), cno, xlet_eq, xu_q]
        · rcases c_free (g := g) Y.2.2.2.2.2.1 with ⟨t, ht, h0, hlt, hf⟩ | ⟨full, hf⟩
          · obtain ⟨ec, er⟩ := hE u
            obtain ⟨so1, sz1, tr1, ca1, pl1, ag1, mk1, lk1, rt1, km1, kr1, sz3, tr3, ca3, pl3, ag3, mk3, lk3, rt3, sk', ask', r1, r2, r3, r4, r5⟩ := r_makeY (r := r) hb er W h8 ht h0 hlt hz hzU hU hU2 hr hF hn S rf sk ask
            obtain ⟨cth1, ctn1, csz1, cag1, ctr1, cca1, cpl1, crt1, ccs1, top', fa', sc', sz2, ag2, tr2, ca2, pl2, lk2, rt2, cs2, fr2, rows2, c1, c2, c3, c4⟩ := c_makeY (r := r) ec W h8 ht h0 hz hzU hU2 hr Y hK hf hq hn ch top fa sc rg p1 p2 p3 p4 m1 m2 m3 m4 m5 m6 m7 m8 m9 p5 m0
            rw [decide_eq_true u]
            exact Or.inr ⟨gMak E U g t z r, t, so1, sz3, tr3, ca3, pl3, ag3, mk3, lk3, rt3, km1, kr1, sk', ask', cth1, ctn1, csz1, cag1, ctr1, cca1, cpl1, crt1, ccs1, top', fa', sc', sz2, ag2, tr2, ca2, pl2, lk2, rt2, cs2, fr2, rows2, gW_mak W ht h0 hz (by omega), rfl, ht, r1, ⟨r5 _ g K (by omega) r2, r4, fun w h L hw hv s => r5 w h L hw (r3 w h L hv s)⟩, c1, c2, c3, c4⟩
          · have M := S.1 (fun _ => 0) (fun _ => 0) (fun _ _ => rfl)
            have f40 : nI (gThs g) = 40 := by
              rw [show gThs g = 40 from fb_ct_all.mpr (fun t ht => decide_eq_true (full t ht))]; rfl
            refine Or.inl ⟨?_, ?_⟩
            · unfold mX12_make
              rw [decide_eq_true u, if_pos rfl, zb _ _ hb (by decide), if_pos rfl, zc b (by omega), hU, is1, if_pos rfl, show mX12_is (nI r) 0 7 = true from i, if_pos rfl, show mX12_thingsOf (0 : Int32) sz = _ from r_thingsOf (v := 0) (by decide) M (gW_N W), obind, if_pos f40, rno, obind, xu_q]
            · unfold mX11_make
              rw [hh, if_pos rfl, if_neg x1, if_neg x2, if_neg (show ¬ nI r < 0 from nI_nlt (b := 0) (by omega) (by omega)), if_pos (show nI r < 8 from nI_lt (b := 8) hr (by decide)), hf, if_pos rfl, cno, xlet_eq, xu_q]
  · have u0 : U = 0 := by omega
    subst u0
    refine Or.inl ⟨?_, ?_⟩
    · unfold mX12_make
      rw [decide_eq_false u, if_neg (by decide), rno, obind, xu_q]
    · unfold mX11_make
      rw [show mX11_hasHeap (nI 0) = false from rfl, if_neg (by decide), cno, xlet_eq, xu_q]
end MN
