section AI
variable {g : GH} {K : GK} {so sz tr ca pl ag mk lk rt km kr csz cag ctr cca cpl clk crt ccs rows : Nat → Int32} {cfr : Nat → Int64} {cth cmk : Int64} {ctn csp cnt : Int32}
theorem r_aim33 (rf : Nat → Int32) (F n : Int32) (af aq : Nat → Int32) : mX12_aim_33 F n rf so sz tr ca pl ag mk lk rt km kr af aq = some (false, F, n, upd rf 3 (rf 3 + 1), so, sz, tr, ca, pl, ag, mk, lk, rt, km, kr, af, aq) := by
  unfold mX12_aim_33
  rw [show (3 : Int32) = nI 3 from rfl, r_refuses (by decide), obind, xu_q, if_pos (show (-1 : Int32) < 0 by decide)]
theorem r_aim23 (W : gW g) (S : rS 0 g K so sz tr ca pl ag mk lk rt km kr) {j c F n : Nat} (hj : j < 8) (hc : c ≤ 40) (hF : F < 20) (hn : n ≤ 20) (rf af aq : Nat → Int32) :
    (g 7 j = c → mX12_aim_23 (nI j) (bno c) (nI F) (nI n) rf so sz tr ca pl ag mk lk rt km kr af aq = some (false, nI F, nI n, upd rf 3 (rf 3 + 1), so, sz, tr, ca, pl, ag, mk, lk, rt, km, kr, af, aq)) ∧
    (¬ g 7 j = c → ∃ so1 sz1 tr1 ca1 pl1 ag1 mk1 lk1 rt1 km1 kr1, mX12_aim_23 (nI j) (bno c) (nI F) (nI n) rf so sz tr ca pl ag mk lk rt km kr af aq = some (true, nI (pF F n), nI (pU n), rf, so1, sz1, tr1, ca1, pl1, ag1, mk1, lk1, rt1, km1, kr1, af, aq) ∧ rA (2 + (F + n) % 20) g (gset g 7 j c) K K so sz tr ca pl ag mk lk rt km kr so1 sz1 tr1 ca1 pl1 ag1 mk1 lk1 rt1 km1 kr1) := by
  have eL : rt j = bno (g 7 j) := (rS_0 S).2.2.2 _ hj
  have hl : g 7 j ≤ 40 := ((gW_N W).2.2.2 _ hj).1
  unfold mX12_aim_23
  rw [zb _ 176 (by omega) (by decide), if_pos rfl, zc _ (by omega), eL]
  refine ⟨fun h => ?_, fun h => ?_⟩
  · rw [if_pos ((bno_eq (by omega) (by omega)).mpr h)]
    exact r_aim33 rf (nI F) (nI n) af aq
  · obtain ⟨so1, sz1, tr1, ca1, pl1, ag1, mk1, lk1, rt1, km1, kr1, e, Sk, Yk⟩ := r_keeps hF hn S
    rw [if_neg (fun q => h ((bno_eq (by omega) (by omega)).mp q)), e, obind]
    simp only [xu_q]
    have S0 := rS_r (v := 0) (r := j) (c := c) (Yk 0 g K (by omega) S)
    rw [show 8 * 0 + j = j by omega] at S0
    have fr : ∀ u h L, u ≠ 0 → rS u h L so1 sz1 tr1 ca1 pl1 ag1 mk1 lk1 rt1 km1 kr1 → rS u h L so1 sz1 tr1 ca1 pl1 ag1 mk1 lk1 (upd rt1 j (bno c)) km1 kr1 := fun u h L hu q => rS_fr hu q (fun _ _ => rfl) (lF_rf _ _) (lF_rf _ _) (lF_rf _ _) (lF_rf _ _) (lF_rf _ _) (lF_rf _ _) (fun _ _ => rfl) (fun i hi => by rw [pk_un (by omega)]) (fun _ _ => rfl) (fun _ _ => rfl)
    exact ⟨so1, sz1, tr1, ca1, pl1, ag1, mk1, lk1, _, km1, kr1, rfl, fr _ g K (by omega) Sk, S0, fun u h L hu hv q => fr u h L hu (Yk u h L hv q)⟩
theorem c_aim34 (W : gW g) (Y : cY g csz cag ctr cca cpl clk crt ccs cfr cth cmk ctn csp) (hK : cK K cnt rows) {j c n q : Nat} (hj : j < 8) (hc : c ≤ 40) (hq : q < 20) (hn : n ≤ 20) (ch : Int32) (rf : Nat → Int32) (p1 p2 : Int64) (p3 p4 : Int32) (m1 m2 m3 m4 m5 m6 m7 m8 : Nat → Int32) (m9 : Nat → Int64) (p5 : Int32) (m0 : Nat → Int32) (s : Int32) (hs : ¬ s = 0) :
    (g 7 j = c → mX11_aim_34 (nI j) (bno c) ch cth cmk ctn csp csz cag ctr cca cpl clk crt ccs cfr cnt rows (nI n) (nI q) rf p1 p2 p3 p4 m1 m2 m3 m4 m5 m6 m7 m8 m9 p5 m0 s = (false, ch, crt, nI n, nI q, upd rf 3 (rf 3 + 1), p1, p2, p3, p4, m1, m2, m3, m4, m5, m6, m7, m8, m9, p5, m0)) ∧
    (¬ g 7 j = c → ∃ (crt1 : Nat → Int32) (sz2 ag2 tr2 ca2 pl2 lk2 rt2 cs2 : Nat → Int32) (fr2 : Nat → Int64) (rows2 : Nat → Int32), mX11_aim_34 (nI j) (bno c) ch cth cmk ctn csp csz cag ctr cca cpl clk crt ccs cfr cnt rows (nI n) (nI q) rf p1 p2 p3 p4 m1 m2 m3 m4 m5 m6 m7 m8 m9 p5 m0 s = (true, ch + 1, crt1, nI (pU n), nI ((q + 1) % 20), rf, cth, cmk, ctn, csp, sz2, ag2, tr2, ca2, pl2, lk2, rt2, cs2, fr2, cnt, rows2) ∧ cY (gset g 7 j c) csz cag ctr cca cpl clk crt1 ccs cfr cth cmk ctn csp ∧ cY g sz2 ag2 tr2 ca2 pl2 lk2 rt2 cs2 fr2 cth cmk ctn csp ∧ cK K cnt rows2) := by
  have hl : g 7 j ≤ 40 := ((gW_N W).2.2.2 _ hj).1
  unfold mX11_aim_34
  rw [if_neg hs, s_at 8 j hj (by decide), Y.2.2.1.2 j hj]
  refine ⟨fun h => ?_, fun h => ?_⟩
  · rw [if_pos ((bno_eq (by omega) (by omega)).mpr h), show (3 : Int32) = nI 3 from rfl, c_refuse (by decide), xlet_eq, xu_q]
  · obtain ⟨sz2, ag2, tr2, ca2, pl2, lk2, rt2, cs2, fr2, rows2, e, y1, k1⟩ := c_startAct W Y hK hq hn ch p1 p2 p3 p4 m1 m2 m3 m4 m5 m6 m7 m8 m9 p5 m0
    rw [if_neg (fun q => h ((bno_eq (by omega) (by omega)).mp q)), e, xlet_eq]
    simp only [xu_q]
    rw [s_put 8 j hj (by decide), xlet_eq]
    exact ⟨_, sz2, ag2, tr2, ca2, pl2, lk2, rt2, cs2, fr2, rows2, rfl, cY_r Y, y1, k1⟩
/-- aim, on both sides -/
theorem k_aim (W : gW g) (S : rS 0 g K so sz tr ca pl ag mk lk rt km kr) (Y : cY g csz cag ctr cca cpl clk crt ccs cfr cth cmk ctn csp) (hK : cK K cnt rows) {F n q : Nat} (hF : F < 20) (hn : n ≤ 20) (hq : q < 20) (k y : Int32) (rf rg af aq : Nat → Int32) (ch : Int32) (p1 p2 : Int64) (p3 p4 : Int32) (m1 m2 m3 m4 m5 m6 m7 m8 : Nat → Int32) (m9 : Nat → Int64) (p5 : Int32) (m0 : Nat → Int32) :
    ∃ af' aq', (mX12_aim k y (nI F) (nI n) rf so sz tr ca pl ag mk lk rt km kr af aq = some (false, nI F, nI n, upd rf 3 (rf 3 + 1), so, sz, tr, ca, pl, ag, mk, lk, rt, km, kr, af', aq') ∧ mX11_aim k y ch cth cmk ctn csp csz cag ctr cca cpl clk crt ccs cfr cnt rows (nI n) (nI q) rg p1 p2 p3 p4 m1 m2 m3 m4 m5 m6 m7 m8 m9 p5 m0 = (false, ch, crt, nI n, nI q, upd rg 3 (rg 3 + 1), p1, p2, p3, p4, m1, m2, m3, m4, m5, m6, m7, m8, m9, p5, m0)) ∨
      ∃ (g' : GH) (so1 sz1 tr1 ca1 pl1 ag1 mk1 lk1 rt1 km1 kr1 crt1 : Nat → Int32) (sz2 ag2 tr2 ca2 pl2 lk2 rt2 cs2 : Nat → Int32) (fr2 : Nat → Int64) (rows2 : Nat → Int32), gW g' ∧ g' 8 0 = g 8 0 ∧ mX12_aim k y (nI F) (nI n) rf so sz tr ca pl ag mk lk rt km kr af aq = some (true, nI (pF F n), nI (pU n), rf, so1, sz1, tr1, ca1, pl1, ag1, mk1, lk1, rt1, km1, kr1, af', aq') ∧ rA (2 + (F + n) % 20) g g' K K so sz tr ca pl ag mk lk rt km kr so1 sz1 tr1 ca1 pl1 ag1 mk1 lk1 rt1 km1 kr1 ∧ mX11_aim k y ch cth cmk ctn csp csz cag ctr cca cpl clk crt ccs cfr cnt rows (nI n) (nI q) rg p1 p2 p3 p4 m1 m2 m3 m4 m5 m6 m7 m8 m9 p5 m0 = (true, ch + 1, crt1, nI (pU n), nI ((q + 1) % 20), rg, cth, cmk, ctn, csp, sz2, ag2, tr2, ca2, pl2, lk2, rt2, cs2, fr2, cnt, rows2) ∧ cY g' csz cag ctr cca cpl clk crt1 ccs cfr cth cmk ctn csp ∧ cY g sz2 ag2 tr2 ca2 pl2 lk2 rt2 cs2 fr2 cth cmk ctn csp ∧ cK K cnt rows2 := by
  have no : ∀ k y, mX11_aim_33 k y ch cth cmk ctn csp csz cag ctr cca cpl clk crt ccs cfr cnt rows (nI n) (nI q) rg p1 p2 p3 p4 m1 m2 m3 m4 m5 m6 m7 m8 m9 p5 m0 = (false, ch, crt, nI n, nI q, upd rg 3 (rg 3 + 1), p1, p2, p3, p4, m1, m2, m3, m4, m5, m6, m7, m8, m9, p5, m0) := by
    intro k y
    unfold mX11_aim_33 mX11_aim_34
    rw [if_pos (show (0 : Int32) = 0 from rfl), show (3 : Int32) = nI 3 from rfl, c_refuse (by decide), xlet_eq, xu_q]
  unfold mX12_aim mX11_aim
  rcases k_range k (N := 8) (by decide) (by decide) with ⟨o, b⟩ | ⟨j, hj, rfl, b⟩
  · rw [show mX12_is k 0 7 = false from b, if_neg (by decide), r_aim33]
    refine ⟨af, aq, Or.inl ⟨rfl, ?_⟩⟩
    by_cases z : k < 0
    · rw [if_pos z, no]
    · rw [if_neg z, if_neg (show ¬ k < 8 from o.resolve_left z), no]
  · rw [show mX12_is (nI j) 0 7 = true from b, if_pos rfl, if_neg (show ¬ nI j < 0 from nI_nlt (b := 0) (by omega) (by omega)), if_pos (show nI j < 8 from nI_lt (b := 8) hj (by decide))]
    have both : ∀ c, c ≤ 40 → y = bno c → (∀ t, c = t + 1 → gTh g t = true) → ∀ af2 aq2, (mX12_aim_23 (nI j) y (nI F) (nI n) rf so sz tr ca pl ag mk lk rt km kr af2 aq2 = some (false, nI F, nI n, upd rf 3 (rf 3 + 1), so, sz, tr, ca, pl, ag, mk, lk, rt, km, kr, af2, aq2) ∧ mX11_aim_29 (nI j) y ch cth cmk ctn csp csz cag ctr cca cpl clk crt ccs cfr cnt rows (nI n) (nI q) rg p1 p2 p3 p4 m1 m2 m3 m4 m5 m6 m7 m8 m9 p5 m0 = (false, ch, crt, nI n, nI q, upd rg 3 (rg 3 + 1), p1, p2, p3, p4, m1, m2, m3, m4, m5, m6, m7, m8, m9, p5, m0)) ∨
          ∃ (g' : GH) (so1 sz1 tr1 ca1 pl1 ag1 mk1 lk1 rt1 km1 kr1 crt1 : Nat → Int32) (sz2 ag2 tr2 ca2 pl2 lk2 rt2 cs2 : Nat → Int32) (fr2 : Nat → Int64) (rows2 : Nat → Int32), gW g' ∧ g' 8 0 = g 8 0 ∧ mX12_aim_23 (nI j) y (nI F) (nI n) rf so sz tr ca pl ag mk lk rt km kr af2 aq2 = some (true, nI (pF F n), nI (pU n), rf, so1, sz1, tr1, ca1, pl1, ag1, mk1, lk1, rt1, km1, kr1, af2, aq2) ∧ rA (2 + (F + n) % 20) g g' K K so sz tr ca pl ag mk lk rt km kr so1 sz1 tr1 ca1 pl1 ag1 mk1 lk1 rt1 km1 kr1 ∧ mX11_aim_29 (nI j) y ch cth cmk ctn csp csz cag ctr cca cpl clk crt ccs cfr cnt rows (nI n) (nI q) rg p1 p2 p3 p4 m1 m2 m3 m4 m5 m6 m7 m8 m9 p5 m0 = (true, ch + 1, crt1, nI (pU n), nI ((q + 1) % 20), rg, cth, cmk, ctn, csp, sz2, ag2, tr2, ca2, pl2, lk2, rt2, cs2, fr2, cnt, rows2) ∧ cY g' csz cag ctr cca cpl clk crt1 ccs cfr cth cmk ctn csp ∧ cY g sz2 ag2 tr2 ca2 pl2 lk2 rt2 cs2 fr2 cth cmk ctn csp ∧ cK K cnt rows2 := by
      intro c hc ey hcT af2 aq2
      subst ey
      obtain ⟨r1, r2⟩ := r_aim23 (c := c) W S hj hc hF hn rf af2 aq2
      obtain ⟨c1, c2⟩ := c_aim34 W Y hK hj hc hq hn ch rg p1 p2 p3 p4 m1 m2 m3 m4 m5 m6 m7 m8 m9 p5 m0 1 (by decide)
      unfold mX11_aim_29
      by_cases w : g 7 j = c
      · exact Or.inl ⟨r1 w, c1 w⟩
      · obtain ⟨so1, sz1, tr1, ca1, pl1, ag1, mk1, lk1, rt1, km1, kr1, e, A⟩ := r2 w
        obtain ⟨crt1, sz2, ag2, tr2, ca2, pl2, lk2, rt2, cs2, fr2, rows2, e', B⟩ := c2 w
        exact Or.inr ⟨_, so1, sz1, tr1, ca1, pl1, ag1, mk1, lk1, rt1, km1, kr1, crt1, sz2, ag2, tr2, ca2, pl2, lk2, rt2, cs2, fr2, rows2, gW_r W hc hcT, gset_n _ _ (fun q => absurd q.1 (by decide)), e, A, e', B⟩
    rcases k_aimed W S Y y af aq with ⟨h, c, hc, ey, hcT⟩ | ⟨h, l, af2, aq2, e2⟩
    · rcases h with h | ⟨h, l, af2, aq2, e2⟩
      · rw [if_pos h, if_pos h]
        exact ⟨af, aq, both c hc ey hcT af aq⟩
      · rw [if_neg h, if_neg h, l, e2, obind]
        simp only [xu_q]
        rw [if_pos True.intro, if_pos True.intro]
        exact ⟨af2, aq2, both c hc ey hcT af2 aq2⟩
    · rw [if_neg h, if_neg h, l, e2, obind]
      simp only [xu_q]
      rw [if_neg (by decide), if_neg (by decide), r_aim33, no]
      exact ⟨af2, aq2, Or.inl ⟨rfl, rfl⟩⟩
end AI
