/-- an act is done: layer v holds what was, layer 0 what is, all others stay -/
def rA (v : Nat) (g g' : GH) (K K' : GK) (so sz tr ca pl ag mk lk rt km kr so1 sz1 tr1 ca1 pl1 ag1 mk1 lk1 rt1 km1 kr1 : Nat → Int32) : Prop := rS v g K so1 sz1 tr1 ca1 pl1 ag1 mk1 lk1 rt1 km1 kr1 ∧ rS 0 g' K' so1 sz1 tr1 ca1 pl1 ag1 mk1 lk1 rt1 km1 kr1 ∧ ∀ u h L, u ≠ 0 → u ≠ v → rS u h L so sz tr ca pl ag mk lk rt km kr → rS u h L so1 sz1 tr1 ca1 pl1 ag1 mk1 lk1 rt1 km1 kr1
section SA
variable {g : GH} {K : GK} {so sz tr ca pl ag mk lk rt km kr csz cag ctr cca cpl clk crt ccs rows : Nat → Int32} {cfr : Nat → Int64} {cth cmk : Int64} {ctn csp cnt : Int32}
theorem k_aimed (W : gW g) (S : rS 0 g K so sz tr ca pl ag mk lk rt km kr) (Y : cY g csz cag ctr cca cpl clk crt ccs cfr cth cmk ctn csp) (y : Int32) (af aq : Nat → Int32) :
    (y = -1 ∨ ¬ y = -1 ∧ mX11_in (mX10_live cth clk crt) y = true ∧ (∃ af' aq', mX12_isLiving y sz lk rt af aq = some (true, af', aq'))) ∧ (∃ c, c ≤ 40 ∧ y = bno c ∧ ∀ t, c = t + 1 → gTh g t = true) ∨ ¬ y = -1 ∧ mX11_in (mX10_live cth clk crt) y = false ∧ ∃ af' aq', mX12_isLiving y sz lk rt af aq = some (false, af', aq') := by
  by_cases h : y = -1
  · exact Or.inl ⟨Or.inl h, 0, by decide, h, fun t q => absurd q (by omega)⟩
  · obtain ⟨af', aq', e⟩ := k_living W S Y y af aq
    cases q : mX11_in (mX10_live cth clk crt) y with
    | true =>
      rw [q] at e
      refine Or.inl ⟨Or.inr ⟨h, rfl, af', aq', e⟩, ?_⟩
      rcases zx40 y with o | ⟨t, ht, rfl⟩
      · rw [s_in_out _ y o] at q; exact absurd q (by decide)
      · rw [zh_in (z_live (gW_N W).2.2 Y.2.2.2.2.2.1 clk crt Y.2.2.1.1 Y.2.2.1.2) ht] at q
        exact ⟨t + 1, ht, (bnoS t).symm, fun u hu => by
          have : u = t := by omega
          subst this
          exact decide_eq_true (gL_th W ht q)⟩
    | false =>
      rw [q] at e
      exact Or.inr ⟨h, rfl, af', aq', e⟩
theorem k_liv (W : gW g) (Y : cY g csz cag ctr cca cpl clk crt ccs cfr cth cmk ctn csp) {x : Int32} (q : mX11_in (mX10_live cth clk crt) x = true) : ∃ a, a < 40 ∧ x = nI a ∧ 0 < g 0 a := by
  rcases zx40 x with o | ⟨t, ht, rfl⟩
  · rw [s_in_out _ x o] at q; exact absurd q (by decide)
  · rw [zh_in (z_live (gW_N W).2.2 Y.2.2.2.2.2.1 clk crt Y.2.2.1.1 Y.2.2.1.2) ht] at q
    exact ⟨t, ht, rfl, gL_th W ht q⟩
theorem gok_s {T : Nat → Bool} (N : gok T g) (j : Nat) {c : Nat} (hc : c ≤ 40) (h : ∀ t, c = t + 1 → T t = true) : gok T (gset g 6 j c) := by
  by_cases z : c = 0
  · subst z; exact gok_6 N j
  · obtain ⟨b, rfl⟩ : ∃ b, c = b + 1 := ⟨c - 1, by omega⟩
    exact gok_6s N j b (by omega) (h b rfl)
theorem r_set44 (rf : Nat → Int32) (F n : Int32) (af aq : Nat → Int32) : mX12_set_44 F n rf so sz tr ca pl ag mk lk rt km kr af aq = some (false, F, n, upd rf 3 (rf 3 + 1), so, sz, tr, ca, pl, ag, mk, lk, rt, km, kr, af, aq) := by
  unfold mX12_set_44
  rw [show (3 : Int32) = nI 3 from rfl, r_refuses (by decide), obind, xu_q, if_pos (show (-1 : Int32) < 0 by decide)]
theorem r_set30 (W : gW g) (S : rS 0 g K so sz tr ca pl ag mk lk rt km kr) {a j c F n : Nat} (ha : a < 40) (hj : j < 4) (h0 : 0 < g 0 a) (hc : c ≤ 40) (hcT : ∀ t, c = t + 1 → gTh g t = true) (hF : F < 20) (hn : n ≤ 20) (rf af aq : Nat → Int32) :
    (g 6 (4 * a + j) = c → mX12_set_30 (nI a) (nI j) (bno c) (nI F) (nI n) rf so sz tr ca pl ag mk lk rt km kr af aq = some (false, nI F, nI n, upd rf 3 (rf 3 + 1), so, sz, tr, ca, pl, ag, mk, lk, rt, km, kr, af, aq)) ∧
    (¬ g 6 (4 * a + j) = c → ∃ so1 sz1 tr1 ca1 pl1 ag1 mk1 lk1 rt1 km1 kr1, mX12_set_30 (nI a) (nI j) (bno c) (nI F) (nI n) rf so sz tr ca pl ag mk lk rt km kr af aq = some (true, nI (pF F n), nI (pU n), rf, so1, sz1, tr1, ca1, pl1, ag1, mk1, lk1, rt1, km1, kr1, af, aq) ∧ rA (2 + (F + n) % 20) g (gset g 6 (4 * a + j) c) K K so sz tr ca pl ag mk lk rt km kr so1 sz1 tr1 ca1 pl1 ag1 mk1 lk1 rt1 km1 kr1) := by
  have e4 : (4 : Int32) * nI a + nI j = nI (4 * a + j) := by rw [show (4 : Int32) = nI 4 from rfl, pk_mul, nI_add]
  have eL : lk (4 * a + j) = bno (g 6 (4 * a + j)) := (rS_0 S).2.2.1 _ (by omega)
  have hl : g 6 (4 * a + j) ≤ 40 := ((gW_N W).2.2.1 _ (by omega)).1
  unfold mX12_set_30
  rw [e4, zb _ 3520 (by omega) (by decide), if_pos rfl, zc _ (by omega), eL]
  refine ⟨fun h => ?_, fun h => ?_⟩
  · rw [if_pos ((bno_eq (by omega) (by omega)).mpr h)]
    exact r_set44 rf (nI F) (nI n) af aq
  · obtain ⟨so1, sz1, tr1, ca1, pl1, ag1, mk1, lk1, rt1, km1, kr1, e, Sk, Yk⟩ := r_keeps hF hn S
    rw [if_neg (fun q => h ((bno_eq (by omega) (by omega)).mp q)), e, obind]
    simp only [xu_q]
    have S0 := rS_l (v := 0) (j := 4 * a + j) (c := c) (Yk 0 g K (by omega) S)
    rw [show 160 * 0 + (4 * a + j) = 4 * a + j by omega] at S0
    have fr : ∀ u h L, u ≠ 0 → rS u h L so1 sz1 tr1 ca1 pl1 ag1 mk1 lk1 rt1 km1 kr1 → rS u h L so1 sz1 tr1 ca1 pl1 ag1 mk1 (upd lk1 (4 * a + j) (bno c)) rt1 km1 kr1 := fun u h L hu q => rS_fr hu q (fun _ _ => rfl) (lF_rf _ _) (lF_rf _ _) (lF_rf _ _) (lF_rf _ _) (lF_rf _ _) (lF_rf _ _) (fun i hi => by rw [pk_un (by omega)]) (fun _ _ => rfl) (fun _ _ => rfl) (fun _ _ => rfl)
    exact ⟨so1, sz1, tr1, ca1, pl1, ag1, mk1, _, rt1, km1, kr1, rfl, fr _ g K (by omega) Sk, S0, fun u h L hu hv q => fr u h L hu (Yk u h L hv q)⟩
theorem c_set46 (W : gW g) (Y : cY g csz cag ctr cca cpl clk crt ccs cfr cth cmk ctn csp) (hK : cK K cnt rows) {a j c n q : Nat} (ha : a < 40) (hj : j < 4) (h0 : 0 < g 0 a) (hc : c ≤ 40) (hcT : ∀ t, c = t + 1 → gTh g t = true) (hq : q < 20) (hn : n ≤ 20) (ch : Int32) (rf : Nat → Int32) (p1 p2 : Int64) (p3 p4 : Int32) (m1 m2 m3 m4 m5 m6 m7 m8 : Nat → Int32) (m9 : Nat → Int64) (p5 : Int32) (m0 : Nat → Int32) (s : Int32) (hs : ¬ s = 0) :
    (g 6 (4 * a + j) = c → mX11_set_46 (nI a) (nI j) (bno c) ch cth cmk ctn csp csz cag ctr cca cpl clk crt ccs cfr cnt rows (nI n) (nI q) rf p1 p2 p3 p4 m1 m2 m3 m4 m5 m6 m7 m8 m9 p5 m0 s = (false, ch, clk, cfr, nI n, nI q, upd rf 3 (rf 3 + 1), p1, p2, p3, p4, m1, m2, m3, m4, m5, m6, m7, m8, m9, p5, m0)) ∧
    (¬ g 6 (4 * a + j) = c → ∃ (clk1 : Nat → Int32) (cfr1 : Nat → Int64) (sz2 ag2 tr2 ca2 pl2 lk2 rt2 cs2 : Nat → Int32) (fr2 : Nat → Int64) (rows2 : Nat → Int32), mX11_set_46 (nI a) (nI j) (bno c) ch cth cmk ctn csp csz cag ctr cca cpl clk crt ccs cfr cnt rows (nI n) (nI q) rf p1 p2 p3 p4 m1 m2 m3 m4 m5 m6 m7 m8 m9 p5 m0 s = (true, ch + 1, clk1, cfr1, nI (pU n), nI ((q + 1) % 20), rf, cth, cmk, ctn, csp, sz2, ag2, tr2, ca2, pl2, lk2, rt2, cs2, fr2, cnt, rows2) ∧ cY (gset g 6 (4 * a + j) c) csz cag ctr cca cpl clk1 crt ccs cfr1 cth cmk ctn csp ∧ cY g sz2 ag2 tr2 ca2 pl2 lk2 rt2 cs2 fr2 cth cmk ctn csp ∧ cK K cnt rows2) := by
  have e4 : nI a * 4 + nI j = nI (4 * a + j) := by rw [show (4 : Int32) = nI 4 from rfl, pk_mul, nI_add, Nat.mul_comm]
  have hl : g 6 (4 * a + j) ≤ 40 := ((gW_N W).2.2.1 _ (by omega)).1
  have eL : mX10_linkOf (nI a) (nI j) clk = bno (g 6 (4 * a + j)) := by
    unfold mX10_linkOf
    rw [if_neg (show ¬ nI a < 0 from nI_nlt (b := 0) (by omega) (by omega)), if_neg (show ¬ nI j < 0 from nI_nlt (b := 0) (by omega) (by omega)), if_pos (show nI j < 4 from nI_lt (b := 4) hj (by decide)), e4, s_at 160 _ (by omega) (by decide)]
    exact Y.2.2.1.1 _ (by omega)
  unfold mX11_set_46
  rw [if_neg hs, eL]
  refine ⟨fun h => ?_, fun h => ?_⟩
  · rw [if_pos ((bno_eq (by omega) (by omega)).mpr h), show (3 : Int32) = nI 3 from rfl, c_refuse (by decide), xlet_eq, xu_q]
  · obtain ⟨sz2, ag2, tr2, ca2, pl2, lk2, rt2, cs2, fr2, rows2, e, y1, k1⟩ := c_startAct W Y hK hq hn ch p1 p2 p3 p4 m1 m2 m3 m4 m5 m6 m7 m8 m9 p5 m0
    obtain ⟨clk1, cfr1, e1, l1, l2⟩ := c_point (gW_N W).2.2 (gok_s (gW_N W).2.2 (4 * a + j) hc hcT) ha hj hc Y.2.2.1.1 Y.2.2.2.2.1
    rw [if_neg (fun q => h ((bno_eq (by omega) (by omega)).mp q)), e, xlet_eq]
    simp only [xu_q]
    rw [e1, xlet_eq, xu_q]
    exact ⟨clk1, cfr1, sz2, ag2, tr2, ca2, pl2, lk2, rt2, cs2, fr2, rows2, rfl, cY_l Y l1 l2, y1, k1⟩
/-- set, on both sides -/
theorem k_set (W : gW g) (S : rS 0 g K so sz tr ca pl ag mk lk rt km kr) (Y : cY g csz cag ctr cca cpl clk crt ccs cfr cth cmk ctn csp) (hK : cK K cnt rows) {F n q : Nat} (hF : F < 20) (hn : n ≤ 20) (hq : q < 20) (x k y : Int32) (rf rg af aq : Nat → Int32) (ch : Int32) (p1 p2 : Int64) (p3 p4 : Int32) (m1 m2 m3 m4 m5 m6 m7 m8 : Nat → Int32) (m9 : Nat → Int64) (p5 : Int32) (m0 : Nat → Int32) :
    ∃ af' aq', (mX12_set x k y (nI F) (nI n) rf so sz tr ca pl ag mk lk rt km kr af aq = some (false, nI F, nI n, upd rf 3 (rf 3 + 1), so, sz, tr, ca, pl, ag, mk, lk, rt, km, kr, af', aq') ∧ mX11_set x k y ch cth cmk ctn csp csz cag ctr cca cpl clk crt ccs cfr cnt rows (nI n) (nI q) rg p1 p2 p3 p4 m1 m2 m3 m4 m5 m6 m7 m8 m9 p5 m0 = (false, ch, clk, cfr, nI n, nI q, upd rg 3 (rg 3 + 1), p1, p2, p3, p4, m1, m2, m3, m4, m5, m6, m7, m8, m9, p5, m0)) ∨
      ∃ (g' : GH) (so1 sz1 tr1 ca1 pl1 ag1 mk1 lk1 rt1 km1 kr1 clk1 : Nat → Int32) (cfr1 : Nat → Int64) (sz2 ag2 tr2 ca2 pl2 lk2 rt2 cs2 : Nat → Int32) (fr2 : Nat → Int64) (rows2 : Nat → Int32), gW g' ∧ g' 8 0 = g 8 0 ∧ mX12_set x k y (nI F) (nI n) rf so sz tr ca pl ag mk lk rt km kr af aq = some (true, nI (pF F n), nI (pU n), rf, so1, sz1, tr1, ca1, pl1, ag1, mk1, lk1, rt1, km1, kr1, af', aq') ∧ rA (2 + (F + n) % 20) g g' K K so sz tr ca pl ag mk lk rt km kr so1 sz1 tr1 ca1 pl1 ag1 mk1 lk1 rt1 km1 kr1 ∧ mX11_set x k y ch cth cmk ctn csp csz cag ctr cca cpl clk crt ccs cfr cnt rows (nI n) (nI q) rg p1 p2 p3 p4 m1 m2 m3 m4 m5 m6 m7 m8 m9 p5 m0 = (true, ch + 1, clk1, cfr1, nI (pU n), nI ((q + 1) % 20), rg, cth, cmk, ctn, csp, sz2, ag2, tr2, ca2, pl2, lk2, rt2, cs2, fr2, cnt, rows2) ∧ cY g' csz cag ctr cca cpl clk1 crt ccs cfr1 cth cmk ctn csp ∧ cY g sz2 ag2 tr2 ca2 pl2 lk2 rt2 cs2 fr2 cth cmk ctn csp ∧ cK K cnt rows2 := by
  obtain ⟨af1, aq1, e1⟩ := k_living W S Y x af aq
  have no : ∀ x k y, mX11_set_45 x k y ch cth cmk ctn csp csz cag ctr cca cpl clk crt ccs cfr cnt rows (nI n) (nI q) rg p1 p2 p3 p4 m1 m2 m3 m4 m5 m6 m7 m8 m9 p5 m0 = (false, ch, clk, cfr, nI n, nI q, upd rg 3 (rg 3 + 1), p1, p2, p3, p4, m1, m2, m3, m4, m5, m6, m7, m8, m9, p5, m0) := by
    intro x k y
    unfold mX11_set_45 mX11_set_46
    rw [if_pos (show (0 : Int32) = 0 from rfl), show (3 : Int32) = nI 3 from rfl, c_refuse (by decide), xlet_eq, xu_q]
  unfold mX12_set mX11_set
  rw [e1, obind]
  simp only [xu_q]
  cases lx : mX11_in (mX10_live cth clk crt) x with
  | false =>
    rw [if_neg (by decide), if_neg (by decide), r_set44, no]
    exact ⟨af1, aq1, Or.inl ⟨rfl, rfl⟩⟩
  | true =>
    obtain ⟨a, ha, rfl, h0⟩ := k_liv W Y lx
    rw [if_pos rfl, if_pos rfl]
    rcases k_range k (N := 4) (by decide) (by decide) with ⟨o, b⟩ | ⟨j, hj, rfl, b⟩
    · rw [show mX12_is k 0 3 = false from b, if_neg (by decide), r_set44]
      refine ⟨af1, aq1, Or.inl ⟨rfl, ?_⟩⟩
      by_cases z : k < 0
      · rw [if_pos z, no]
      · rw [if_neg z, if_neg (show ¬ k < 4 from o.resolve_left z), no]
    · rw [show mX12_is (nI j) 0 3 = true from b, if_pos rfl, if_neg (show ¬ nI j < 0 from nI_nlt (b := 0) (by omega) (by omega)), if_pos (show nI j < 4 from nI_lt (b := 4) hj (by decide))]
      have both : ∀ c, c ≤ 40 → y = bno c → (∀ t, c = t + 1 → gTh g t = true) → ∀ af2 aq2, (mX12_set_30 (nI a) (nI j) y (nI F) (nI n) rf so sz tr ca pl ag mk lk rt km kr af2 aq2 = some (false, nI F, nI n, upd rf 3 (rf 3 + 1), so, sz, tr, ca, pl, ag, mk, lk, rt, km, kr, af2, aq2) ∧ mX11_set_41 (nI a) (nI j) y ch cth cmk ctn csp csz cag ctr cca cpl clk crt ccs cfr cnt rows (nI n) (nI q) rg p1 p2 p3 p4 m1 m2 m3 m4 m5 m6 m7 m8 m9 p5 m0 = (false, ch, clk, cfr, nI n, nI q, upd rg 3 (rg 3 + 1), p1, p2, p3, p4, m1, m2, m3, m4, m5, m6, m7, m8, m9, p5, m0)) ∨
          ∃ (g' : GH) (so1 sz1 tr1 ca1 pl1 ag1 mk1 lk1 rt1 km1 kr1 clk1 : Nat → Int32) (cfr1 : Nat → Int64) (sz2 ag2 tr2 ca2 pl2 lk2 rt2 cs2 : Nat → Int32) (fr2 : Nat → Int64) (rows2 : Nat → Int32), gW g' ∧ g' 8 0 = g 8 0 ∧ mX12_set_30 (nI a) (nI j) y (nI F) (nI n) rf so sz tr ca pl ag mk lk rt km kr af2 aq2 = some (true, nI (pF F n), nI (pU n), rf, so1, sz1, tr1, ca1, pl1, ag1, mk1, lk1, rt1, km1, kr1, af2, aq2) ∧ rA (2 + (F + n) % 20) g g' K K so sz tr ca pl ag mk lk rt km kr so1 sz1 tr1 ca1 pl1 ag1 mk1 lk1 rt1 km1 kr1 ∧ mX11_set_41 (nI a) (nI j) y ch cth cmk ctn csp csz cag ctr cca cpl clk crt ccs cfr cnt rows (nI n) (nI q) rg p1 p2 p3 p4 m1 m2 m3 m4 m5 m6 m7 m8 m9 p5 m0 = (true, ch + 1, clk1, cfr1, nI (pU n), nI ((q + 1) % 20), rg, cth, cmk, ctn, csp, sz2, ag2, tr2, ca2, pl2, lk2, rt2, cs2, fr2, cnt, rows2) ∧ cY g' csz cag ctr cca cpl clk1 crt ccs cfr1 cth cmk ctn csp ∧ cY g sz2 ag2 tr2 ca2 pl2 lk2 rt2 cs2 fr2 cth cmk ctn csp ∧ cK K cnt rows2 := by
        intro c hc ey hcT af2 aq2
        subst ey
        obtain ⟨r1, r2⟩ := r_set30 W S ha hj h0 hc hcT hF hn rf af2 aq2
        obtain ⟨c1, c2⟩ := c_set46 W Y hK ha hj h0 hc hcT hq hn ch rg p1 p2 p3 p4 m1 m2 m3 m4 m5 m6 m7 m8 m9 p5 m0 1 (by decide)
        unfold mX11_set_41
        by_cases w : g 6 (4 * a + j) = c
        · exact Or.inl ⟨r1 w, c1 w⟩
        · obtain ⟨so1, sz1, tr1, ca1, pl1, ag1, mk1, lk1, rt1, km1, kr1, e, A⟩ := r2 w
          obtain ⟨clk1, cfr1, sz2, ag2, tr2, ca2, pl2, lk2, rt2, cs2, fr2, rows2, e', B⟩ := c2 w
          exact Or.inr ⟨_, so1, sz1, tr1, ca1, pl1, ag1, mk1, lk1, rt1, km1, kr1, clk1, cfr1, sz2, ag2, tr2, ca2, pl2, lk2, rt2, cs2, fr2, rows2, gW_l W ha hj h0 hc hcT, gset_n _ _ (fun q => absurd q.1 (by decide)), e, A, e', B⟩
      rcases k_aimed W S Y y af1 aq1 with ⟨h, c, hc, ey, hcT⟩ | ⟨h, l, af2, aq2, e2⟩
      · rcases h with h | ⟨h, l, af2, aq2, e2⟩
        · rw [if_pos h, if_pos h]
          exact ⟨af1, aq1, both c hc ey hcT af1 aq1⟩
        · rw [if_neg h, if_neg h, l, e2, obind]
          simp only [xu_q]
          rw [if_pos True.intro, if_pos True.intro]
          exact ⟨af2, aq2, both c hc ey hcT af2 aq2⟩
      · rw [if_neg h, if_neg h, l, e2, obind]
        simp only [xu_q]
        rw [if_neg (by decide), if_neg (by decide), r_set44, no]
        exact ⟨af2, aq2, Or.inl ⟨rfl, rfl⟩⟩
end SA
