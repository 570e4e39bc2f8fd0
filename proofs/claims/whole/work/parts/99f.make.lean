/-- the TRAIN of a thing that is made; the heap behind it -/
def gMw (E : Nat → Nat → Nat → Nat → Bool) (g : GH) : Nat := if gFr E g = true then gTr g else gTr g - 1
def gMak (E : Nat → Nat → Nat → Nat → Bool) (U : Nat) (g : GH) (t z r : Nat) : GH := gset (gNew g t z (gMw E g) U) 7 r (t + 1)
section MK
variable {g : GH} {K : GK} {E : Nat → Nat → Nat → Nat → Bool} {b U : Nat}
theorem gMw_ok (W : gW g) : (gMw E g = gTr g ∨ gMw E g + 1 = gTr g) := by
  unfold gMw
  by_cases q : gFr E g = true
  · rw [if_pos q]; exact Or.inl rfl
  · rw [if_neg q]
    unfold gFr at q
    by_cases h : gTr g = 0
    · rw [decide_eq_true h, Bool.true_or] at q; exact absurd rfl q
    · exact Or.inr (by omega)
theorem gW_mak (W : gW g) {t z r : Nat} (ht : t < 40) (h0 : g 0 t = 0) (hz : 1 ≤ z) (hz2 : z ≤ 99) : gW (gMak E U g t z r) := by
  have w := gMw_ok (E := E) W
  refine gW_r (gW_new W ht h0 hz hz2 (by omega)) (by omega) (fun s e => ?_)
  have : s = t := by omega
  subst this
  exact decide_eq_true (by rw [gNew_0]; omega)
theorem c_free {th : Int64} (hth : zh th (gTh g)) : (∃ t, t < 40 ∧ g 0 t = 0 ∧ (∀ u, u < t → 0 < g 0 u) ∧ mX10_leastFree th = nI t) ∨ ((∀ t, t < 40 → 0 < g 0 t) ∧ mX10_leastFree th = -1) := by
  have go : ∀ (m i : Nat), i + m = 40 → (∀ u, u < i → 0 < g 0 u) → (∃ t, t < 40 ∧ g 0 t = 0 ∧ (∀ u, u < t → 0 < g 0 u) ∧ mX10_leastFree_2 th m i = nI t) ∨ ((∀ t, t < 40 → 0 < g 0 t) ∧ mX10_leastFree_2 th m i = -1) := by
    intro m
    induction m with
    | zero => intro i hi h; exact Or.inr ⟨fun t ht => h t (by omega), rfl⟩
    | succ m ih =>
      intro i hi h
      rw [mX10_leastFree_2, zh_in hth (by omega)]
      by_cases p : 0 < g 0 i
      · rw [if_pos (show gTh g i = true from decide_eq_true p)]
        exact ih (i + 1) (by omega) (fun u hu => by
          by_cases e : u = i
          · subst e; exact p
          · exact h u (by omega))
      · rw [if_neg (show ¬ gTh g i = true from fun q => p (of_decide_eq_true q))]
        exact Or.inl ⟨i, by omega, by omega, h, rfl⟩
  exact go 40 0 (by decide) (fun u hu => absurd hu (Nat.not_lt_zero _))
section CM
variable {code cf cl sz ag tr ca pl lk rt cs rows : Nat → Int32} {fr : Nat → Int64} {th mk : Int64} {tn sp cnt : Int32}
/-- the class lays it and sets the root -/
theorem c_mk91 (W : gW g) {t z r w : Nat} (ht : t < 40) (h0 : g 0 t = 0) (hz : 1 ≤ z) (hz2 : z ≤ 99) (hr : r < 8) (hU : U < 1000) (hw : w = gTr g ∨ w + 1 = gTr g) (Y : cY g sz ag tr ca pl lk rt cs fr th mk tn sp) (hf : mX10_leastFree th = nI t) {cs1 : Nat → Int32} (hc1 : ∀ x, x < w + 1 → cs1 x = nI (gCa g x)) (rf : Nat → Int32) (ch top : Int32) (fa sk : Nat → Int32) (pc pn : Int32) (p1 p2 : Int64) (p3 p4 : Int32) (m1 m2 m3 m4 m5 m6 m7 m8 : Nat → Int32) (m9 : Nat → Int64) (p5 : Int32) (m0 : Nat → Int32) :
    ∃ (th' : Int64) (sz' ag' tr' ca' pl' rt' cs' : Nat → Int32), mX11_make_91 (nI z) (nI r) (nI U) th sz ag tr ca pl rt rf ch (nI (w + 1)) cs1 top fa sk pc pn p1 p2 p3 p4 m1 m2 m3 m4 m5 m6 m7 m8 m9 p5 m0 = (nI t, ch, th', nI (w + 1), sz', ag', tr', ca', pl', rt', cs', top, fa, sk, pc, pn, rf, p1, p2, p3, p4, m1, m2, m3, m4, m5, m6, m7, m8, m9, p5, m0) ∧ cY (gset (gNew g t z w U) 7 r (t + 1)) sz' ag' tr' ca' pl' lk rt' cs' fr th' mk (nI (w + 1)) sp := by
  obtain ⟨tr', ca', pl', cs', a1, a2, a3⟩ := c_new (U := U) W ht h0 hz hz2 hU hw Y hc1
  refine ⟨th ||| mX11_bit (nI t), upd sz t (nI z), upd ag t 0, tr', ca', pl', upd rt r (bno (t + 1)), cs', ?_, cY_r a3⟩
  unfold mX11_make_91
  rw [hf, a1, xlet_eq]
  simp only [xu_q]
  rw [nI_pred, a2, xlet_eq]
  simp only [xu_q]
  rw [s_put 8 r hr (by decide), xlet_eq, bnoS]
theorem c_makeY (hE : cE code cf cl E) (W : gW g) (h8 : g 8 0 ≤ 999) {t z r : Nat} (ht : t < 40) (h0 : g 0 t = 0) (hz : 1 ≤ z) (hzU : z ≤ U) (hU : U ≤ 99) (hr : r < 8) (Y : cY g sz ag tr ca pl lk rt cs fr th mk tn sp) (hK : cK K cnt rows) (hf : mX10_leastFree th = nI t) {n q : Nat} (hq : q < 20) (hn : n ≤ 20) (ch : Int32) (top : Int32) (fa sk rf : Nat → Int32) (p1 p2 : Int64) (p3 p4 : Int32) (m1 m2 m3 m4 m5 m6 m7 m8 : Nat → Int32) (m9 : Nat → Int64) (p5 : Int32) (m0 : Nat → Int32) :
    ∃ (th' : Int64) (tn' : Int32) (sz' ag' tr' ca' pl' rt' cs' : Nat → Int32) (top' : Int32) (fa' sk' : Nat → Int32) (sz2 ag2 tr2 ca2 pl2 lk2 rt2 cs2 : Nat → Int32) (fr2 : Nat → Int64) (rows2 : Nat → Int32), mX11_make (nI z) (nI r) ch (nI U) code cf cl th mk tn sp sz ag tr ca pl lk rt cs fr top fa sk cnt rows (nI n) (nI q) rf p1 p2 p3 p4 m1 m2 m3 m4 m5 m6 m7 m8 m9 p5 m0 = (nI t, ch + 1, th', tn', sz', ag', tr', ca', pl', rt', cs', top', fa', sk', nI (pU n), nI ((q + 1) % 20), rf, th, mk, tn, sp, sz2, ag2, tr2, ca2, pl2, lk2, rt2, cs2, fr2, cnt, rows2) ∧
      cY (gMak E U g t z r) sz' ag' tr' ca' pl' lk rt' cs' fr th' mk tn' sp ∧ cY g sz2 ag2 tr2 ca2 pl2 lk2 rt2 cs2 fr2 th mk tn sp ∧ cK K cnt rows2 := by
  obtain ⟨sz2, ag2, tr2, ca2, pl2, lk2, rt2, cs2, fr2, rows2, e, Y2, K2⟩ := c_startAct W Y hK hq hn ch p1 p2 p3 p4 m1 m2 m3 m4 m5 m6 m7 m8 m9 p5 m0
  have T40 := gTr_40 W
  have tnE : tn = nI (gTr g) := Y.2.2.2.2.2.2.2.1
  have csE := Y.2.2.2.1
  unfold mX11_make
  rw [show mX11_hasHeap (nI U) = true from if_pos (show (0 : Int32) < nI U from nI_lt (a := 0) (by omega) (by omega)), if_pos rfl, if_neg (show ¬ nI z < (1 : Int32) from nI_nlt (b := 1) hz (by omega)), if_neg (show ¬ nI U < nI z from nI_nlt hzU (by omega)), if_neg (show ¬ nI r < (0 : Int32) from nI_pos (by omega)), if_pos (show nI r < (8 : Int32) from nI_lt (b := 8) hr (by decide)), hf, if_neg (nI_m1 (by omega)), e, xlet_eq]
  simp only [xu_q]
  have new : gFr E g = true → ∀ (top : Int32) (fa sk : Nat → Int32), ∃ (th' : Int64) (tn' : Int32) (sz' ag' tr' ca' pl' rt' cs' : Nat → Int32), mX11_make_84 (nI z) (nI r) (nI U) th tn sz ag tr ca pl rt cs rf (ch + 1) top fa sk (nI (pU n)) (nI ((q + 1) % 20)) th mk tn sp sz2 ag2 tr2 ca2 pl2 lk2 rt2 cs2 fr2 cnt rows2 = (nI t, ch + 1, th', tn', sz', ag', tr', ca', pl', rt', cs', top, fa, sk, nI (pU n), nI ((q + 1) % 20), rf, th, mk, tn, sp, sz2, ag2, tr2, ca2, pl2, lk2, rt2, cs2, fr2, cnt, rows2) ∧ cY (gMak E U g t z r) sz' ag' tr' ca' pl' lk rt' cs' fr th' mk tn' sp := by
    intro hfr top fa sk
    have hcs : ∀ x, x < gTr g + 1 → upd cs (gTr g) 0 x = nI (gCa g x) := fun x hx => by
      by_cases y : x = gTr g
      · rw [y, pk_us]
        have : gCa g (gTr g) = 0 := bmx_eq (fun u hu p => by
          have p := of_decide_eq_true p
          have := gTr_lt hu p.1
          omega) (fun h => absurd h (by decide))
        rw [this]; rfl
      · rw [pk_un y]; exact csE x (by omega)
    obtain ⟨th', sz', ag', tr', ca', pl', rt', cs', a1, a2⟩ := c_mk91 (U := U) W ht h0 hz (by omega) hr (by omega) (Or.inl rfl) Y hf hcs rf (ch + 1) top fa sk (nI (pU n)) (nI ((q + 1) % 20)) th mk tn sp sz2 ag2 tr2 ca2 pl2 lk2 rt2 cs2 fr2 cnt rows2
    refine ⟨th', nI (gTr g + 1), sz', ag', tr', ca', pl', rt', cs', ?_, ?_⟩
    · unfold mX11_make_84 mX10_beginTrain
      rw [show mX11_put 42 tn (0 : Int32) cs = upd cs (gTr g) 0 by rw [tnE]; exact s_put 42 (gTr g) (by omega) (by decide) _ _, xlet_eq, xlet_eq]
      simp only [xu_q]
      rw [show tn + 1 = nI (gTr g + 1) by rw [tnE, nI_1]]
      exact a1
    · unfold gMak gMw
      rw [if_pos hfr]
      exact a2
  by_cases t0 : gTr g = 0
  · rw [if_pos (show tn = 0 by rw [tnE, t0]; rfl)]
    obtain ⟨th', tn', sz', ag', tr', ca', pl', rt', cs', a1, a2⟩ := new (by unfold gFr; rw [decide_eq_true t0, Bool.true_or]) top fa sk
    exact ⟨th', tn', sz', ag', tr', ca', pl', rt', cs', top, fa, sk, sz2, ag2, tr2, ca2, pl2, lk2, rt2, cs2, fr2, rows2, a1, a2, Y2, K2⟩
  · obtain ⟨top', fa', sk', w1⟩ := c_wants hE W h8 (by omega) Y top fa sk
    rw [if_neg (show ¬ tn = 0 by rw [tnE]; exact nI_ne0 (by omega) (by omega)), w1, xlet_eq]
    simp only [xu_q]
    have gf : gFr E g = E (g 8 0) (gTr g) (gCa g (gTr g - 1)) (gLo g) := by unfold gFr; rw [decide_eq_false t0, Bool.false_or]
    by_cases ee : E (g 8 0) (gTr g) (gCa g (gTr g - 1)) (gLo g) = true
    · rw [if_pos ee]
      obtain ⟨th', tn', sz', ag', tr', ca', pl', rt', cs', a1, a2⟩ := new (by rw [gf]; exact ee) top' fa' sk'
      exact ⟨th', tn', sz', ag', tr', ca', pl', rt', cs', top', fa', sk', sz2, ag2, tr2, ca2, pl2, lk2, rt2, cs2, fr2, rows2, a1, a2, Y2, K2⟩
    · rw [if_neg ee]
      have tn1 : tn = nI (gTr g - 1 + 1) := by rw [tnE]; congr 1; omega
      obtain ⟨th', sz', ag', tr', ca', pl', rt', cs', a1, a2⟩ := c_mk91 (w := gTr g - 1) (U := U) W ht h0 hz (by omega) hr (by omega) (Or.inr (by omega)) Y hf (fun x hx => csE x (by omega)) rf (ch + 1) top' fa' sk' (nI (pU n)) (nI ((q + 1) % 20)) th mk tn sp sz2 ag2 tr2 ca2 pl2 lk2 rt2 cs2 fr2 cnt rows2
      rw [← tn1] at a1 a2
      refine ⟨th', tn, sz', ag', tr', ca', pl', rt', cs', top', fa', sk', sz2, ag2, tr2, ca2, pl2, lk2, rt2, cs2, fr2, rows2, a1, ?_, Y2, K2⟩
      unfold gMak gMw
      rw [if_neg (by rw [gf]; exact ee)]
      exact a2
end CM
section RM
variable {so sz tr ca pl ag mk lk rt km kr ut sf sb cs cv : Nat → Int32}
/-- the reference lays it and sets the root -/
theorem r_mk93 (hb : b < 2) (W : gW g) {t z r w : Nat} (ht : t < 40) (h0 : g 0 t = 0) (hz : 1 ≤ z) (hz2 : z ≤ 99) (hr : r < 8) (hw : w ≤ 40) (hU : ut b = nI U) (hU2 : U < 1000) (S : rS 0 g K so sz tr ca pl ag mk lk rt km kr) (rf : Nat → Int32) (F n : Int32) (sk : Nat → Int64) (ask : Nat → Int32) :
    ∃ (sz' tr' ca' pl' ag' mk' lk' rt' : Nat → Int32), mX12_make_93 (nI z) (nI r) (nI b) ut rf (nI t) (nI w) F n so sz tr ca pl ag mk lk rt km kr sk ask = some (nI t, F, n, rf, so, sz', tr', ca', pl', ag', mk', lk', rt', km, kr, sk, ask) ∧ rS 0 (gset (gNew g t z w U) 7 r (t + 1)) K so sz' tr' ca' pl' ag' mk' lk' rt' km kr ∧ rY 0 so sz tr ca pl ag mk lk rt km kr so sz' tr' ca' pl' ag' mk' lk' rt' km kr := by
  obtain ⟨lk1, c1, c2, S1⟩ := r_clr (v := 0) (by decide) W ht h0 S
  rw [show 40 * 0 + t = t by omega] at c1 S1
  obtain ⟨tr2, ca2, pl2, l1, l2, l3, l4, S2⟩ := r_new (v := 0) (b := b) (ut := ut) (by decide) hb W ht h0 hz hz2 hw hU hU2 S1 (by rw [show 40 * 0 + t = t by omega, pk_us]) (by rw [show 40 * 0 + t = t by omega, pk_us])
  rw [show 40 * 0 + t = t by omega] at l1 S2
  have S3 := rS_r (r := r) (c := t + 1) S2
  rw [show 8 * 0 + r = r by omega, bnoS] at S3
  refine ⟨upd (upd sz t 0) t (nI z), tr2, ca2, pl2, upd ag t 0, upd mk t 0, lk1, upd rt r (nI t), ?_, S3, fun u g' K' hu h => ?_⟩
  · unfold mX12_make_93
    rw [show (0 : Int32) = nI 0 from rfl, c1, obind]
    simp only [xu_q]
    rw [if_pos (zb _ _ (by omega) (by decide)), zc t (by omega), show nI 0 = nI 0 from rfl, l1, obind]
    simp only [xu_q]
    rw [if_pos (zb _ _ (by omega) (by decide)), zc r (by omega)]
    rfl
  · exact rS_fr hu h (fun _ _ => rfl) (lF_u0 (lF_u0 (lF_rf _ _) ht _) ht _) (lF_tr2 (lF_u0 (lF_rf _ _) ht _) l2) (lF_tr2 (lF_u0 (lF_rf _ _) ht _) l3) (lF_tr2 (lF_u0 (lF_rf _ _) ht _) l4) (lF_u0 (lF_rf _ _) ht _) (lF_u0 (lF_rf _ _) ht _) c2 (fun i hi => by rw [pk_un (by omega)]) (fun _ _ => rfl) (fun _ _ => rfl)
theorem r_makeY (hb : b < 2) (hE : rE b sf sb cs cv E) (W : gW g) (h8 : g 8 0 ≤ 999) {t z r : Nat} (ht : t < 40) (h0 : g 0 t = 0) (hlt : ∀ u, u < t → 0 < g 0 u) (hz : 1 ≤ z) (hzU : z ≤ U) (hU : ut b = nI U) (hU2 : U ≤ 99) (hr : r < 8) {F n : Nat} (hF : F < 20) (hn : n ≤ 20) (S : rS 0 g K so sz tr ca pl ag mk lk rt km kr) (rf : Nat → Int32) (sk : Nat → Int64) (ask : Nat → Int32) :
    ∃ (so1 sz1 tr1 ca1 pl1 ag1 mk1 lk1 rt1 km1 kr1 sz' tr' ca' pl' ag' mk' lk' rt' : Nat → Int32) (sk' : Nat → Int64) (ask' : Nat → Int32), mX12_make (nI z) (nI r) (nI b) true (nI F) (nI n) ut sf sb cs cv rf so sz tr ca pl ag mk lk rt km kr sk ask = some (nI t, nI (pF F n), nI (pU n), rf, so1, sz', tr', ca', pl', ag', mk', lk', rt', km1, kr1, sk', ask') ∧ rS (2 + (F + n) % 20) g K so1 sz1 tr1 ca1 pl1 ag1 mk1 lk1 rt1 km1 kr1 ∧ rY (2 + (F + n) % 20) so sz tr ca pl ag mk lk rt km kr so1 sz1 tr1 ca1 pl1 ag1 mk1 lk1 rt1 km1 kr1 ∧ rS 0 (gMak E U g t z r) K so1 sz' tr' ca' pl' ag' mk' lk' rt' km1 kr1 ∧ rY 0 so1 sz1 tr1 ca1 pl1 ag1 mk1 lk1 rt1 km1 kr1 so1 sz' tr' ca' pl' ag' mk' lk' rt' km1 kr1 := by
  obtain ⟨so1, sz1, tr1, ca1, pl1, ag1, mk1, lk1, rt1, km1, kr1, e, Sk, Yk⟩ := r_keeps hF hn S
  have S1 := Yk 0 g K (by omega) S
  have M := S.1 (fun _ => 0) (fun _ => 0) (fun _ _ => rfl)
  have M1 := S1.1 (fun _ => 0) (fun _ => 0) (fun _ _ => rfl)
  have N := gW_N W
  have T40 := gTr_40 W
  have not40 : gThs g ≠ 40 := fun q => by
    have := fb_ct_all.mp q t ht
    have := of_decide_eq_true this
    omega
  have le40 : gThs g ≤ 40 := fb_ct_le _ 40
  obtain ⟨sk', ask', f1⟩ := r_fresh hb hE W h8 S1 sk ask
  have wok := gMw_ok (E := E) W
  obtain ⟨sz', tr', ca', pl', ag', mk', lk', rt', a1, a2, a3⟩ := r_mk93 (w := gMw E g) hb W ht h0 hz (by omega) hr (by omega) hU (by omega) S1 rf (nI (pF F n)) (nI (pU n)) sk' ask'
  have loop : ∀ (m i f : Nat), i + m = t → m < f → mX12_make_56 (nI z) (nI r) (nI b) ut sf sb cs cv rf sk ask f (nI i) (nI (pF F n)) (nI (pU n)) so1 sz1 tr1 ca1 pl1 ag1 mk1 lk1 rt1 km1 kr1 = some (nI t, nI (pF F n), nI (pU n), rf, so1, sz', tr', ca', pl', ag', mk', lk', rt', km1, kr1, sk', ask') := by
    intro m
    induction m with
    | zero =>
      intro i f hi hf
      obtain ⟨f, rfl⟩ : ∃ h, f = h + 1 := ⟨f - 1, by omega⟩
      have e : i = t := by omega
      subst e
      rw [mX12_make_56, show (0 : Int32) = nI 0 from rfl, r_there (v := 0) (by decide) M1 N ht, obind, decide_eq_false (by omega), if_neg (by decide), f1, obind]
      simp only [xu_q]
      rw [r_trains (v := 0) (by decide) M1 N, obind, obind]
      unfold gMw at a1
      by_cases q : gFr E g = true
      · rw [if_pos q] at a1 ⊢
        exact a1
      · rw [if_neg q] at a1 ⊢
        rcases wok with y | y
        · unfold gMw at y; rw [if_neg q] at y
          have q0 : gTr g = 0 := by omega
          exact absurd (show gFr E g = true by unfold gFr; rw [decide_eq_true q0, Bool.true_or]) q
        · unfold gMw at y; rw [if_neg q] at y
          rw [show nI (gTr g) - 1 = nI (gTr g - 1) from pk_sub (b := 1) (by omega)]
          exact a1
    | succ m ih =>
      intro i f hi hf
      obtain ⟨f, rfl⟩ : ∃ h, f = h + 1 := ⟨f - 1, by omega⟩
      rw [mX12_make_56, show (0 : Int32) = nI 0 from rfl, r_there (v := 0) (by decide) M1 N (by omega), obind, decide_eq_true (hlt i (by omega)), if_pos rfl, nI_1]
      exact ih (i + 1) f (by omega) (by omega)
  refine ⟨so1, sz1, tr1, ca1, pl1, ag1, mk1, lk1, rt1, km1, kr1, sz', tr', ca', pl', ag', mk', lk', rt', sk', ask', ?_, Sk, Yk, a2, a3⟩
  unfold mX12_make
  rw [if_pos rfl, if_pos (zb _ _ hb (by decide)), zc b (by omega), hU, show mX12_is (nI z) 1 (nI U) = true from Eq.trans (k_is z 1 U (by omega) (by decide) (by omega)) (decide_eq_true ⟨hz, hzU⟩), if_pos rfl, show mX12_is (nI r) 0 7 = true from Eq.trans (k_is r 0 7 (by omega) (by decide) (by decide)) (decide_eq_true ⟨by omega, by omega⟩), if_pos rfl, show (0 : Int32) = nI 0 from rfl, r_thingsOf (v := 0) (by decide) M N, obind, if_neg (show ¬ nI (gThs g) = 40 from fun q => not40 ((nI_eq (b := 40) (by omega) (by decide)).mp q)), e, obind]
  simp only [xu_q]
  exact loop t 0 xfuel (by omega) (by unfold xfuel; omega)
end RM
end MK
