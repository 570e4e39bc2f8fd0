/-- what is KEPT after n -/
def gKs (P : GP) (g : GH) (K : GK) : Nat → GK
  | 0 => K
  | n + 1 => kAdd (gKs P g K n) (gA P g n 8 0) (gTick P (gA P g n)).2.1 (gTick P (gA P g n)).2.2.1
/-- how many FELL -/
def gSl (P : GP) (g : GH) (n : Nat) : Nat := fb_sm (fun i => (gTick P (gA P g i)).2.1) n
section STP
variable {g : GH} {K : GK} {P : GP} {code cf cl : Nat → Int32} {un : Int32}
theorem c_stepKeep (hF : cF code cf cl P) (hU : un = nI P.2.2) (hU2 : P.2.2 < 1000) (W : gW g) {sz ag tr ca pl lk rt cs : Nat → Int32} {fr : Nat → Int64} {th mk : Int64} {tn sp : Int32} (Y : cY g sz ag tr ca pl lk rt cs fr th mk tn sp) (h8 : g 8 0 < 999) {cnt : Int32} {rows : Nat → Int32} (hK : cK K cnt rows) (a5 a6 : Int64) (a7 a8 a9 a10 a11 : Int32) (a12 : Bool) (top : Int32) (fc sk wa : Nat → Int32) (ab : Nat → Int64) :
    ∃ (th' mk' : Int64) (tn' sp' : Int32) (sz' ag' tr' ca' pl' lk' cs' : Nat → Int32) (fr' : Nat → Int64) (a5' a6' : Int64) (a7' a8' a9' a10' a11' : Int32) (a12' : Bool) (top' : Int32) (fc' sk' wa' : Nat → Int32) (ab' : Nat → Int64) (cnt' : Int32) (rows' : Nat → Int32),
      mX11_stepAndKeep un code cf cl th mk tn sp sz ag tr ca pl lk rt cs fr a5 a6 a7 a8 a9 a10 a11 a12 top fc sk wa ab cnt rows = (th', mk', tn', sp', sz', ag', tr', ca', pl', lk', cs', fr', nI (gTick P g).2.1, nI (gTick P g).2.2.1, nI (gTick P g).2.2.2.1, (gTick P g).2.2.2.2, a5', a6', a7', a8', a9', a10', a11', a12', top', fc', sk', wa', ab', cnt', rows') ∧
      gW (gTick P g).1 ∧ cY (gTick P g).1 sz' ag' tr' ca' pl' lk' rt cs' fr' th' mk' tn' sp' ∧ cK (kAdd K (g 8 0) (gTick P g).2.1 (gTick P g).2.2.1) cnt' rows' := by
  obtain ⟨W1, b1, b2, b3, b4, b5, b6, b7, b8, b9, b10, b11, b12, ab1, th1, mk1, tn1, sz1, ag1, tr1, ca1, pl1, lk1, cs1, fr1, e, Y1⟩ := c_step hF hU hU2 W Y h8 a5 a6 a7 a8 a9 a10 a11 top a12 fc sk wa ab
  obtain ⟨cnt', rows', q, K'⟩ := c_add hK (g 8 0) (gTick P g).2.1 (gTick P g).2.2.1
  unfold mX11_stepAndKeep
  rw [e, xlet_eq]
  simp only [xu_q]
  rw [show sp = nI (g 8 0) from Y.2.2.2.2.2.2.2.2, q, xlet_eq, xu_q]
  exact ⟨_, _, _, _, _, _, _, _, _, _, _, _, _, _, _, _, _, _, _, _, _, _, _, _, _, cnt', rows', rfl, W1, Y1, K'⟩
theorem c_steps22 (hF : cF code cf cl P) (hU : un = nI P.2.2) (hU2 : P.2.2 < 1000) (W : gW g) {n : Nat} (hn : n ≤ 60) (h8 : g 8 0 + n ≤ 999) (rt rf : Nat → Int32) (ch : Int32) (pc pn : Int32) (p1 p2 : Int64) (p3 p4 : Int32) (m1 m2 m3 m4 m5 m6 m7 m8 : Nat → Int32) (m9 : Nat → Int64) (p5 : Int32) (m0 : Nat → Int32) : ∀ m k j (th mk : Int64) (tn sp : Int32) (sz ag tr ca pl lk cs : Nat → Int32) (fr : Nat → Int64) (a1 a2 a3 : Int32) (a4 : Bool) (a5 a6 : Int64) (a7 a8 a9 a10 a11 : Int32) (a12 : Bool) (top : Int32) (fc sk wa : Nat → Int32) (ab : Nat → Int64) (cnt : Int32) (rows : Nat → Int32), j + m = n → m ≤ k → cY (gA P g j) sz ag tr ca pl lk rt cs fr th mk tn sp → cK (gKs P g K j) cnt rows →
    ∃ (th' mk' : Int64) (tn' sp' : Int32) (sz' ag' tr' ca' pl' lk' cs' : Nat → Int32) (fr' : Nat → Int64) (a1' a2' a3' : Int32) (a4' : Bool) (a5' a6' : Int64) (a7' a8' a9' a10' a11' : Int32) (a12' : Bool) (top' : Int32) (fc' sk' wa' : Nat → Int32) (ab' : Nat → Int64) (cnt' : Int32) (rows' : Nat → Int32), mX11_steps_22 (nI n) un code cf cl rt rf k j (nI (gSl P g j)) ch th mk tn sp sz ag tr ca pl lk cs fr a1 a2 a3 a4 a5 a6 a7 a8 a9 a10 a11 a12 top fc sk wa ab cnt rows pc pn p1 p2 p3 p4 m1 m2 m3 m4 m5 m6 m7 m8 m9 p5 m0 = mX11_steps_22 (nI n) un code cf cl rt rf 0 n (nI (gSl P g n)) ch th' mk' tn' sp' sz' ag' tr' ca' pl' lk' cs' fr' a1' a2' a3' a4' a5' a6' a7' a8' a9' a10' a11' a12' top' fc' sk' wa' ab' cnt' rows' pc pn p1 p2 p3 p4 m1 m2 m3 m4 m5 m6 m7 m8 m9 p5 m0 ∧
      cY (gA P g n) sz' ag' tr' ca' pl' lk' rt cs' fr' th' mk' tn' sp' ∧ cK (gKs P g K n) cnt' rows' := by
  intro m
  induction m with
  | zero =>
    intro k j th mk tn sp sz ag tr ca pl lk cs fr a1 a2 a3 a4 a5 a6 a7 a8 a9 a10 a11 a12 top fc sk wa ab cnt rows hj hk Y hK
    have : j = n := by omega
    subst this
    refine ⟨th, mk, tn, sp, sz, ag, tr, ca, pl, lk, cs, fr, a1, a2, a3, a4, a5, a6, a7, a8, a9, a10, a11, a12, top, fc, sk, wa, ab, cnt, rows, ?_, Y, hK⟩
    cases k with
    | zero => rfl
    | succ k =>
      rw [mX11_steps_22, mX11_steps_22, ite_self, if_neg (nI_nlt (Nat.le_refl j) (by omega))]
  | succ m ih =>
    intro k j th mk tn sp sz ag tr ca pl lk cs fr a1 a2 a3 a4 a5 a6 a7 a8 a9 a10 a11 a12 top fc sk wa ab cnt rows hj hk Y hK
    obtain ⟨k, rfl⟩ : ∃ q, k = q + 1 := ⟨k - 1, by omega⟩
    obtain ⟨Wj, e8⟩ := gA_W P W j
    obtain ⟨th1, mk1, tn1, sp1, sz1, ag1, tr1, ca1, pl1, lk1, cs1, fr1, b5, b6, b7, b8, b9, b10, b11, b12, top1, fc1, sk1, wa1, ab1, cnt1, rows1, e, W1, Y1, K1⟩ := c_stepKeep hF hU hU2 Wj Y (by rw [e8]; omega) hK a5 a6 a7 a8 a9 a10 a11 a12 top fc sk wa ab
    obtain ⟨th', mk', tn', sp', sz', ag', tr', ca', pl', lk', cs', fr', a1', a2', a3', a4', a5', a6', a7', a8', a9', a10', a11', a12', top', fc', sk', wa', ab', cnt', rows', q, Y', K'⟩ := ih k (j + 1) th1 mk1 tn1 sp1 sz1 ag1 tr1 ca1 pl1 lk1 cs1 fr1 (nI (gTick P (gA P g j)).2.1) (nI (gTick P (gA P g j)).2.2.1) (nI (gTick P (gA P g j)).2.2.2.1) (gTick P (gA P g j)).2.2.2.2 b5 b6 b7 b8 b9 b10 b11 b12 top1 fc1 sk1 wa1 ab1 cnt1 rows1 (by omega) (by omega) Y1 K1
    refine ⟨th', mk', tn', sp', sz', ag', tr', ca', pl', lk', cs', fr', a1', a2', a3', a4', a5', a6', a7', a8', a9', a10', a11', a12', top', fc', sk', wa', ab', cnt', rows', ?_, Y', K'⟩
    rw [← q]
    conv => lhs; rw [mX11_steps_22]
    rw [if_pos (nI_lt (show j < n by omega) (by omega)), e, xlet_eq]
    simp only [xu_q]
    rw [nI_add]
    rfl
variable {b : Nat} {sf sb cs cv ut : Nat → Int32}
theorem r_steps25 (hb : b < 2) (hF : rF b sf sb cs cv P) (hU : ut b = nI P.2.2) (hU2 : P.2.2 < 1000) (W : gW g) {n : Nat} (hn : n ≤ 60) (h8 : g 8 0 + n ≤ 999) (rt rf : Nat → Int32) (uF uU : Int32) : ∀ m f j (rn fe we co : Int32) (fu : Bool) (so sz tr ca pl ag mk lk km kr : Nat → Int32) (sk : Nat → Int64) (ask np im st sT : Nat → Int32), j + m = n → m < f → rS 0 (gA P g j) (gKs P g K j) so sz tr ca pl ag mk lk rt km kr →
    ∃ (rn' fe' we' co' : Int32) (fu' : Bool) (so' sz' tr' ca' pl' ag' mk' lk' km' kr' : Nat → Int32) (sk' : Nat → Int64) (ask' np' im' st' sT' : Nat → Int32), mX12_steps_25 (nI n) (nI b) ut sf sb cs cv rf f (nI (gSl P g j)) (nI j) uF uU rn fe we co fu so sz tr ca pl ag mk lk rt km kr sk ask np im st sT = some (nI (gSl P g n), uF, uU, rn', fe', we', co', fu', rf, so', sz', tr', ca', pl', ag', mk', lk', rt, km', kr', sk', ask', np', im', st', sT') ∧
      rS 0 (gA P g n) (gKs P g K n) so' sz' tr' ca' pl' ag' mk' lk' rt km' kr' ∧ rY 0 so sz tr ca pl ag mk lk rt km kr so' sz' tr' ca' pl' ag' mk' lk' rt km' kr' := by
  intro m
  induction m with
  | zero =>
    intro f j rn fe we co fu so sz tr ca pl ag mk lk km kr sk ask np im st sT hj hf S
    obtain ⟨f, rfl⟩ : ∃ q, f = q + 1 := ⟨f - 1, by omega⟩
    have : j = n := by omega
    subst this
    rw [mX12_steps_25, if_neg (nI_nlt (Nat.le_refl j) (by omega))]
    exact ⟨_, _, _, _, _, _, _, _, _, _, _, _, _, _, _, _, _, _, _, _, _, rfl, S, fun _ _ _ _ h => h⟩
  | succ m ih =>
    intro f j rn fe we co fu so sz tr ca pl ag mk lk km kr sk ask np im st sT hj hf S
    obtain ⟨f, rfl⟩ : ∃ q, f = q + 1 := ⟨f - 1, by omega⟩
    obtain ⟨Wj, e8⟩ := gA_W P W j
    obtain ⟨W1, rn', so', sz', tr', ca', pl', ag', mk', lk', km', kr', sk', ask', np', im', st', sT', e, S', e8', Y⟩ := r_tickS (v := 0) (by decide) hb hF hU hU2 Wj S (by rw [e8]; omega) rn sk ask np im st sT
    have e : mX12_ticks (0 : Int32) (nI b) rn ut sf sb cs cv so sz tr ca pl ag mk lk rt km kr sk ask np im st sT = _ := e
    rw [mX12_steps_25, if_pos (nI_lt (show j < n by omega) (by omega)), e, obind]
    simp only [xu_q]
    rw [nI_add, nI_1]
    obtain ⟨r1, r2, r3, r4, r5, so2, sz2, tr2, ca2, pl2, ag2, mk2, lk2, km2, kr2, sk2, ask2, np2, im2, st2, sT2, q, S2, Y2⟩ := ih f (j + 1) rn' (nI (gTick P (gA P g j)).2.1) (nI (gTick P (gA P g j)).2.2.1) (nI (gTick P (gA P g j)).2.2.2.1) (gTick P (gA P g j)).2.2.2.2 so' sz' tr' ca' pl' ag' mk' lk' km' kr' sk' ask' np' im' st' sT' (by omega) (by omega) S'
    exact ⟨_, _, _, _, _, _, _, _, _, _, _, _, _, _, _, _, _, _, _, _, _, q, S2, fun u g' K' hu hS => Y2 u g' K' hu (Y u g' K' hu hS)⟩
end STP
