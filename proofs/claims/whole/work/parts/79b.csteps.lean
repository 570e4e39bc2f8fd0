section CST
variable {g : GH} {K : GK} {P : GP} {code cf cl : Nat → Int32} {un : Int32}
theorem c_startAct (W : gW g) {sz ag tr ca pl lk rt cs rows : Nat → Int32} {fr : Nat → Int64} {th mk : Int64} {tn sp cnt : Int32} (Y : cY g sz ag tr ca pl lk rt cs fr th mk tn sp) (hK : cK K cnt rows) {U q : Nat} (hq : q < 20) (hUu : U ≤ 20) (ch : Int32) (p1 p2 : Int64) (p3 p4 : Int32) (m1 m2 m3 m4 m5 m6 m7 m8 : Nat → Int32) (m9 : Nat → Int64) (p5 : Int32) (m0 : Nat → Int32) :
    ∃ (sz2 ag2 tr2 ca2 pl2 lk2 rt2 cs2 : Nat → Int32) (fr2 : Nat → Int64) (rows2 : Nat → Int32), mX11_startAct ch th mk tn sp sz ag tr ca pl lk rt cs fr cnt rows (nI U) (nI q) p1 p2 p3 p4 m1 m2 m3 m4 m5 m6 m7 m8 m9 p5 m0 = ((ch + 1, nI (pU U), nI ((q + 1) % 20), th, mk, tn, sp, sz2, ag2, tr2, ca2, pl2, lk2, rt2, cs2, fr2, cnt, rows2) : Int32 × Int32 × Int32 × Int64 × Int64 × Int32 × Int32 × (Nat → Int32) × (Nat → Int32) × (Nat → Int32) × (Nat → Int32) × (Nat → Int32) × (Nat → Int32) × (Nat → Int32) × (Nat → Int32) × (Nat → Int64) × Int32 × (Nat → Int32)) ∧ cY g sz2 ag2 tr2 ca2 pl2 lk2 rt2 cs2 fr2 th mk tn sp ∧ cK K cnt rows2 := by
  obtain ⟨sz2, ag2, tr2, ca2, pl2, lk2, rt2, cs2, fr2, rows2, e, Y2, K2⟩ := c_save hq hUu W Y hK p1 p2 p3 p4 m1 m2 m3 m4 m5 m6 m7 m8 m9 p5 m0
  unfold mX11_startAct
  rw [e, xlet_eq]
  simp only [xu_q]
  exact ⟨sz2, ag2, tr2, ca2, pl2, lk2, rt2, cs2, fr2, rows2, rfl, Y2, K2⟩
/-- the class's steps, when one may -/
theorem c_steps (hF : cF code cf cl P) (hU : un = nI P.2.2) (hU2 : P.2.2 < 1000) (W : gW g) {n : Nat} (hn : n ≤ 60) (h8 : g 8 0 + n ≤ 999) {sz ag tr ca pl lk rt cs rows : Nat → Int32} {fr : Nat → Int64} {th mk : Int64} {tn sp cnt : Int32} (Y : cY g sz ag tr ca pl lk rt cs fr th mk tn sp) (hK : cK K cnt rows) {U q : Nat} (hq : q < 20) (hUu : U ≤ 20) (hA : mX11_canStep (nI n) un sp = true) (rf : Nat → Int32) (ch : Int32) (a1 a2 a3 : Int32) (a4 : Bool) (a5 a6 : Int64) (a7 a8 a9 a10 a11 : Int32) (a12 : Bool) (top : Int32) (fc sk wa : Nat → Int32) (ab : Nat → Int64) (p1 p2 : Int64) (p3 p4 : Int32) (m1 m2 m3 m4 m5 m6 m7 m8 : Nat → Int32) (m9 : Nat → Int64) (p5 : Int32) (m0 : Nat → Int32) :
    ∃ (th' mk' : Int64) (tn' sp' : Int32) (sz' ag' tr' ca' pl' lk' cs' : Nat → Int32) (fr' : Nat → Int64) (a1' a2' a3' : Int32) (a4' : Bool) (a5' a6' : Int64) (a7' a8' a9' a10' a11' : Int32) (a12' : Bool) (top' : Int32) (fc' sk' wa' : Nat → Int32) (ab' : Nat → Int64) (cnt' : Int32) (rows' : Nat → Int32) (sz2 ag2 tr2 ca2 pl2 lk2 rt2 cs2 : Nat → Int32) (fr2 : Nat → Int64) (rows2 : Nat → Int32), mX11_steps (nI n) ch un code cf cl th mk tn sp sz ag tr ca pl lk rt cs fr a1 a2 a3 a4 a5 a6 a7 a8 a9 a10 a11 a12 top fc sk wa ab cnt rows (nI U) (nI q) rf p1 p2 p3 p4 m1 m2 m3 m4 m5 m6 m7 m8 m9 p5 m0 = mX11_steps_22 (nI n) un code cf cl rt rf 0 n (nI (gSl P g n)) (ch + 1) th' mk' tn' sp' sz' ag' tr' ca' pl' lk' cs' fr' a1' a2' a3' a4' a5' a6' a7' a8' a9' a10' a11' a12' top' fc' sk' wa' ab' cnt' rows' (nI (pU U)) (nI ((q + 1) % 20)) th mk tn sp sz2 ag2 tr2 ca2 pl2 lk2 rt2 cs2 fr2 cnt rows2 ∧
      cY (gA P g n) sz' ag' tr' ca' pl' lk' rt cs' fr' th' mk' tn' sp' ∧ cK (gKs P g K n) cnt' rows' ∧ cY g sz2 ag2 tr2 ca2 pl2 lk2 rt2 cs2 fr2 th mk tn sp ∧ cK K cnt rows2 := by
  obtain ⟨sz2, ag2, tr2, ca2, pl2, lk2, rt2, cs2, fr2, rows2, e, Y2, K2⟩ := c_startAct W Y hK hq hUu ch p1 p2 p3 p4 m1 m2 m3 m4 m5 m6 m7 m8 m9 p5 m0
  obtain ⟨th', mk', tn', sp', sz', ag', tr', ca', pl', lk', cs', fr', a1', a2', a3', a4', a5', a6', a7', a8', a9', a10', a11', a12', top', fc', sk', wa', ab', cnt', rows', z, Y3, K3⟩ := c_steps22 hF hU hU2 W hn h8 rt rf (ch + 1) (nI (pU U)) (nI ((q + 1) % 20)) th mk tn sp sz2 ag2 tr2 ca2 pl2 lk2 rt2 cs2 fr2 cnt rows2 n 60 0 th mk tn sp sz ag tr ca pl lk cs fr a1 a2 a3 a4 a5 a6 a7 a8 a9 a10 a11 a12 top fc sk wa ab cnt rows (Nat.zero_add _) hn Y hK
  unfold mX11_steps
  rw [hA, if_pos rfl, e, xlet_eq]
  simp only [xu_q]
  rw [show gSl P g 0 = 0 from rfl, show nI 0 = 0 from rfl] at z
  exact ⟨th', mk', tn', sp', sz', ag', tr', ca', pl', lk', cs', fr', a1', a2', a3', a4', a5', a6', a7', a8', a9', a10', a11', a12', top', fc', sk', wa', ab', cnt', rows', sz2, ag2, tr2, ca2, pl2, lk2, rt2, cs2, fr2, rows2, z, Y3, K3, Y2, K2⟩
end CST
