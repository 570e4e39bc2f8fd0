section RST
variable {b : Nat} {g : GH} {K : GK} {sf sb cs cv ut ct : Nat → Int32} {P : GP}
/-- the reference's steps, when one may -/
theorem r_steps (hb : b < 2) (hF : rF b sf sb cs cv P) (hU : ut b = nI P.2.2) (hU2 : P.2.2 < 1000) (W : gW g) {n : Nat} (hn : n ≤ 60) (h8 : g 8 0 + n ≤ 999) {F U : Nat} (hF2 : F < 20) (hUu : U ≤ 20) {so sz tr ca pl ag mk lk rt km kr : Nat → Int32} (S : rS 0 g K so sz tr ca pl ag mk lk rt km kr) (hA : mX12_isAhead (nI n) 1 60 true so = true) (rf : Nat → Int32) (rn fe we co : Int32) (fu : Bool) (sk : Nat → Int64) (ask np im st sT : Nat → Int32) :
    ∃ (rn' fe' we' co' : Int32) (fu' : Bool) (so' sz' tr' ca' pl' ag' mk' lk' rt' km' kr' : Nat → Int32) (sk' : Nat → Int64) (ask' np' im' st' sT' : Nat → Int32), mX12_steps (nI n) (nI b) true (nI F) (nI U) rn fe we co fu ut sf sb cs cv rf so sz tr ca pl ag mk lk rt km kr sk ask np im st sT = some (nI (gSl P g n), nI (pF F U), nI (pU U), rn', fe', we', co', fu', rf, so', sz', tr', ca', pl', ag', mk', lk', rt', km', kr', sk', ask', np', im', st', sT') ∧
      rS 0 (gA P g n) (gKs P g K n) so' sz' tr' ca' pl' ag' mk' lk' rt' km' kr' ∧ rS (2 + (F + U) % 20) g K so' sz' tr' ca' pl' ag' mk' lk' rt' km' kr' ∧
      ∀ u g' K', u ≠ 0 → u ≠ 2 + (F + U) % 20 → rS u g' K' so sz tr ca pl ag mk lk rt km kr → rS u g' K' so' sz' tr' ca' pl' ag' mk' lk' rt' km' kr' := by
  unfold mX12_steps
  obtain ⟨so1, sz1, tr1, ca1, pl1, ag1, mk1, lk1, rt1, km1, kr1, e, S1, Y1⟩ := r_keeps hF2 hUu S
  rw [hA, if_pos rfl, e, obind]
  simp only [xu_q]
  obtain ⟨r1, r2, r3, r4, r5, so2, sz2, tr2, ca2, pl2, ag2, mk2, lk2, km2, kr2, sk2, ask2, np2, im2, st2, sT2, q, S2, Y2⟩ := r_steps25 hb hF hU hU2 W hn h8 rt1 rf (nI (pF F U)) (nI (pU U)) n xfuel 0 rn fe we co fu so1 sz1 tr1 ca1 pl1 ag1 mk1 lk1 km1 kr1 sk ask np im st sT (Nat.zero_add _) (Nat.lt_of_le_of_lt hn (by decide)) (Y1 0 g K (by omega) S)
  rw [show gSl P g 0 = 0 from rfl, show nI 0 = 0 from rfl] at q
  rw [q]
  exact ⟨_, _, _, _, _, _, _, _, _, _, _, _, _, _, _, _, _, _, _, _, _, _, rfl, S2, Y2 _ g K (by omega) S1, fun u g' K' h0 hq hS => Y2 u g' K' h0 (Y1 u g' K' hq hS)⟩
/-- the reference's chance, when one may -/
theorem r_chance (hb : b < 2) (hF : rF b sf sb cs cv P) (hU : ut b = nI P.2.2) (hU2 : P.2.2 < 1000) {H s : Nat} (hC : ct b = nI H) (hH : H < 1000) (hs : s < 2 ^ 31) (W : gW g) {n : Nat} (hn : n ≤ 60) (h8 : g 8 0 + n ≤ 999) {F U : Nat} (hF2 : F < 20) (hUu : U ≤ 20) {so sz tr ca pl ag mk lk rt km kr : Nat → Int32} (S : rS 0 g K so sz tr ca pl ag mk lk rt km kr) (hA : mX12_isAhead (nI n) 1 60 true so = true) (rf : Nat → Int32) (rn fe we co : Int32) (fu : Bool) (sk : Nat → Int64) (ask np im st sT af aq lv : Nat → Int32) :
    ∃ (rn' fe' we' co' : Int32) (fu' : Bool) (so' sz' tr' ca' pl' ag' mk' lk' rt' km' kr' : Nat → Int32) (sk' : Nat → Int64) (ask' np' im' st' sT' af' aq' lv' : Nat → Int32), mX12_chance (nI n) (nI b) true (nI F) (nI U) (lN s) rn fe we co fu ut ct sf sb cs cv rf so sz tr ca pl ag mk lk rt km kr sk ask np im st sT af aq lv = some (nI (gIt P H n (g, s, K, 0)).2.2.2, nI (pF F U), nI (pU U), lN (gIt P H n (g, s, K, 0)).2.1, rn', fe', we', co', fu', rf, so', sz', tr', ca', pl', ag', mk', lk', rt', km', kr', sk', ask', np', im', st', sT', af', aq', lv') ∧
      rS 0 (gIt P H n (g, s, K, 0)).1 (gIt P H n (g, s, K, 0)).2.2.1 so' sz' tr' ca' pl' ag' mk' lk' rt' km' kr' ∧ rS (2 + (F + U) % 20) g K so' sz' tr' ca' pl' ag' mk' lk' rt' km' kr' ∧
      ∀ u g' K', u ≠ 0 → u ≠ 2 + (F + U) % 20 → rS u g' K' so sz tr ca pl ag mk lk rt km kr → rS u g' K' so' sz' tr' ca' pl' ag' mk' lk' rt' km' kr' := by
  unfold mX12_chance
  obtain ⟨so1, sz1, tr1, ca1, pl1, ag1, mk1, lk1, rt1, km1, kr1, e, S1, Y1⟩ := r_keeps hF2 hUu S
  rw [hA, if_pos rfl, e, obind]
  simp only [xu_q]
  obtain ⟨r1, r2, r3, r4, r5, so2, sz2, tr2, ca2, pl2, ag2, mk2, lk2, km2, kr2, sk2, ask2, np2, im2, st2, sT2, af2, aq2, lv2, q, S2, Y2⟩ := r_chance25 hb hF hU hU2 hC hH hn rt1 rf (nI (pF F U)) (nI (pU U)) n xfuel 0 (g, s, K, 0) rn fe we co fu so1 sz1 tr1 ca1 pl1 ag1 mk1 lk1 km1 kr1 sk ask np im st sT af aq lv (Nat.zero_add _) (Nat.lt_of_le_of_lt hn (by decide)) W hs h8 (Y1 0 g K (by omega) S)
  have q : mX12_chance_25 (nI n) (nI b) ut ct sf sb cs cv rf xfuel (nI 0) (nI 0) (nI (pF F U)) (nI (pU U)) (lN s) rn fe we co fu so1 sz1 tr1 ca1 pl1 ag1 mk1 lk1 rt1 km1 kr1 sk ask np im st sT af aq lv = _ := q
  rw [show nI 0 = 0 from rfl] at q
  rw [q]
  exact ⟨_, _, _, _, _, _, _, _, _, _, _, _, _, _, _, _, _, _, _, _, _, _, _, _, _, rfl, S2, Y2 _ g K (by omega) S1, fun u g' K' h0 hq hS => Y2 u g' K' h0 (Y1 u g' K' hq hS)⟩
end RST
