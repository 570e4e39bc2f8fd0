abbrev LT' : Type := Int32 × Int32 × Int32 × Int32 × Int32 × Bool × (Nat → Int32) × (Nat → Int32) × (Nat → Int32) × (Nat → Int32) × (Nat → Int32) × (Nat → Int32) × (Nat → Int32) × (Nat → Int32) × (Nat → Int32) × (Nat → Int32) × (Nat → Int32) × (Nat → Int64) × (Nat → Int32) × (Nat → Int32) × (Nat → Int32) × (Nat → Int32) × (Nat → Int32) × (Nat → Int32) × (Nat → Int32)
def lOk (x : Int32) (Q : (Nat → Int32) → (Nat → Int32) → Prop) (so sz tr ca pl ag mk lk rt km kr : Nat → Int32) (r : Option LT') : Prop := ∃ rn fe we co fu so' sz' tr' ca' pl' ag' mk' lk' rt' km' kr' sk ask np im st sT il mb, r = some (x, rn, fe, we, co, fu, so', sz', tr', ca', pl', ag', mk', lk', rt', km', kr', sk, ask, np, im, st, sT, il, mb) ∧ Q il mb ∧ rY 1 so sz tr ca pl ag mk lk rt km kr so' sz' tr' ca' pl' ag' mk' lk' rt' km' kr'
theorem lOk_tr {x : Int32} {Q : (Nat → Int32) → (Nat → Int32) → Prop} {so sz tr ca pl ag mk lk rt km kr so1 sz1 tr1 ca1 pl1 ag1 mk1 lk1 rt1 km1 kr1 : Nat → Int32} {r : Option LT'} (h : rY 1 so sz tr ca pl ag mk lk rt km kr so1 sz1 tr1 ca1 pl1 ag1 mk1 lk1 rt1 km1 kr1) (q : lOk x Q so1 sz1 tr1 ca1 pl1 ag1 mk1 lk1 rt1 km1 kr1 r) : lOk x Q so sz tr ca pl ag mk lk rt km kr r := by
  obtain ⟨rn, fe, we, co, fu, so', sz', tr', ca', pl', ag', mk', lk', rt', km', kr', sk, ask, np, im, st, sT, il, mb, e, hq, y⟩ := q
  exact ⟨rn, fe, we, co, fu, so', sz', tr', ca', pl', ag', mk', lk', rt', km', kr', sk, ask, np, im, st, sT, il, mb, e, hq, fun u g' K' hu hS => y u g' K' hu (h u g' K' hu hS)⟩
/-- what is LEFT, below z, and its tables -/
def lT (P : GP) (g : GH) (t M : Nat) (R : Nat → Nat) (z : Nat) (il mb : Nat → Int32) : Prop := ∀ y, 0 < y → y < z → il y = (if gFits P g t M R y = true then 1 else 0) ∧ ∀ m, m < gR20 g + 1 → ∀ k, k < 3 → mb (63 * y + 3 * m + k) = nI (gQ P g t y m k)
def gLeft (P : GP) (g : GH) (t M : Nat) (R : Nat → Nat) (n : Nat) : Nat := fb_ct (fun i => gFits P g t M R (i + 1)) n
/-- the K-th left -/
def nthF (p : Nat → Bool) (K : Int32) : Nat → Nat → Nat → Int32
  | 0, _, _ => -1
  | k + 1, z, c => if p z = true then (if nI c = K then nI z else nthF p K k (z + 1) (c + 1)) else nthF p K k (z + 1) c
section RLV
variable {b : Nat} {g : GH} {sf sb cs cv ut : Nat → Int32} {P : GP} {M : Nat} {R : Nat → Nat} {mm : Int32} {ms mw mn : Nat → Int32}
theorem r_leaves4 (hb : b < 2) (hF : rF b sf sb cs cv P) (hU : ut b = nI P.2.2) (hU2 : P.2.2 ≤ 99) (W : gW g) (h8 : g 8 0 ≤ 999) (K0 : GK) (hM : gMet M R) (hr : rMet M R mm ms mw mn) {t : Nat} (ht : t < 40) (hg : 0 < g 0 t) : ∀ k z f (rn fe we co : Int32) (fu : Bool) (so sz tr ca pl ag mk lk rt km kr : Nat → Int32) (sk : Nat → Int64) (ask np im st sT il mb : Nat → Int32), z + k = P.2.2 → k + 1 < f → rS 0 g K0 so sz tr ca pl ag mk lk rt km kr → lT P g t M R (z + 1) il mb →
    lOk (nI (gLeft P g t M R P.2.2)) (lT P g t M R (P.2.2 + 1)) so sz tr ca pl ag mk lk rt km kr (mX12_leaves_4 (nI t) (nI b) true mm ut sf sb cs cv ms mw mn f (nI (gLeft P g t M R z)) (nI (z + 1)) rn fe we co fu so sz tr ca pl ag mk lk rt km kr sk ask np im st sT il mb) := by
  intro k
  induction k with
  | zero =>
    intro z f rn fe we co fu so sz tr ca pl ag mk lk rt km kr sk ask np im st sT il mb hz hf S0 L
    obtain ⟨f, rfl⟩ : ∃ q, f = q + 1 := ⟨f - 1, by omega⟩
    have : z = P.2.2 := by omega
    rw [mX12_leaves_4, zb b 2 (by omega) (by decide), if_pos rfl, zc b (by omega), hU, if_pos (nI_lt (by omega) (by omega)), ← this]
    exact ⟨_, _, _, _, _, _, _, _, _, _, _, _, _, _, _, _, _, _, _, _, _, _, _, _, rfl, L, fun _ _ _ _ h => h⟩
  | succ k ih =>
    intro z f rn fe we co fu so sz tr ca pl ag mk lk rt km kr sk ask np im st sT il mb hz hf S0 L
    obtain ⟨f, rfl⟩ : ∃ q, f = q + 1 := ⟨f - 1, by omega⟩
    obtain ⟨rn1, fe1, we1, co1, fu1, so1, sz1, tr1, ca1, pl1, ag1, mk1, lk1, rt1, km1, kr1, sk1, ask1, np1, im1, st1, sT1, mb1, e, B, Y⟩ := r_canBe hb hF hU (by omega) W h8 hM hr ht hg (z := z + 1) (by omega) (by omega) S0 rn fe we co fu sk ask np im st sT mb
    rw [mX12_leaves_4, zb b 2 (by omega) (by decide), if_pos rfl, zc b (by omega), hU, if_neg (nI_nlt (by omega) (by omega)), e, obind]
    simp only [xu_q]
    rw [zb (z + 1) 100 (by omega) (by decide), if_pos rfl, zc (z + 1) (by omega), pk_us, pk_us, nI_1]
    have L1 : ∀ x : Int32, x = (if gFits P g t M R (z + 1) = true then 1 else 0) → lT P g t M R (z + 1 + 1) (upd il (z + 1) x) mb1 := by
      intro x hx y hy hy2
      by_cases w : y = z + 1
      · subst w
        exact ⟨by rw [pk_us]; exact hx, B.1⟩
      · obtain ⟨a, c⟩ := L y hy (by omega)
        refine ⟨by rw [pk_un w]; exact a, fun m hm k hk => ?_⟩
        have := (gR20_le g).1
        rw [B.2 _ (by omega)]
        exact c m hm k hk
    have el : gLeft P g t M R (z + 1) = gLeft P g t M R z + if gFits P g t M R (z + 1) = true then 1 else 0 := fb_ct_succ _ _
    by_cases q : gFits P g t M R (z + 1) = true
    · rw [if_pos q, nI_1]
      rw [if_pos q] at el
      rw [← el]
      exact lOk_tr Y (ih (z + 1) f _ _ _ _ _ _ _ _ _ _ _ _ _ _ _ _ _ _ _ _ _ _ _ _ (by omega) (by omega) (Y 0 g K0 (by decide) S0) (L1 1 (by rw [if_pos q])))
    · rw [if_neg q, if_pos rfl, Int32.add_zero, nI_1]
      rw [if_neg q, Nat.add_zero (gLeft P g t M R z)] at el
      rw [← el]
      exact lOk_tr Y (ih (z + 1) f _ _ _ _ _ _ _ _ _ _ _ _ _ _ _ _ _ _ _ _ _ _ _ _ (by omega) (by omega) (Y 0 g K0 (by decide) S0) (L1 0 (by rw [if_neg q])))
theorem r_leaves (hb : b < 2) (hF : rF b sf sb cs cv P) (hU : ut b = nI P.2.2) (hU2 : P.2.2 ≤ 99) (W : gW g) (h8 : g 8 0 ≤ 999) {K0 : GK} (hM : gMet M R) (hr : rMet M R mm ms mw mn) {t : Nat} (ht : t < 40) (hg : 0 < g 0 t) {so sz tr ca pl ag mk lk rt km kr : Nat → Int32} (S0 : rS 0 g K0 so sz tr ca pl ag mk lk rt km kr) (rn fe we co : Int32) (fu : Bool) (sk : Nat → Int64) (ask np im st sT il mb : Nat → Int32) :
    lOk (nI (gLeft P g t M R P.2.2)) (lT P g t M R (P.2.2 + 1)) so sz tr ca pl ag mk lk rt km kr (mX12_leaves (nI t) (nI b) true rn fe we co fu mm ut sf sb cs cv so sz tr ca pl ag mk lk rt km kr sk ask np im st sT ms mw mn il mb) := by
  unfold mX12_leaves
  exact r_leaves4 hb hF hU hU2 W h8 K0 hM hr ht hg P.2.2 0 xfuel rn fe we co fu so sz tr ca pl ag mk lk rt km kr sk ask np im st sT il mb (Nat.zero_add _) (Nat.lt_of_le_of_lt (Nat.succ_le_succ hU2) (by decide)) S0 (fun y hy hy2 => by omega)
theorem r_sizes34 (hb : b < 2) (hU : ut b = nI P.2.2) (hU2 : P.2.2 ≤ 99) (p : Nat → Bool) (K : Int32) {il : Nat → Int32} (hil : ∀ y, 0 < y → y ≤ P.2.2 → il y = if p y = true then 1 else 0) (rn fe we co : Int32) (fu : Bool) (so sz tr ca pl ag mk lk rt km kr : Nat → Int32) (sk : Nat → Int64) (ask np im st sT mb : Nat → Int32) : ∀ k z f c, z + k = P.2.2 + 1 → k < f → 0 < z → c ≤ z →
    mX12_sizes_34 K (nI b) ut f (nI c) (nI z) rn fe we co fu so sz tr ca pl ag mk lk rt km kr sk ask np im st sT il mb = some (nthF p K k z c, rn, fe, we, co, fu, so, sz, tr, ca, pl, ag, mk, lk, rt, km, kr, sk, ask, np, im, st, sT, il, mb) := by
  intro k
  induction k with
  | zero =>
    intro z f c hz hf h0 hc
    obtain ⟨f, rfl⟩ : ∃ q, f = q + 1 := ⟨f - 1, by omega⟩
    rw [mX12_sizes_34, zb b 2 (by omega) (by decide), if_pos rfl, zc b (by omega), hU, if_pos (nI_lt (by omega) (by omega)), nthF]
  | succ k ih =>
    intro z f c hz hf h0 hc
    obtain ⟨f, rfl⟩ : ∃ q, f = q + 1 := ⟨f - 1, by omega⟩
    rw [mX12_sizes_34, zb b 2 (by omega) (by decide), if_pos rfl, zc b (by omega), hU, if_neg (nI_nlt (by omega) (by omega)), zb z 100 (by omega) (by decide), if_pos rfl, zc z (by omega), hil z h0 (by omega), nI_1 z, nthF]
    by_cases q : p z = true
    · rw [if_pos q, if_pos rfl, if_pos q]
      by_cases w : nI c = K
      · rw [if_pos w, if_pos w]
      · rw [if_neg w, if_neg w, nI_1]
        exact ih (z + 1) f (c + 1) (by omega) (by omega) (by omega) (by omega)
    · rw [if_neg q, if_neg (show ¬ (0 : Int32) = 1 by decide), if_neg q, Int32.add_zero]
      exact ih (z + 1) f c (by omega) (by omega) (by omega) (by omega)
theorem r_sizes (hb : b < 2) (hF : rF b sf sb cs cv P) (hU : ut b = nI P.2.2) (hU2 : P.2.2 ≤ 99) (W : gW g) (h8 : g 8 0 ≤ 999) {K0 : GK} (hM : gMet M R) (hr : rMet M R mm ms mw mn) {t : Nat} (ht : t < 40) (hg : 0 < g 0 t) {so sz tr ca pl ag mk lk rt km kr : Nat → Int32} (S0 : rS 0 g K0 so sz tr ca pl ag mk lk rt km kr) {K : Int32} (hK : ¬ K < -1) (rn fe we co : Int32) (fu : Bool) (sk : Nat → Int64) (ask np im st sT il mb : Nat → Int32) :
    lOk (if K = -1 then nI (gLeft P g t M R P.2.2) else nthF (gFits P g t M R) K P.2.2 1 0) (fun _ _ => True) so sz tr ca pl ag mk lk rt km kr (mX12_sizes (nI t) K (nI b) true rn fe we co fu mm ut sf sb cs cv so sz tr ca pl ag mk lk rt km kr sk ask np im st sT ms mw mn il mb) := by
  unfold mX12_sizes
  have e0 : sz t = nI (g 0 t) := by have := ((rS_M S0).1 t ht).1; rw [Nat.mul_zero, Nat.zero_add] at this; exact this
  rw [z_isThing t ht, e0, decide_eq_true ((nIp (by have := (gW_N W).1 t ht; omega)).mpr hg), obind, if_pos rfl, if_neg hK]
  obtain ⟨rn1, fe1, we1, co1, fu1, so1, sz1, tr1, ca1, pl1, ag1, mk1, lk1, rt1, km1, kr1, sk1, ask1, np1, im1, st1, sT1, il1, mb1, e, L, Y⟩ := r_leaves hb hF hU hU2 W h8 hM hr ht hg S0 rn fe we co fu sk ask np im st sT il mb
  rw [e, obind]
  simp only [xu_q]
  by_cases w : K = -1
  · rw [if_pos w, if_pos w]
    exact ⟨_, _, _, _, _, _, _, _, _, _, _, _, _, _, _, _, _, _, _, _, _, _, _, _, rfl, trivial, Y⟩
  · rw [if_neg w, if_neg w]
    have := r_sizes34 hb hU hU2 (gFits P g t M R) K (il := il1) (fun y h0 h1 => (L y h0 (by omega)).1) rn1 fe1 we1 co1 fu1 so1 sz1 tr1 ca1 pl1 ag1 mk1 lk1 rt1 km1 kr1 sk1 ask1 np1 im1 st1 sT1 mb1 P.2.2 1 xfuel 0 (by omega) (Nat.lt_of_le_of_lt hU2 (by decide)) (by omega) (by omega)
    rw [show nI 0 = 0 from rfl, show nI 1 = 1 from rfl] at this
    rw [this]
    exact ⟨_, _, _, _, _, _, _, _, _, _, _, _, _, _, _, _, _, _, _, _, _, _, _, _, rfl, trivial, Y⟩
end RLV
