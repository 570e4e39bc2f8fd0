theorem nI_bn {x : Nat} (h : x < 2147483648) : (nI x).toBitVec.toNat = x := by
  have a := nI_toInt (n := x) (by omega)
  obtain ⟨b1, b2⟩ := to_nat (nI x)
  rw [a] at b1
  generalize (nI x).toBitVec.toNat = N at *
  split at b1 <;> omega
theorem an255 {x : Nat} (h : x < 2147483648) : nI x &&& 255 = nI (x % 256) := by
  rw [pk_and _ 8 (by decide), nI_bn h]
theorem md_n {y d : Nat} (hy : y < 2147483648) (hd : 0 < d) (hd2 : d < 2147483648) : nI y - nI y / nI d * nI d = nI (y % d) := by
  rw [pk_div hy hd hd2, pk_mul, pk_sub (Nat.div_mul_le_self y d)]
  congr 1
  have := Nat.div_add_mod y d
  rw [Nat.mul_comm] at this
  omega
/-- the bytes of both sides -/
def iBy (m : Nat) (cb rb : Nat → Int32) : Prop := ∀ j, j < m → ∃ x, x < 256 ∧ cb j = nI x ∧ rb j = nI x
section IM
variable {m : Nat} {cb rb : Nat → Int32}
theorem iy_add (h : iBy m cb rb) (hm : m < 411) {x : Nat} (hx : x < 256) {v : Int32} (hv : v &&& 255 = nI x) : mX6_add (nI x) (nI m) cb = (nI (m + 1), upd cb m (nI x)) ∧ mX12_writes v (nI m) rb = some (nI (m + 1), upd rb m (nI x)) ∧ iBy (m + 1) (upd cb m (nI x)) (upd rb m (nI x)) := by
  refine ⟨?_, ?_, fun j hj => ?_⟩
  · unfold mX6_add
    rw [s_put 411 m hm (by decide), xlet_eq, nI_1]
  · unfold mX12_writes
    rw [if_pos (zb _ _ (by omega) (by decide)), zc _ (by omega), hv, nI_1]
  · by_cases e : j = m
    · subst e; exact ⟨x, hx, pk_us, pk_us⟩
    · rw [pk_un e, pk_un e]; exact h j (by omega)
theorem iy_v {x : Nat} (h : x < 256) : nI x &&& 255 = nI x := by
  rw [an255 (by omega), Nat.mod_eq_of_lt h]
theorem iy_b {c : Nat} (hc : c ≤ 40) : bno c &&& 255 = nI (if c = 0 then 255 else c - 1) := by
  by_cases z : c = 0
  · subst z; rfl
  · obtain ⟨t, rfl⟩ : ∃ t, c = t + 1 := ⟨c - 1, by omega⟩
    rw [bnoS, if_neg z, iy_v (by omega)]
    rfl
/-- a number of a link or a root -/
theorem iy_bno (h : iBy m cb rb) (hm : m < 411) {c : Nat} (hc : c ≤ 40) {α : Type} (f : Int32 → (Nat → Int32) → α) : ∃ cb' rb', (if bno c = -1 then xlet (mX6_add (255 : Int32) (nI m) cb) (xu fun a => fun b => f a b) else xlet (mX6_add (bno c) (nI m) cb) (xu fun a => fun b => f a b)) = f (nI (m + 1)) cb' ∧ mX12_writes (bno c) (nI m) rb = some (nI (m + 1), rb') ∧ iBy (m + 1) cb' rb' := by
  obtain ⟨a1, a2, a3⟩ := iy_add h hm (x := if c = 0 then 255 else c - 1) (by split <;> omega) (iy_b hc)
  refine ⟨_, _, ?_, a2, a3⟩
  by_cases z : c = 0
  · rw [if_pos z] at a1 ⊢
    rw [if_pos ((bno_m1 (by omega)).mpr z), show (255 : Int32) = nI 255 from rfl, a1, xlet_eq, xu_q]
  · rw [if_neg z] at a1 ⊢
    rw [if_neg (fun q => z ((bno_m1 (by omega)).mp q))]
    have : bno c = nI (c - 1) := by
      obtain ⟨t, rfl⟩ : ∃ t, c = t + 1 := ⟨c - 1, by omega⟩
      rw [bnoS]; rfl
    rw [this, a1, xlet_eq, xu_q]
theorem iy_check (hm : m ≤ 410) (h : iBy m cb rb) : ∀ k i w f, i + k = 411 → i ≤ m → w < 251 → m - i < f → ∃ c, c < 251 ∧ mX6_check_6 (nI m) cb k i (nI w) = nI c ∧ mX12_image_171 f (nI w) (nI i) (nI m) rb = (mX12_writes (nI c) (nI m) rb).bind (xu fun q14_1 => fun q14_2 => some (q14_1, q14_1, q14_2)) := by
  intro k
  induction k with
  | zero => intro i w f hi hm2; omega
  | succ k ih =>
    intro i w f hi hm2 hw hf
    obtain ⟨f, rfl⟩ : ∃ q, f = q + 1 := ⟨f - 1, by omega⟩
    rw [mX6_check_6, mX12_image_171]
    by_cases e : i < m
    · obtain ⟨x, hx, e1, e2⟩ := h i e
      rw [if_pos (nI_lt e (by omega)), if_pos (nI_lt e (by omega)), if_pos (zb _ _ (by omega) (by decide)), zc _ (by omega), e1, e2, show (5 : Int32) * nI w + nI x = nI (5 * w + x) by rw [show (5 : Int32) = nI 5 from rfl, pk_mul, nI_add], show nI (5 * w + x) - nI (5 * w + x) / 251 * 251 = nI ((5 * w + x) % 251) from md_n (d := 251) (by omega) (by decide) (by decide), nI_1]
      exact ih (i + 1) _ f (by omega) (by omega) (Nat.mod_lt _ (by decide)) (by omega)
    · have : i = m := by omega
      subst this
      rw [if_neg (nI_nlt (Nat.le_refl _) (by omega)), if_neg (nI_nlt (Nat.le_refl _) (by omega))]
      exact ⟨w, hw, rfl, rfl⟩
end IM
section IN
variable {g : GH} {K : GK} {so sz tr ca pl ag mk lk rt km kr csz cag ctr cca cpl clk crt ccs : Nat → Int32} {cfr : Nat → Int64} {cth cmk : Int64} {ctn csp : Int32}
theorem iy_links (W : gW g) (S : rS 0 g K so sz tr ca pl ag mk lk rt km kr) (Y : cY g csz cag ctr cca cpl clk crt ccs cfr cth cmk ctn csp) {t : Nat} (ht : t < 40) (C : Int32 → (Nat → Int32) → Option (Int32 × Int32 × (Nat → Int32))) : ∀ k i m (cb rb : Nat → Int32), i + k = 4 → m + k ≤ 411 → iBy m cb rb → ∃ cb' rb', mX6_writeThing_70 (nI t) clk k i (nI m) cb = (nI (m + k), cb') ∧ mX12_image_134 lk t C k i (nI m) rb = C (nI (m + k)) rb' ∧ iBy (m + k) cb' rb' := by
  intro k
  induction k with
  | zero => intro i m cb rb hi hm h; exact ⟨cb, rb, rfl, rfl, h⟩
  | succ k ih =>
    intro i m cb rb hi hm h
    have hj : 4 * t + i < 160 := by omega
    have e4 : nI t * 4 + nI i = nI (4 * t + i) := by rw [show (4 : Int32) = nI 4 from rfl, pk_mul, nI_add, Nat.mul_comm]
    have e5 : (4 : Int32) * nI t + nI i = nI (4 * t + i) := by rw [show (4 : Int32) = nI 4 from rfl, pk_mul, nI_add]
    have eL : mX10_linkOf (nI t) (nI i) clk = bno (g 6 (4 * t + i)) := by
      unfold mX10_linkOf
      rw [if_neg (show ¬ nI t < 0 from nI_nlt (b := 0) (by omega) (by omega)), if_neg (show ¬ nI i < 0 from nI_nlt (b := 0) (by omega) (by omega)), if_pos (show nI i < 4 from nI_lt (b := 4) (by omega) (by decide)), e4, s_at 160 _ hj (by decide)]
      exact Y.2.2.1.1 _ hj
    have eR : lk (4 * t + i) = bno (g 6 (4 * t + i)) := (rS_0 S).2.2.1 _ hj
    have hl : g 6 (4 * t + i) ≤ 40 := ((gW_N W).2.2.1 _ hj).1
    obtain ⟨cb1, rb1, a1, a2, a3⟩ := iy_bno h (by omega) hl (fun a b => mX6_writeThing_70 (nI t) clk k (i + 1) a b)
    obtain ⟨cb2, rb2, c1, c2, c3⟩ := ih (i + 1) (m + 1) cb1 rb1 (by omega) (by omega) a3
    refine ⟨cb2, rb2, ?_, ?_, by rw [show m + (k + 1) = m + 1 + k by omega]; exact c3⟩
    · rw [mX6_writeThing_70, eL, a1, c1, show m + (k + 1) = m + 1 + k by omega]
    · rw [mX12_image_134, e5, zc _ (by omega), eR, a2, obind, xu_q, c2, show m + (k + 1) = m + 1 + k by omega]
theorem iy_things (W : gW g) (S : rS 0 g K so sz tr ca pl ag mk lk rt km kr) (Y : cY g csz cag ctr cca cpl clk crt ccs cfr cth cmk ctn csp) : ∀ k i m (cb rb : Nat → Int32), i + k = 40 → m ≤ 10 + 10 * i → iBy m cb rb → ∃ m' cb' rb', m' ≤ 411 ∧ mX6_write_71 cmk csz cag ctr cca cpl clk k i (nI m) cb = (nI m', cb') ∧ mX12_image_54 sz tr ca pl ag mk lk k i (nI m) rb = some (nI m', nI m', rb') ∧ iBy m' cb' rb' := by
  have N := gW_N W
  intro k
  induction k with
  | zero =>
    intro i m cb rb hi hm h
    obtain ⟨c, hc, c1, c2⟩ := iy_check (m := m) (by omega) h 411 0 239 xfuel (by decide) (Nat.zero_le _) (by decide) (by unfold xfuel; omega)
    obtain ⟨a1, a2, a3⟩ := iy_add h (by omega) (x := c) (by omega) (iy_v (by omega))
    refine ⟨m + 1, _, _, by omega, ?_, ?_, a3⟩
    · rw [mX6_write_71, mX6_check, show (239 : Int32) = nI 239 from rfl, c1, a1, xlet_eq, xu_q]
    · rw [mX12_image_54, show (239 : Int32) = nI 239 from rfl, show (0 : Int32) = nI 0 from rfl, c2, a2, obind, xu_q]
  | succ k ih =>
    intro i m cb rb hi hm h
    have hi40 : i < 40 := by omega
    have b0 := N.1 i hi40
    have es : sz i = nI (g 0 i) := (rS_0 S).1 i hi40
    have ec : csz i = nI (g 0 i) := Y.1 i hi40
    obtain ⟨a1, a2, a3⟩ := iy_add h (by omega) (x := g 0 i) (by omega) (iy_v (by omega))
    rw [mX6_write_71, mX12_image_54, zc i (by omega), es, ec, a1, a2, xlet_eq, obind, xu_q, xu_q]
    by_cases p : 0 < g 0 i
    · rw [if_pos ((nIp (by omega)).mpr p), if_neg (nI_ne0 (by omega) (by omega))]
      obtain ⟨t1, t2, t3, t4, t5⟩ := (rS_0 S).2.1 i hi40 p
      obtain ⟨y1, y2, y3, y4⟩ := Y.2.1 i hi40 p
      obtain ⟨n1, n2, n3, -⟩ := N.2.1 i hi40 p
      obtain ⟨d1, d2, d3⟩ := iy_add a3 (by omega) (x := g 1 i) (by omega) (iy_v (by omega))
      obtain ⟨e1, e2, e3⟩ := iy_add d3 (by omega) (x := g 2 i) (by omega) (iy_v (by omega))
      obtain ⟨f1, f2, f3⟩ := iy_add e3 (by omega) (x := g 3 i) (by omega) (iy_v (by omega))
      obtain ⟨h1, h2, h3⟩ := iy_add f3 (by omega) (x := g 4 i) (by omega) (iy_v (by omega))
      obtain ⟨j1, j2, j3⟩ := iy_add h3 (by omega) (x := g 5 i) (by omega) (iy_v (by omega))
      obtain ⟨cb2, rb2, l1, l2, l3⟩ := iy_links W S Y hi40 (fun zf_outs_54 za_out_54 => mX12_image_54 sz tr ca pl ag mk lk k (i + 1) zf_outs_54 za_out_54) 4 0 _ _ _ (by decide) (by omega) j3
      obtain ⟨m', cb', rb', z0, z1, z2, z3⟩ := ih (i + 1) _ cb2 rb2 (by omega) (by omega) l3
      refine ⟨m', cb', rb', z0, ?_, ?_, z3⟩
      · have wt : mX6_writeThing (nI i) (nI (m + 1)) (upd cb m (nI (g 0 i))) cmk cag ctr cca cpl clk = (nI (m + 1 + 1 + 1 + 1 + 1 + 1 + 4), cb2) := by
          unfold mX6_writeThing
          rw [s_at 40 i hi40 (by decide), s_at 40 i hi40 (by decide), s_at 40 i hi40 (by decide), s_at 40 i hi40 (by decide), y1, y2, y3, y4, d1, xlet_eq, xu_q, e1, xlet_eq, xu_q, f1, xlet_eq, xu_q, h1, xlet_eq, xu_q, zh_in Y.2.2.2.2.2.2.1 hi40]
          by_cases w : g 5 i = 1
          · rw [w] at j1 l1
            rw [decide_eq_true w, if_pos rfl, show (1 : Int32) = nI 1 from rfl, j1, xlet_eq, xu_q]
            exact l1
          · have w0 : g 5 i = 0 := by omega
            rw [w0] at j1 l1
            rw [decide_eq_false w, if_neg (by decide), show (0 : Int32) = nI 0 from rfl, j1, xlet_eq, xu_q]
            exact l1
        rw [wt, xlet_eq, xu_q]
        exact z1
      · rw [t1, t2, t3, t4, t5, d2, obind, xu_q, e2, obind, xu_q, f2, obind, xu_q, h2, obind, xu_q, j2, obind, xu_q, l2]
        exact z2
    · have z : g 0 i = 0 := by omega
      rw [if_neg (fun q => p ((nIp (by omega)).mp q)), if_pos (show nI (g 0 i) = 0 by rw [z]; rfl)]
      exact ih (i + 1) (m + 1) _ _ (by omega) (by omega) a3
theorem iy_roots (W : gW g) (S : rS 0 g K so sz tr ca pl ag mk lk rt km kr) (Y : cY g csz cag ctr cca cpl clk crt ccs cfr cth cmk ctn csp) : ∀ k i (cb rb : Nat → Int32), i + k = 8 → iBy (2 + i) cb rb → ∃ m' cb' rb', m' ≤ 411 ∧ mX6_write_31 cmk csz cag ctr cca cpl clk crt k i (nI (2 + i)) cb = (nI m', cb') ∧ mX12_image_30 sz tr ca pl ag mk lk rt k i (nI (2 + i)) rb = some (nI m', nI m', rb') ∧ iBy m' cb' rb' := by
  intro k
  induction k with
  | zero =>
    intro i cb rb hi h
    rw [mX6_write_31, mX12_image_30]
    exact iy_things W S Y 40 0 (2 + i) cb rb (by decide) (by omega) h
  | succ k ih =>
    intro i cb rb hi h
    have eR : rt i = bno (g 7 i) := (rS_0 S).2.2.2 _ (by omega)
    have eC : crt i = bno (g 7 i) := Y.2.2.1.2 i (by omega)
    obtain ⟨cb1, rb1, a1, a2, a3⟩ := iy_bno h (by omega) ((gW_N W).2.2.2 i (by omega)).1 (fun a b => mX6_write_31 cmk csz cag ctr cca cpl clk crt k (i + 1) a b)
    rw [mX6_write_31, mX12_image_30, zc i (by omega), eR, eC, a1, a2, obind, xu_q]
    exact ih (i + 1) cb1 rb1 (by omega) a3
/-- image, on both sides -/
theorem k_image (W : gW g) (h8 : g 8 0 ≤ 999) (S : rS 0 g K so sz tr ca pl ag mk lk rt km kr) (Y : cY g csz cag ctr cca cpl clk crt ccs cfr cth cmk ctn csp) (cb rb : Nat → Int32) : ∃ m cb' rb', m ≤ 411 ∧ mX11_image cmk csp csz cag ctr cca cpl clk crt cb = (nI m, nI m, cb') ∧ mX12_image so sz tr ca pl ag mk lk rt rb = some (nI m, nI m, rb') ∧ iBy m cb' rb' := by
  have hs : so 0 = nI (g 8 0) := S.2.2
  have hc : csp = nI (g 8 0) := Y.2.2.2.2.2.2.2.2
  have e1 : nI (g 8 0) / 256 = nI (g 8 0 / 256) := pk_div (d := 256) (by omega) (by decide) (by decide)
  have e2 : nI (g 8 0) - nI (g 8 0) / 256 * 256 = nI (g 8 0 % 256) := md_n (d := 256) (by omega) (by decide) (by decide)
  have v1 : (nI (g 8 0) >>> ((8 : Int32) &&& 31)) &&& 255 = nI (g 8 0 / 256) := by
    rw [b_r (nI (g 8 0)) 8 8 (by decide) (by decide)]
    unfold bOf
    rw [nI_bn (by omega)]
    congr 1
    rw [show (2 : Nat) ^ 8 = 256 by decide]
    omega
  obtain ⟨a1, a2, a3⟩ := iy_add (m := 0) (cb := cb) (rb := rb) (fun j hj => absurd hj (Nat.not_lt_zero _)) (by decide) (x := g 8 0 / 256) (by omega) v1
  obtain ⟨b1, b2, b3⟩ := iy_add a3 (by decide) (x := g 8 0 % 256) (Nat.mod_lt _ (by decide)) (an255 (by omega))
  obtain ⟨m', cb', rb', z0, z1, z2, z3⟩ := iy_roots W S Y 8 0 _ _ (by decide) b3
  refine ⟨m', cb', rb', z0, ?_, ?_, z3⟩
  · have wt : mX6_write cb cmk csp csz cag ctr cca cpl clk crt = (nI m', cb') := by
      unfold mX6_write
      rw [hc, e2, e1, show (0 : Int32) = nI 0 from rfl, a1, xlet_eq, xu_q, b1, xlet_eq, xu_q]
      exact z1
    unfold mX11_image
    rw [wt, xlet_eq, xu_q]
  · unfold mX12_image
    rw [show (0 : Int32).toNatClampNeg = 0 from rfl, hs, show (0 : Int32) = nI 0 from rfl, a2, obind, xu_q, b2, obind, xu_q]
    exact z2
/-- octet, on both sides -/
theorem k_octet {m : Nat} (hm : m ≤ 411) {cb rb : Nat → Int32} (h : iBy m cb rb) (x : Int32) : mX12_octet x (nI m) rb = some (mX11_octet x (nI m) cb) := by
  unfold mX12_octet mX11_octet
  by_cases z : m = 0
  · subst z
    rw [z_is]
    by_cases a : x < 0
    · rw [decide_eq_true a, if_pos a]; rfl
    · rw [if_neg a, if_neg (show ¬ x < nI 0 from a)]
      have : nI 0 - 1 < x := Int32.lt_of_lt_of_le (show nI 0 - 1 < (0 : Int32) by decide) (Int32.not_lt.mp a)
      rw [decide_eq_true this, Bool.not_true, Bool.and_false]
      rfl
  · rw [show nI m - 1 = nI (m - 1) from pk_sub (b := 1) (by omega)]
    rcases k_range x (N := m) (by omega) (by omega) with ⟨o, i⟩ | ⟨j, hj, rfl, i⟩
    · rw [show mX12_is x 0 (nI (m - 1)) = false from i, if_neg (by decide)]
      by_cases a : x < 0
      · rw [if_pos a]
      · rw [if_neg a, if_neg (o.resolve_left a)]
    · obtain ⟨y, hy, e1, e2⟩ := h j hj
      rw [show mX12_is (nI j) 0 (nI (m - 1)) = true from i, if_pos rfl, if_pos (zb _ _ (by omega) (by decide)), zc _ (by omega), if_neg (show ¬ nI j < 0 from nI_nlt (b := 0) (by omega) (by omega)), if_pos (nI_lt hj (by omega)), s_at 411 j (by omega) (by decide), e1, e2]
end IN
