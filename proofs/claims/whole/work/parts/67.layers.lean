/-- a layer: its yard, what it KEPT, its STEP -/
def rS (v : Nat) (g : GH) (K : GK) (so sz tr ca pl ag mk lk rt km kr : Nat → Int32) : Prop := rL v g sz tr ca pl ag mk lk rt ∧ rK v K km kr ∧ so v = nI (g 8 0)
/-- of one layer m cells are those of another -/
def cpF (n to fm m : Nat) (a a' : Nat → Int32) : Prop := ∀ x, a' x = if n * to ≤ x ∧ x < n * to + m then a (n * fm + (x - n * to)) else a x
theorem cpF_0 (n to fm : Nat) (a : Nat → Int32) : cpF n to fm 0 a a := fun x => by rw [if_neg (by omega)]
theorem cpF_up {n to fm m : Nat} {a a' : Nat → Int32} (h : cpF n to fm m a a') (hm : m < n) (ne : to ≠ fm) : cpF n to fm (m + 1) a (upd a' (n * to + m) (a' (n * fm + m))) := by
  have out : n * fm + m < n * to ∨ n * to + n ≤ n * fm + m := by
    rcases Nat.lt_or_gt_of_ne ne with l | l
    · right
      have := Nat.mul_le_mul_left n (show to + 1 ≤ fm from l)
      rw [Nat.mul_add, Nat.mul_one] at this
      omega
    · left
      have := Nat.mul_le_mul_left n (show fm + 1 ≤ to from l)
      rw [Nat.mul_add, Nat.mul_one] at this
      omega
  intro x
  by_cases e : x = n * to + m
  · subst e
    rw [pk_us, if_pos (by omega), h, if_neg (by omega)]
    congr 1
    omega
  · rw [pk_un e, h]
    by_cases q : n * to ≤ x ∧ x < n * to + m
    · rw [if_pos q, if_pos (by omega)]
    · rw [if_neg q, if_neg (by omega)]
theorem cpF_in {n to fm m : Nat} {a a' : Nat → Int32} (h : cpF n to fm m a a') {i : Nat} (hi : i < m) : a' (n * to + i) = a (n * fm + i) := by
  rw [h, if_pos (by omega)]
  congr 1
  omega
theorem cpF_fr {n to fm m : Nat} {a a' : Nat → Int32} (h : cpF n to fm m a a') (hm : m ≤ n) : ∀ i, i < n * to ∨ n * to + n ≤ i → a' i = a i := fun i hi => by
  rw [h, if_neg (by omega)]
theorem rS_fr {v u : Nat} (hne : u ≠ v) {g : GH} {K : GK} {so sz tr ca pl ag mk lk rt km kr so' sz' tr' ca' pl' ag' mk' lk' rt' km' kr' : Nat → Int32} (h : rS u g K so sz tr ca pl ag mk lk rt km kr) (f0 : l1 v so so') (f1 : lF v sz sz') (f2 : lF v tr tr') (f3 : lF v ca ca') (f4 : lF v pl pl') (f5 : lF v ag ag') (f6 : lF v mk mk') (f7 : lG v lk lk') (f8 : ∀ i, i < 8 * v ∨ 8 * v + 8 ≤ i → rt' i = rt i) (f9 : l1 v km km') (f10 : lK v kr kr') : rS u g K so' sz' tr' ca' pl' ag' mk' lk' rt' km' kr' := by
  obtain ⟨h1, h2, h3⟩ := h
  have d : ∀ n i, i < n → n * u + i < n * v ∨ n * v + n ≤ n * u + i := by
    intro n i hi
    rcases Nat.lt_or_gt_of_ne hne with l | l
    · left
      have := Nat.mul_le_mul_left n (show u + 1 ≤ v from l)
      rw [Nat.mul_add, Nat.mul_one] at this
      omega
    · right
      have := Nat.mul_le_mul_left n (show v + 1 ≤ u from l)
      rw [Nat.mul_add, Nat.mul_one] at this
      omega
  refine ⟨fun st sT hst => ?_, ⟨by rw [f9 u hne]; exact h2.1, h2.2.1, fun i hi => ?_⟩, by rw [f0 u hne]; exact h3⟩
  · have M := h1 st sT hst
    refine ⟨fun t ht => ?_, fun t ht p => ?_, M.2.2.1, fun j hj => ?_, fun k hk => ?_⟩
    · rw [f1 _ (d 40 t ht)]; exact M.1 t ht
    · rw [f2 _ (d 40 t ht), f3 _ (d 40 t ht), f4 _ (d 40 t ht), f5 _ (d 40 t ht), f6 _ (d 40 t ht)]; exact M.2.1 t ht p
    · rw [f7 _ (d 160 j hj)]; exact M.2.2.2.1 j hj
    · rw [f8 _ (d 8 k hk)]; exact M.2.2.2.2 k hk
  · have := h2.2.1
    rw [f10 _ (d 120 i (by omega))]; exact h2.2.2 i hi
abbrev RC : Type := (Nat → Int32) × (Nat → Int32) × (Nat → Int32) × (Nat → Int32) × (Nat → Int32) × (Nat → Int32) × (Nat → Int32) × (Nat → Int32) × (Nat → Int32) × (Nat → Int32) × (Nat → Int32)
section LY
variable {to fm : Nat} {so sz tr ca pl ag mk lk rt km kr : Nat → Int32}
theorem r_cp215 (ht : to < 22) (hf : fm < 22) (ne : to ≠ fm) {m : Nat} (hkm : km fm = nI m) (hm : m ≤ 40) (sz tr ca pl ag mk lk rt : Nat → Int32) : ∀ n f x (kr1 : Nat → Int32), x + n = 3 * m → n < f → cpF 120 to fm x kr kr1 →
    ∃ kr2, cpF 120 to fm (3 * m) kr kr2 ∧ mX12_copies_215 (nI to) (nI fm) so km f (nI x) sz tr ca pl ag mk lk rt kr1 = some ((upd so to (so fm), sz, tr, ca, pl, ag, mk, lk, rt, upd km to (nI m), kr2) : RC) := by
  intro n
  induction n with
  | zero =>
    intro f x kr1 hx hf2 h
    obtain ⟨f, rfl⟩ : ∃ q, f = q + 1 := ⟨f - 1, by omega⟩
    have : x = 3 * m := by omega
    subst this
    refine ⟨kr1, h, ?_⟩
    rw [mX12_copies_215, zc to (by omega), zc fm (by omega), hkm, pk_un (Ne.symm ne), hkm, show (3 : Int32) * nI m = nI (3 * m) by rw [show (3 : Int32) = nI 3 from rfl, pk_mul], if_neg (nI_nlt (by omega) (by omega))]
  | succ n ih =>
    intro f x kr1 hx hf2 h
    obtain ⟨f, rfl⟩ : ∃ q, f = q + 1 := ⟨f - 1, by omega⟩
    have e1 : (120 : Int32) * nI fm + nI x = nI (120 * fm + x) := by rw [show (120 : Int32) = nI 120 from rfl, pk_mul, nI_add]
    have e2 : (120 : Int32) * nI to + nI x = nI (120 * to + x) := by rw [show (120 : Int32) = nI 120 from rfl, pk_mul, nI_add]
    rw [mX12_copies_215, zc to (by omega), zc fm (by omega), hkm, pk_un (Ne.symm ne), hkm, show (3 : Int32) * nI m = nI (3 * m) by rw [show (3 : Int32) = nI 3 from rfl, pk_mul], if_pos (nI_lt (by omega) (by omega)), e1, e2, zb _ 2640 (by omega) (by decide), if_pos rfl, zb _ 2640 (by omega) (by decide), if_pos rfl, zc _ (by omega), zc _ (by omega), nI_1]
    exact ih f (x + 1) _ (by omega) (by omega) (cpF_up h (by omega) ne)
theorem r_cp167 (ht : to < 22) (hf : fm < 22) (ne : to ≠ fm) (sz tr ca pl ag mk lk : Nat → Int32) : ∀ k i (rt1 : Nat → Int32), i + k = 8 → cpF 8 to fm i rt rt1 →
    ∃ rt2, cpF 8 to fm 8 rt rt2 ∧ mX12_copies_167 (nI to) (nI fm) so km kr k i sz tr ca pl ag mk lk rt1 = mX12_copies_215 (nI to) (nI fm) so km xfuel 0 sz tr ca pl ag mk lk rt2 kr := by
  intro k
  induction k with
  | zero =>
    intro i rt1 hi h
    have : i = 8 := by omega
    subst this
    exact ⟨rt1, h, by rw [mX12_copies_167]⟩
  | succ k ih =>
    intro i rt1 hi h
    rw [mX12_copies_167, zb_r fm i hf (by omega), if_pos rfl, zb_r to i ht (by omega), if_pos rfl, zc_r fm i hf (by omega), zc_r to i ht (by omega)]
    exact ih (i + 1) _ (by omega) (cpF_up h (by omega) ne)
theorem r_cp123 (ht : to < 22) (hf : fm < 22) (ne : to ≠ fm) {t : Nat} (ht40 : t < 40) (sz tr ca pl ag mk : Nat → Int32) (K) : ∀ k i (lk1 : Nat → Int32), i + k = 4 → cpF 160 to fm (4 * t + i) lk lk1 →
    ∃ lk2, cpF 160 to fm (4 * (t + 1)) lk lk2 ∧ mX12_copies_123 (nI to) (nI fm) ag ca mk pl sz tr t K k i lk1 = K (upd sz (40 * to + t) (sz (40 * fm + t))) (upd tr (40 * to + t) (tr (40 * fm + t))) (upd ca (40 * to + t) (ca (40 * fm + t))) (upd pl (40 * to + t) (pl (40 * fm + t))) (upd ag (40 * to + t) (ag (40 * fm + t))) (upd mk (40 * to + t) (mk (40 * fm + t))) lk2 := by
  intro k
  induction k with
  | zero =>
    intro i lk1 hi h
    have : i = 4 := by omega
    subst this
    exact ⟨lk1, h, by rw [mX12_copies_123, zc_t to t ht ht40, zc_t fm t hf ht40]⟩
  | succ k ih =>
    intro i lk1 hi h
    rw [mX12_copies_123, zb_l fm t i hf ht40 (by omega), if_pos rfl, zb_l to t i ht ht40 (by omega), if_pos rfl, zc_l fm t i hf ht40 (by omega), zc_l to t i ht ht40 (by omega), show 4 * (40 * to + t) + i = 160 * to + (4 * t + i) by omega, show 4 * (40 * fm + t) + i = 160 * fm + (4 * t + i) by omega]
    exact ih (i + 1) _ (by omega) (cpF_up (m := 4 * t + i) h (by omega) ne)
theorem r_cp14 (ht : to < 22) (hf : fm < 22) (ne : to ≠ fm) : ∀ k i (sz1 tr1 ca1 pl1 ag1 mk1 lk1 : Nat → Int32), i + k = 40 → (cpF 40 to fm i sz sz1 ∧ cpF 40 to fm i tr tr1 ∧ cpF 40 to fm i ca ca1 ∧ cpF 40 to fm i pl pl1 ∧ cpF 40 to fm i ag ag1 ∧ cpF 40 to fm i mk mk1 ∧ cpF 160 to fm (4 * i) lk lk1) →
    ∃ sz2 tr2 ca2 pl2 ag2 mk2 lk2, (cpF 40 to fm 40 sz sz2 ∧ cpF 40 to fm 40 tr tr2 ∧ cpF 40 to fm 40 ca ca2 ∧ cpF 40 to fm 40 pl pl2 ∧ cpF 40 to fm 40 ag ag2 ∧ cpF 40 to fm 40 mk mk2 ∧ cpF 160 to fm 160 lk lk2) ∧
      mX12_copies_14 (nI to) (nI fm) so rt km kr k i sz1 tr1 ca1 pl1 ag1 mk1 lk1 = mX12_copies_167 (nI to) (nI fm) so km kr 8 0 sz2 tr2 ca2 pl2 ag2 mk2 lk2 rt := by
  intro k
  induction k with
  | zero =>
    intro i sz1 tr1 ca1 pl1 ag1 mk1 lk1 hi h
    have : i = 40 := by omega
    subst this
    exact ⟨sz1, tr1, ca1, pl1, ag1, mk1, lk1, h, by rw [mX12_copies_14]⟩
  | succ k ih =>
    intro i sz1 tr1 ca1 pl1 ag1 mk1 lk1 hi ⟨a1, a2, a3, a4, a5, a6, a7⟩
    have hi40 : i < 40 := by omega
    rw [mX12_copies_14, zb_t fm i hf hi40, if_pos rfl, zb_t to i ht hi40, if_pos rfl]
    obtain ⟨lk2, b1, b2⟩ := r_cp123 (lk := lk) ht hf ne hi40 sz1 tr1 ca1 pl1 ag1 mk1 (fun za_sizeOf_14 za_trainOf_14 za_carOf_14 za_placeOf_14 za_ageOf_14 za_markOf_14 za_linkTo_14 => mX12_copies_14 (nI to) (nI fm) so rt km kr k (i + 1) za_sizeOf_14 za_trainOf_14 za_carOf_14 za_placeOf_14 za_ageOf_14 za_markOf_14 za_linkTo_14) 4 0 lk1 rfl a7
    rw [b2]
    exact ih (i + 1) _ _ _ _ _ _ _ (by omega) ⟨cpF_up a1 hi40 ne, cpF_up a2 hi40 ne, cpF_up a3 hi40 ne, cpF_up a4 hi40 ne, cpF_up a5 hi40 ne, cpF_up a6 hi40 ne, b1⟩
/-- a layer copied -/
theorem r_copies (ht : to < 22) (hf : fm < 22) (ne : to ≠ fm) {g : GH} {K : GK} (S : rS fm g K so sz tr ca pl ag mk lk rt km kr) :
    ∃ so' sz' tr' ca' pl' ag' mk' lk' rt' km' kr', mX12_copies (nI to) (nI fm) so sz tr ca pl ag mk lk rt km kr = some ((so', sz', tr', ca', pl', ag', mk', lk', rt', km', kr') : RC) ∧ rS to g K so' sz' tr' ca' pl' ag' mk' lk' rt' km' kr' ∧
      (l1 to so so' ∧ lF to sz sz' ∧ lF to tr tr' ∧ lF to ca ca' ∧ lF to pl pl' ∧ lF to ag ag' ∧ lF to mk mk' ∧ lG to lk lk' ∧ (∀ i, i < 8 * to ∨ 8 * to + 8 ≤ i → rt' i = rt i) ∧ l1 to km km' ∧ lK to kr kr') ∧
      ∀ u g' K', u ≠ to → rS u g' K' so sz tr ca pl ag mk lk rt km kr → rS u g' K' so' sz' tr' ca' pl' ag' mk' lk' rt' km' kr' := by
  obtain ⟨h1, ⟨k1, k2, k3⟩, h3⟩ := S
  unfold mX12_copies
  rw [zb fm 22 hf (by decide), if_pos rfl, zb to 22 ht (by decide), if_pos rfl]
  obtain ⟨sz2, tr2, ca2, pl2, ag2, mk2, lk2, ⟨a1, a2, a3, a4, a5, a6, a7⟩, e1⟩ := r_cp14 (so := so) (rt := rt) (km := km) (kr := kr) ht hf ne 40 0 sz tr ca pl ag mk lk rfl ⟨cpF_0 _ _ _ _, cpF_0 _ _ _ _, cpF_0 _ _ _ _, cpF_0 _ _ _ _, cpF_0 _ _ _ _, cpF_0 _ _ _ _, cpF_0 _ _ _ _⟩
  obtain ⟨rt2, a8, e2⟩ := r_cp167 (so := so) (km := km) (kr := kr) ht hf ne sz2 tr2 ca2 pl2 ag2 mk2 lk2 8 0 rt rfl (cpF_0 _ _ _ _)
  obtain ⟨kr2, a9, e3⟩ := r_cp215 (so := so) (kr := kr) ht hf ne k1 k2 sz2 tr2 ca2 pl2 ag2 mk2 lk2 rt2 (3 * K.1) xfuel 0 kr (Nat.zero_add _) (by unfold xfuel; omega) (cpF_0 _ _ _ _)
  have f1 := cpF_fr a1 (Nat.le_refl _)
  have f2 := cpF_fr a2 (Nat.le_refl _)
  have f3 := cpF_fr a3 (Nat.le_refl _)
  have f4 := cpF_fr a4 (Nat.le_refl _)
  have f5 := cpF_fr a5 (Nat.le_refl _)
  have f6 := cpF_fr a6 (Nat.le_refl _)
  have f7 := cpF_fr a7 (Nat.le_refl _)
  have f8 := cpF_fr a8 (Nat.le_refl _)
  have f9 : l1 to km (upd km to (nI K.1)) := fun i hi => pk_un hi
  have f10 := cpF_fr a9 (by omega)
  have f0 : l1 to so (upd so to (so fm)) := fun i hi => pk_un hi
  refine ⟨_, _, _, _, _, _, _, _, _, _, _, by rw [e1, e2]; exact e3, ⟨fun st sT hst => ?_, ⟨pk_us, k2, fun i hi => by rw [cpF_in a9 hi]; exact k3 i hi⟩, by rw [pk_us]; exact h3⟩, ⟨f0, f1, f2, f3, f4, f5, f6, f7, f8, f9, f10⟩, fun u g' K' hu hS => rS_fr hu hS f0 f1 f2 f3 f4 f5 f6 f7 f8 f9 f10⟩
  have M := h1 st sT hst
  refine ⟨fun t ht => ?_, fun t ht p => ?_, M.2.2.1, fun j hj => ?_, fun k hk => ?_⟩
  · rw [cpF_in a1 ht]; exact M.1 t ht
  · rw [cpF_in a2 ht, cpF_in a3 ht, cpF_in a4 ht, cpF_in a5 ht, cpF_in a6 ht]; exact M.2.1 t ht p
  · rw [cpF_in a7 hj]; exact M.2.2.2.1 j hj
  · rw [cpF_in a8 hk]; exact M.2.2.2.2 k hk
end LY
section LT
variable {v b : Nat} {g : GH} {K : GK} {sz tr ca pl ag mk lk rt st sT so sf sb cs cv ut km kr : Nat → Int32} {P : GP}
/-- a tick of a layer -/
theorem r_tickS (hv : v < 22) (hb : b < 2) (hF : rF b sf sb cs cv P) (hU : ut b = nI P.2.2) (hU2 : P.2.2 < 1000) (W : gW g) (S : rS v g K so sz tr ca pl ag mk lk rt km kr) (hs2 : g 8 0 ≤ 1000) (rn : Int32) (sk : Nat → Int64) (ask np im st sT : Nat → Int32) :
    gW (gTick P g).1 ∧ ∃ rn' so' sz' tr' ca' pl' ag' mk' lk' km' kr' sk' ask' np' im' st' sT', mX12_ticks (nI v) (nI b) rn ut sf sb cs cv so sz tr ca pl ag mk lk rt km kr sk ask np im st sT =
        some ((rn', nI (gTick P g).2.1, nI (gTick P g).2.2.1, nI (gTick P g).2.2.2.1, (gTick P g).2.2.2.2, so', sz', tr', ca', pl', ag', mk', lk', km', kr', sk', ask', np', im', st', sT') : TT) ∧
      rS v (gTick P g).1 (kAdd K (g 8 0) (gTick P g).2.1 (gTick P g).2.2.1) so' sz' tr' ca' pl' ag' mk' lk' rt km' kr' ∧ (gTick P g).1 8 0 = g 8 0 + 1 ∧
      ∀ u g' K', u ≠ v → rS u g' K' so sz tr ca pl ag mk lk rt km kr → rS u g' K' so' sz' tr' ca' pl' ag' mk' lk' rt km' kr' := by
  obtain ⟨h1, h2, h3⟩ := S
  obtain ⟨rn', sz', tr', ca', pl', ag', mk', lk', km', kr', sk', ask', np', im', st', sT', ⟨w, l, k⟩, ⟨f1, f2, f3, f4, f5, f6, f7, f9, f10⟩, e⟩ := r_tick (so := so) hv hb hF hU hU2 W h1 h3 hs2 h2 rn sk ask np im st sT
  have f0 : l1 v so (upd so v (nI (g 8 0 + 1))) := fun i hi => pk_un hi
  have e8 : (gTick P g).1 8 0 = g 8 0 + 1 := by
    by_cases hT : gTr g = 0
    · rw [gTick_0 hT]; exact gPa_8 g
    · cases hw : gWant g with
      | false =>
        rw [gTick_f hT hw]
        show gPa _ 8 0 = _
        rw [gPa_8, gSh_o _ (by decide), gDr_o g _ (by decide)]
      | true =>
        rw [gTick_e hT hw]
        show gPa _ 8 0 = _
        rw [gPa_8]
        have x8 : gSh (gFn (gX P g).1 (gX P g).2.2.1) 8 0 = g 8 0 := by
          rw [gFn_8]
          have : ∀ k X, (gLp P k X).1 8 0 = X.1 8 0 := by
            intro k
            induction k with
            | zero => intro X; rfl
            | succ k ih =>
              intro X
              rw [gLp]
              split
              · rfl
              · rw [ih, gMv_8]
          exact this 40 (g, gTr g, 0, true, 0, 0)
        split
        · rw [gMk_o _ (by decide), x8]
        · rw [x8]
  refine ⟨w, _, _, _, _, _, _, _, _, _, _, _, _, _, _, _, _, _, e, ⟨l, k, by rw [pk_us, e8]⟩, e8, fun u g' K' hu hS => rS_fr hu hS f0 f1 f2 f3 f4 f5 f6 f7 (fun _ _ => rfl) f9 f10⟩
end LT
