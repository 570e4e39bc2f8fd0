section BG
variable {P : NP} {L : List (Nat × Nat)} {tx : Nat → Nat} {n b : Nat} {CS0 CV0 : Nat → Int32} {trd cds : Int32} {ut to st tt lt ls rs rq ch sf sb cs cv : Nat → Int32} {nm : Nat → Int64}
theorem lF_tr2 {v : Nat} {a c d : Nat → Int32} (h : lF v a c) (k : lF v c d) : lF v a d := fun i hi => (k i hi).trans (h i hi)
theorem lG_tr2 {v : Nat} {a c d : Nat → Int32} (h : lG v a c) (k : lG v c d) : lG v a d := fun i hi => (k i hi).trans (h i hi)
theorem lF_u0 {a c : Nat → Int32} (h : lF 0 a c) {t : Nat} (ht : t < 40) (x : Int32) : lF 0 a (upd c t x) := fun i hi => by
  rw [pk_un (by omega)]; exact h i hi
/-- all is cleared -/
theorem r_b9 (so rt km : Nat → Int32) : ∀ (m i : Nat) (sz tr ca pl ag mk lk : Nat → Int32), i + m = 40 → (∀ t, t < i → sz t = 0 ∧ ag t = 0 ∧ mk t = 0 ∧ ∀ r, r < 4 → lk (4 * t + r) = -1) →
    ∃ (sz' tr' ca' pl' ag' mk' lk' : Nat → Int32), mX12_begin_9 (nI b) ut to st tt lt ls rs rq so rt km m i sz tr ca pl ag mk lk = mX12_begin_29 (nI b) ut to st tt lt ls rs rq so rt km xfuel 0 sz' tr' ca' pl' ag' mk' lk' ∧ (∀ t, t < 40 → sz' t = 0 ∧ ag' t = 0 ∧ mk' t = 0 ∧ ∀ r, r < 4 → lk' (4 * t + r) = -1) ∧ lF 0 sz sz' ∧ lF 0 tr tr' ∧ lF 0 ca ca' ∧ lF 0 pl pl' ∧ lF 0 ag ag' ∧ lF 0 mk mk' ∧ lG 0 lk lk' := by
  intro m
  induction m with
  | zero =>
    intro i sz tr ca pl ag mk lk hi h
    have e : i = 40 := by omega
    subst e
    exact ⟨sz, tr, ca, pl, ag, mk, lk, rfl, h, lF_rf _ _, lF_rf _ _, lF_rf _ _, lF_rf _ _, lF_rf _ _, lF_rf _ _, fun _ _ => rfl⟩
  | succ m ih =>
    intro i sz tr ca pl ag mk lk hi h
    obtain ⟨lk1, e1, e2⟩ := r_clears (v := 0) (sz := sz) (tr := tr) (ca := ca) (pl := pl) (ag := ag) (mk := mk) (lk := lk) (by decide) (t := i) (by omega)
    rw [show 40 * 0 + i = i by omega] at e1 e2
    rw [mX12_begin_9, show (0 : Int32) = nI 0 from rfl, e2, obind]
    simp only [xu_q]
    obtain ⟨sz', tr', ca', pl', ag', mk', lk', a1, a2, a3, a4, a5, a6, a7, a8, a9⟩ := ih (i + 1) (upd sz i 0) (upd tr i (-1)) (upd ca i (-1)) (upd pl i (-1)) (upd ag i 0) (upd mk i 0) lk1 (by omega) (fun t ht => by
      by_cases e : t = i
      · subst e
        rw [pk_us, pk_us, pk_us]
        exact ⟨rfl, rfl, rfl, fun r hr => by rw [e1, if_pos (by omega)]⟩
      · rw [pk_un e, pk_un e, pk_un e]
        obtain ⟨x1, x2, x3, x4⟩ := h t (by omega)
        exact ⟨x1, x2, x3, fun r hr => by rw [e1, if_neg (by omega)]; exact x4 r hr⟩)
    exact ⟨sz', tr', ca', pl', ag', mk', lk', a1, a2, lF_tr2 (lF_u0 (lF_rf _ _) (by omega) _) a3, lF_tr2 (lF_u0 (lF_rf _ _) (by omega) _) a4, lF_tr2 (lF_u0 (lF_rf _ _) (by omega) _) a5, lF_tr2 (lF_u0 (lF_rf _ _) (by omega) _) a6, lF_tr2 (lF_u0 (lF_rf _ _) (by omega) _) a7, lF_tr2 (lF_u0 (lF_rf _ _) (by omega) _) a8, lG_tr2 (fun j hj => by rw [e1, if_neg (by omega)]) a9⟩
/-- a thing's links -/
theorem r_b78 (hP : nOkP P L) (I : nInv P L) (hR : rPl tx n b P L CS0 CV0 trd cds (tB ut to st tt lt ls rs rq ch sf sb cs cv) nm) (hb : b < 2) {t : Nat} (ht : t < P 0 3) (ag mk sz : Nat → Int32) (K) (tr ca pl : Nat → Int32) : ∀ (m q : Nat) (lk : Nat → Int32) (g : Nat), q + m = P 4 t → m < g → (∀ j, j < 160 → lk j = bno (if j < 4 * t + q then P 5 j else 0)) →
    ∃ lk', mX12_begin_78 (nI b) st lt ls ag mk sz (nI t) K g (nI q) tr ca pl lk = K (nI t + 1) (upd sz t (nI (P 2 t))) tr ca pl ag mk lk' ∧ lG 0 lk lk' ∧ (∀ j, j < 160 → lk' j = bno (if j < 4 * (t + 1) then P 5 j else 0)) := by
  have p4 := hP.2.2.2.1
  have p10 := hP.2.2.2.2.2.2.2.2.2.1 t
  obtain ⟨-, -, -, -, -, -, rt2, rt4, -⟩ := hR
  have x5 : ls (24 * b + t) = nI (P 4 t) := (rt2 t ht).2.2
  have x2 : st (24 * b + t) = nI (P 2 t) := (rt2 t ht).1
  intro m
  induction m with
  | zero =>
    intro q lk g hq hg hl
    obtain ⟨g, rfl⟩ : ∃ h, g = h + 1 := ⟨g - 1, by omega⟩
    rw [mX12_begin_78, e24, zc _ (by omega), x5, if_neg (nI_nlt (by omega) (by omega)), x2, zc _ (by omega)]
    refine ⟨lk, rfl, fun _ _ => rfl, fun j hj => ?_⟩
    rw [hl j hj]
    congr 1
    by_cases a : j < 4 * t + q
    · rw [if_pos a, if_pos (by omega)]
    · rw [if_neg a]
      by_cases c : j < 4 * (t + 1)
      · rw [if_pos c]
        have := I.2.1 t (j - 4 * t) (by omega)
        rw [show 4 * t + (j - 4 * t) = j by omega] at this
        omega
      · rw [if_neg c]
  | succ m ih =>
    intro q lk g hq hg hl
    obtain ⟨g, rfl⟩ : ∃ h, g = h + 1 := ⟨g - 1, by omega⟩
    have x4 : lt (4 * (24 * b + t) + q) = nI (P 5 (4 * t + q) - 1) := rt4 t q ht (by omega)
    have p5 := I.2.1 t q (by omega)
    have l4 : 4 * t + q < 160 := by omega
    rw [mX12_begin_78, e24, zc _ (by omega), x5, if_pos (nI_lt (by omega) (by omega)), e4x, if_pos (zb _ _ (by omega) (by decide)), e4x, if_pos (zb _ _ (by omega) (by decide)), zc _ (by omega), zc _ (by omega), x4, nI_1]
    obtain ⟨lk', a1, a2, a3⟩ := ih (q + 1) (upd lk (4 * t + q) (nI (P 5 (4 * t + q) - 1))) g (by omega) (by omega) (fun j hj => by
      by_cases e : j = 4 * t + q
      · subst e
        rw [pk_us, if_pos (by omega), ← bnoS]
        congr 1
        omega
      · rw [pk_un e, hl j hj]
        congr 1
        by_cases a : j < 4 * t + q
        · rw [if_pos a, if_pos (by omega)]
        · rw [if_neg a, if_neg (by omega)])
    exact ⟨lk', a1, lG_tr2 (fun j hj => by rw [pk_un (by omega)]) a2, a3⟩
/-- the roots -/
theorem r_b122 (hP : nOkP P L) (I : nInv P L) (hR : rPl tx n b P L CS0 CV0 trd cds (tB ut to st tt lt ls rs rq ch sf sb cs cv) nm) (hb : b < 2) (so km sz tr ca pl ag mk lk : Nat → Int32) : ∀ (m q : Nat) (rt : Nat → Int32), q + m = 8 → (∀ k, k < q → rt k = bno (P 7 k)) →
    ∃ rt', mX12_begin_122 (nI b) rs rq so km m q sz tr ca pl ag mk lk rt = some (0, 0, upd so 0 0, sz, tr, ca, pl, ag, mk, lk, rt', upd km 0 0) ∧ (∀ k, k < 8 → rt' k = bno (P 7 k)) ∧ ∀ i, 8 ≤ i → rt' i = rt i := by
  have p5 := hP.2.2.2.2.1
  obtain ⟨-, -, r6, -, -, -, -, -, rt7, -⟩ := hR
  have x6 : rs b = nI (P 0 4) := r6
  intro m
  induction m with
  | zero =>
    intro q rt hq h
    have e : q = 8 := by omega
    subst e
    exact ⟨rt, rfl, h, fun _ _ => rfl⟩
  | succ m ih =>
    intro q rt hq h
    have p7 := I.2.2.2.1 q
    have p4 := hP.2.2.2.1
    rw [mX12_begin_122, zc b (by omega), x6]
    by_cases e : q < P 0 4
    · have x7 : rq (8 * b + q) = nI (P 7 q - 1) := rt7 q e
      rw [if_pos (nI_lt e (by omega)), e8x, if_pos (zb _ _ (by omega) (by decide)), zc q (by omega), zc _ (by omega), x7]
      obtain ⟨rt', a1, a2, a3⟩ := ih (q + 1) (upd rt q (nI (P 7 q - 1))) (by omega) (fun k hk => by
        by_cases z : k = q
        · subst z; rw [pk_us, ← bnoS]; congr 1; omega
        · rw [pk_un z]; exact h k (by omega))
      exact ⟨rt', a1, a2, fun i hi => by rw [a3 i hi, pk_un (by omega)]⟩
    · rw [if_neg (nI_nlt (by omega) (by omega)), zc q (by omega)]
      obtain ⟨rt', a1, a2, a3⟩ := ih (q + 1) (upd rt q (-1)) (by omega) (fun k hk => by
        by_cases z : k = q
        · subst z
          rw [pk_us]
          have : P 7 k = 0 := by omega
          rw [this]; rfl
        · rw [pk_un z]; exact h k (by omega))
      exact ⟨rt', a1, a2, fun i hi => by rw [a3 i hi, pk_un (by omega)]⟩
theorem r_b29 (hP : nOkP P L) (I : nInv P L) (hR : rPl tx n b P L CS0 CV0 trd cds (tB ut to st tt lt ls rs rq ch sf sb cs cv) nm) (hb : b < 2) (so rt km : Nat → Int32) : ∀ (m t : Nat) (sz tr ca pl ag mk lk : Nat → Int32) (g : Nat), t + m = P 0 3 → m < g → rS 0 (gLys P t) (0, fun _ => 0) (fun _ => 0) sz tr ca pl ag mk (fun _ => -1) (fun _ => -1) (fun _ => 0) (fun _ => 0) → (∀ u, u < 40 → ag u = 0 ∧ mk u = 0) → (∀ j, j < 160 → lk j = bno (if j < 4 * t then P 5 j else 0)) →
    ∃ (sz' tr' ca' pl' lk' rt' : Nat → Int32), mX12_begin_29 (nI b) ut to st tt lt ls rs rq so rt km g (nI t) sz tr ca pl ag mk lk = some (0, 0, upd so 0 0, sz', tr', ca', pl', ag, mk, lk', rt', upd km 0 0) ∧ rS 0 (gLys P (P 0 3)) (0, fun _ => 0) (fun _ => 0) sz' tr' ca' pl' ag mk (fun _ => -1) (fun _ => -1) (fun _ => 0) (fun _ => 0) ∧ (∀ j, j < 160 → lk' j = bno (if j < 4 * P 0 3 then P 5 j else 0)) ∧ (∀ k, k < 8 → rt' k = bno (P 7 k)) ∧ lF 0 sz sz' ∧ lF 0 tr tr' ∧ lF 0 ca ca' ∧ lF 0 pl pl' ∧ lG 0 lk lk' ∧ ∀ i, 8 ≤ i → rt' i = rt i := by
  obtain ⟨p1, p2, p3, p4, p5, p6, p7, p8, p9, p10, p11⟩ := id hP
  obtain ⟨r0, r1, r6, r8, rc, rtd, rt2, rt4, rt7, rt9, r11, r12, rnm⟩ := id hR
  have x1 : to b = nI (P 0 3) := r1
  have x0 : ut b = nI (P 0 0) := r0
  intro m
  induction m with
  | zero =>
    intro t sz tr ca pl ag mk lk g ht hg S hm hl
    obtain ⟨g, rfl⟩ : ∃ h, g = h + 1 := ⟨g - 1, by omega⟩
    have e : t = P 0 3 := by omega
    subst e
    rw [mX12_begin_29, if_pos (zb _ _ hb (by decide)), zc _ (by omega), x1, if_neg (nI_nlt (by omega) (by omega))]
    obtain ⟨rt', a1, a2, a3⟩ := r_b122 hP I hR hb so km sz tr ca pl ag mk lk 8 0 rt (by decide) (fun k hk => absurd hk (Nat.not_lt_zero _))
    exact ⟨sz, tr, ca, pl, lk, rt', a1, S, hl, a2, lF_rf _ _, lF_rf _ _, lF_rf _ _, lF_rf _ _, fun _ _ => rfl, a3⟩
  | succ m ih =>
    intro t sz tr ca pl ag mk lk g ht hg S hm hl
    obtain ⟨g, rfl⟩ : ∃ h, g = h + 1 := ⟨g - 1, by omega⟩
    obtain ⟨W, w1, w2, w3⟩ := gLys_w hP I t (by omega)
    have sz1 := I.1 t (by omega)
    have x2 : st (24 * b + t) = nI (P 2 t) := (rt2 t (by omega)).1
    have x3 : tt (24 * b + t) = nI (gTrn P t) := (rt2 t (by omega)).2.1
    have gle := gTrn_le (P := P) p9 t
    have rn := r_new (v := 0) (w := gTrn P t) (U := P 0 0) (z := P 2 t) (t := t) (b := b) (ut := ut) (by decide) hb W (by omega) (w2 t (by omega)) sz1.1 (by omega) (by omega) x0 (by omega) S (by rw [show 40 * 0 + t = t by omega]; exact (hm t (by omega)).1) (by rw [show 40 * 0 + t = t by omega]; exact (hm t (by omega)).2)
    rw [show 40 * 0 + t = t by omega] at rn
    obtain ⟨tr1, ca1, pl1, a1, f1, f2, f3, S1⟩ := rn
    rw [mX12_begin_29, if_pos (zb _ _ hb (by decide)), zc b (by omega), x1, if_pos (nI_lt (by omega) (by omega)), e24, if_pos (zb _ _ (by omega) (by decide)), if_pos (zb _ _ (by omega) (by decide)), zc t (by omega), zc (24 * b + t) (by omega), x2, x3, show (0 : Int32) = nI 0 from rfl, a1, obind]
    simp only [xu_q]
    obtain ⟨lk1, b1, b2, b3⟩ := r_b78 hP I hR hb (t := t) (by omega) ag mk sz (fun zx1_29 za_sizeOf_29 za_trainOf_29 za_carOf_29 za_placeOf_29 za_ageOf_29 za_markOf_29 za_linkTo_29 => mX12_begin_29 (nI b) ut to st tt lt ls rs rq so rt km g zx1_29 za_sizeOf_29 za_trainOf_29 za_carOf_29 za_placeOf_29 za_ageOf_29 za_markOf_29 za_linkTo_29) tr1 ca1 pl1 (P 4 t) 0 lk xfuel (by omega) (by unfold xfuel; have := p10 t; omega) (fun j hj => by rw [Nat.add_zero]; exact hl j hj)
    rw [b1, nI_1]
    obtain ⟨sz', tr', ca', pl', lk', rt', c1, c2, c3, c4, c5, c6, c7, c8, c9, c10⟩ := ih (t + 1) (upd sz t (nI (P 2 t))) tr1 ca1 pl1 ag mk lk1 g (by omega) (by omega) S1 hm b3
    exact ⟨sz', tr', ca', pl', lk', rt', c1, c2, c3, c4, lF_tr2 (lF_u0 (lF_rf _ _) (by omega) _) c5, lF_tr2 f1 c6, lF_tr2 f2 c7, lF_tr2 f3 c8, lG_tr2 b2 c9, c10⟩
/-- the reference's heap begins -/
theorem r_begin (hP : nOkP P L) (I : nInv P L) (hR : rPl tx n b P L CS0 CV0 trd cds (tB ut to st tt lt ls rs rq ch sf sb cs cv) nm) (hb : b < 2) (so sz tr ca pl ag mk lk rt km kr : Nat → Int32) :
    ∃ (sz' tr' ca' pl' ag' mk' lk' rt' : Nat → Int32), mX12_begin (nI b) ut to st tt lt ls rs rq so sz tr ca pl ag mk lk rt km = some (0, 0, upd so 0 0, sz', tr', ca', pl', ag', mk', lk', rt', upd km 0 0) ∧ rS 0 (gHp P) (0, fun _ => 0) (upd so 0 0) sz' tr' ca' pl' ag' mk' lk' rt' (upd km 0 0) kr ∧ rY 0 so sz tr ca pl ag mk lk rt km kr (upd so 0 0) sz' tr' ca' pl' ag' mk' lk' rt' (upd km 0 0) kr := by
  obtain ⟨sz1, tr1, ca1, pl1, ag1, mk1, lk1, a1, a2, a3, a4, a5, a6, a7, a8, a9⟩ := r_b9 (b := b) (ut := ut) (to := to) (st := st) (tt := tt) (lt := lt) (ls := ls) (rs := rs) (rq := rq) so rt km 40 0 sz tr ca pl ag mk lk (by decide) (fun t ht => absurd ht (Nat.not_lt_zero _))
  have p4 := hP.2.2.2.1
  have S0 : rS 0 (gLys P 0) (0, fun _ => 0) (fun _ => 0) sz1 tr1 ca1 pl1 ag1 mk1 (fun _ => -1) (fun _ => -1) (fun _ => 0) (fun _ => 0) := by
    refine ⟨fun st' sT hst => ⟨fun t ht => ⟨?_, hst t ht⟩, fun t ht p => absurd p (show ¬ 0 < 0 by decide), fun t ht e => absurd e (show ¬ (0 : Nat) = 1 by decide), fun j hj => rfl, fun k hk => rfl⟩, ⟨rfl, Nat.zero_le _, fun i hi => rfl⟩, rfl⟩
    rw [show 40 * 0 + t = t by omega]
    exact (a2 t ht).1
  obtain ⟨sz', tr', ca', pl', lk', rt', c1, c2, c3, c4, c5, c6, c7, c8, c9, c10⟩ := r_b29 hP I hR hb so rt km (P 0 3) 0 sz1 tr1 ca1 pl1 ag1 mk1 lk1 xfuel (by omega) (by unfold xfuel; omega) S0 (fun u hu => ⟨(a2 u hu).2.1, (a2 u hu).2.2.1⟩) (fun j hj => by
    rw [if_neg (by omega)]
    have := (a2 (j / 4) (by omega)).2.2.2 (j % 4) (by omega)
    rw [show 4 * (j / 4) + j % 4 = j by omega] at this
    rw [this]; rfl)
  refine ⟨sz', tr', ca', pl', ag1, mk1, lk', rt', ?_, ⟨fun st' sT hst => ?_, ⟨pk_us, Nat.zero_le _, fun i hi => absurd hi (Nat.not_lt_zero _)⟩, ?_⟩, fun u g' K' hu h => ?_⟩
  · unfold mX12_begin
    rw [a1]
    exact c1
  · have M := c2.1 st' sT hst
    refine ⟨M.1, M.2.1, M.2.2.1, fun j hj => ?_, fun k hk => ?_⟩
    · rw [show 160 * 0 + j = j by omega, c3 j hj]; rfl
    · rw [show 8 * 0 + k = k by omega, c4 k hk]
      show bno (P 7 k) = bno (if k < 8 then P 7 k else 0)
      rw [if_pos hk]
  · rw [pk_us]
    show (0 : Int32) = nI (gLys P (P 0 3) 8 0)
    rw [gLys_o _ (by decide)]
    rfl
  · exact rS_fr hu h (fun i hi => pk_un hi) (lF_tr2 a3 c5) (lF_tr2 a4 c6) (lF_tr2 a5 c7) (lF_tr2 a6 c8) a7 a8 (lG_tr2 a9 c9) (fun i hi => c10 i (by omega)) (fun i hi => pk_un hi) (fun _ _ => rfl)
end BG
