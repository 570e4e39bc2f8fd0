def rB (R : Nat → Bool) (E : Nat → Nat → Bool) (af aq : Nat → Int32) (m : Nat) (q : Nat → Nat) : Prop :=
  (∀ j, j < m → q j < 40 ∧ aq j = nI (q j)) ∧ (∀ j k, j < k → k < m → q j ≠ q k) ∧ (∀ j, j < m → af (q j) = 0) ∧
  (∀ t, t < 40 → (∀ j, j < m → q j ≠ t) → af t = 100000000) ∧ (∀ j, j < m → blv R E 40 (q j) = true)
theorem rB_max {R : Nat → Bool} {E : Nat → Nat → Bool} {af aq : Nat → Int32} {m : Nat} {q : Nat → Nat} (h : rB R E af aq m q) {t : Nat} (ht : t < 40) (hn : ∀ j, j < m → q j ≠ t) : m < 40 := by
  have := fb_holes 40 (m + 1) (fun j => if j < m then q j else t) (fun i hi => by
    by_cases e : i < m
    · simp only [if_pos e]; exact (h.1 i e).1
    · simp only [if_neg e]; exact ht) (fun i j hij hj => by
    have hi : i < m := by omega
    by_cases e : j < m
    · simp only [if_pos hi, if_pos e]; exact h.2.1 i j hij e
    · simp only [if_pos hi, if_neg e]; exact hn i hi)
  omega
theorem rB_push {R : Nat → Bool} {E : Nat → Nat → Bool} {af aq : Nat → Int32} {m : Nat} {q : Nat → Nat} (h : rB R E af aq m q) {t : Nat} (ht : t < 40) (hn : ∀ j, j < m → q j ≠ t) (hs : blv R E 40 t = true) :
    rB R E (upd af t 0) (upd aq m (nI t)) (m + 1) (fun j => if j = m then t else q j) := by
  obtain ⟨h1, h2, h3, h4, h6⟩ := h
  have ne : ∀ j, j < m → ¬ q j = t := hn
  refine ⟨fun j hj => ?_, fun j k hjk hk => ?_, fun j hj => ?_, fun x hx hxn => ?_, fun j hj => ?_⟩
  · by_cases e : j = m
    · subst e; simp only [if_true]; exact ⟨ht, pk_us⟩
    · simp only [if_neg e]; rw [pk_un e]; exact h1 j (by omega)
  · by_cases e : k = m
    · subst e; simp only [if_true, if_neg (show ¬ j = k by omega)]; exact hn j hjk
    · simp only [if_neg e, if_neg (show ¬ j = m by omega)]; exact h2 j k hjk (by omega)
  · by_cases e : j = m
    · subst e; simp only [if_true]; exact pk_us
    · simp only [if_neg e]; rw [pk_un (ne j (by omega))]; exact h3 j (by omega)
  · have a1 := hxn m (by omega)
    simp only [if_true] at a1
    rw [pk_un (fun z => a1 z.symm)]
    refine h4 x hx (fun j hj => ?_)
    have a2 := hxn j (by omega)
    simp only [if_neg (show ¬ j = m by omega)] at a2
    exact a2
  · by_cases e : j = m
    · subst e; simp only [if_true]; exact hs
    · simp only [if_neg e]; exact h6 j (by omega)
section RI
variable {W : Nat → Bool} {g : Nat → Nat → Nat} (lk : Nat → Int32)
def rO (g : Nat → Nat → Nat) (t : Nat) (r : Option (Int32 × (Nat → Int32) × (Nat → Int32))) : Prop := ∃ (b : Bool) (af aq : Nat → Int32), r = some (if b = true then 1 else 0, af, aq) ∧ (b = true ↔ ∃ u, u < 40 ∧ blv (fun x => decide (x = t)) (gLk g) 40 u = true ∧ gLk g u t = true)
def rC (g : Nat → Nat → Nat) (t : Nat) (af aq : Nat → Int32) (m i : Nat) (q : Nat → Nat) (b : Bool) : Prop :=
  rB (fun x => decide (x = t)) (gLk g) af aq m q ∧ (∃ j, j < m ∧ q j = t) ∧ (∀ j, j < i → j < m → ∀ y, y < 40 → gLk g (q j) y = true → ∃ k, k < m ∧ q k = y) ∧ (b = true ↔ ∃ j, j < i ∧ j < m ∧ gLk g (q j) t = true)
theorem rO_of {g : Nat → Nat → Nat} {t : Nat} {af aq : Nat → Int32} {m : Nat} {q : Nat → Nat} {b : Bool} (h : rC g t af aq m m q b) : rO g t (some (if b = true then 1 else 0, af, aq)) := by
  obtain ⟨hB, ⟨j0, hj0, ej0⟩, hC, hb⟩ := h
  refine ⟨b, af, aq, rfl, ?_⟩
  rw [hb]
  constructor
  · rintro ⟨j, _, hj, e⟩
    exact ⟨q j, (hB.1 j hj).1, hB.2.2.2.2 j hj, e⟩
  · rintro ⟨u, hu, h1, h2⟩
    have inq : bex (fun j => decide (q j = u)) m 0 = true := by
      refine blv_in (fun x => decide (x = t)) (gLk g) (fun x => bex (fun j => decide (q j = x)) m 0) (fun x hx hr => ?_) (fun y x hy hx hs he => ?_) 40 u hu h1
      · have : x = t := of_decide_eq_true hr
        subst this
        exact (bexI _ _).mpr ⟨j0, hj0, decide_eq_true ej0⟩
      · obtain ⟨j, hj, ej⟩ := (bexI _ _).mp hs
        have ej := of_decide_eq_true ej
        obtain ⟨k, hk, ek⟩ := hC j hj hj x hx (by rw [ej]; exact he)
        exact (bexI _ _).mpr ⟨k, hk, decide_eq_true ek⟩
    obtain ⟨j, hj, ej⟩ := (bexI _ _).mp inq
    have ej := of_decide_eq_true ej
    exact ⟨j, hj, hj, by rw [ej]; exact h2⟩
theorem z_or1 (b c : Bool) : ((if b = true then (1 : Int32) else 0) ||| (if c = true then (1 : Int32) else 0)) = if (b || c) = true then 1 else 0 := by
  cases b <;> cases c <;> decide
theorem s_ring_63 (h : gok W g) (hl : ∀ j, j < 160 → lk j = bno (g 6 j)) (t : Nat) (ht : t < 40) (K : Int32 → Int32 → Int32 → (Nat → Int32) → (Nat → Int32) → Option (Int32 × (Nat → Int32) × (Nat → Int32))) (x : Nat)
    (hK : ∀ (m : Nat) (af aq : Nat → Int32) (q : Nat → Nat) (b : Bool), rC g t af aq m (x + 1) q b → x < m → rO g t (K (nI m) (if b = true then 1 else 0) (nI (x + 1)) af aq)) :
    ∀ (k i m : Nat) (af aq : Nat → Int32) (q : Nat → Nat) (b c : Bool), i + k = 4 → x < m → rC g t af aq m x q b → (∀ r y, r < i → y < 40 → g 6 (4 * q x + r) = y + 1 → ∃ j, j < m ∧ q j = y) → (c = true ↔ b = true ∨ ∃ r, r < i ∧ g 6 (4 * q x + r) = t + 1) →
      rO g t (mX12_ring_63 (nI t) lk (nI x) K k i (nI m) (if c = true then 1 else 0) af aq) := by
  intro k
  induction k with
  | zero =>
    intro i m af aq q b c hi hx hC hd hc
    rw [mX12_ring_63, nI_1]
    refine hK m af aq q c ⟨hC.1, hC.2.1, fun j hj hjm y hy he => ?_, ?_⟩ hx
    · by_cases e : j = x
      · subst e
        obtain ⟨r, hr, e2⟩ := (gLk_iff g _ _).mp he
        exact hd r y (by omega) hy e2
      · exact hC.2.2.1 j (by omega) hjm y hy he
    · rw [hc, hC.2.2.2]
      constructor
      · rintro (⟨j, a, b, e⟩ | ⟨r, hr, e⟩)
        · exact ⟨j, by omega, b, e⟩
        · exact ⟨x, by omega, hx, (gLk_iff g _ _).mpr ⟨r, by omega, e⟩⟩
      · rintro ⟨j, a, b, e⟩
        by_cases z : j = x
        · subst z
          obtain ⟨r, hr, e2⟩ := (gLk_iff g _ _).mp e
          exact Or.inr ⟨r, by omega, e2⟩
        · exact Or.inl ⟨j, by omega, b, e⟩
  | succ k ih =>
    intro i m af aq q b c hi hx hC hd hc
    have hB := hC.1
    have hqx := hB.1 x hx
    have hm : m ≤ 40 := fb_holes 40 m q (fun i hi => (hB.1 i hi).1) (fun i j a b => hB.2.1 i j a b)
    have eidx : (4 : Int32) * nI (q x) + nI i = nI (4 * q x + i) := by
      rw [show (4 : Int32) = nI 4 from rfl, pk_mul, nI_add]
    have hj160 : 4 * q x + i < 160 := by omega
    have hg := h.1 (4 * q x + i) hj160
    rw [mX12_ring_63, zb x 40 (by omega) (by decide), zc x (by omega), hqx.2, eidx, zb (4 * q x + i) 3520 (by omega) (by decide), zc (4 * q x + i) (by omega), hl _ hj160]
    rw [if_pos rfl, if_pos rfl]
    have body : ∀ s0 : Bool, (s0 = true ↔ g 6 (4 * q x + i) = t + 1) → rO g t (mX12_ring_100 lk af aq i (nI m) (if c = true then 1 else 0) (nI x) (fun zx2_63 zx3_63 za_farOf_63 za_queue_63 => mX12_ring_63 (nI t) lk (nI x) K k (i + 1) zx2_63 zx3_63 za_farOf_63 za_queue_63) (if s0 = true then 1 else 0)) := by
      intro s0 hs0
      have hc2 : (c || s0) = true ↔ b = true ∨ ∃ r, r < i + 1 ∧ g 6 (4 * q x + r) = t + 1 := by
        rw [Bool.or_eq_true, hc, hs0]
        constructor
        · rintro ((a | ⟨r, hr, e⟩) | a)
          · exact Or.inl a
          · exact Or.inr ⟨r, by omega, e⟩
          · exact Or.inr ⟨i, by omega, a⟩
        · rintro (a | ⟨r, hr, e⟩)
          · exact Or.inl (Or.inl a)
          · by_cases z : r = i
            · subst z; exact Or.inr e
            · exact Or.inl (Or.inr ⟨r, by omega, e⟩)
      unfold mX12_ring_100
      rw [zc x (by omega), hqx.2, eidx, zc (4 * q x + i) (by omega), hl _ hj160, z_or1]
      by_cases h2 : bno (g 6 (4 * q x + i)) = -1
      · rw [if_pos h2]
        refine ih (i + 1) m af aq q b (c || s0) (by omega) hx hC (fun r y hr hy e => ?_) hc2
        by_cases z : r = i
        · subst z
          rw [e, bnoS] at h2
          exact absurd h2 (nI_m1 (by omega))
        · exact hd r y (by omega) hy e
      · rw [if_neg h2]
        obtain ⟨y, ey⟩ : ∃ y, g 6 (4 * q x + i) = y + 1 := by
          refine ⟨g 6 (4 * q x + i) - 1, ?_⟩
          rcases Nat.eq_zero_or_pos (g 6 (4 * q x + i)) with z | z
          · rw [z] at h2; exact absurd rfl h2
          · omega
        have hy : y < 40 := by omega
        rw [ey, bnoS, zb y 40 hy (by decide), zc y (by omega)]
        rw [if_pos rfl]
        by_cases hin : ∃ j, j < m ∧ q j = y
        · obtain ⟨j, hj, ej⟩ := hin
          have h3j := hB.2.2.1 j hj
          rw [ej] at h3j
          rw [h3j, if_pos rfl]
          refine ih (i + 1) m af aq q b (c || s0) (by omega) hx hC (fun r z hr hz e => ?_) hc2
          by_cases w : r = i
          · subst w
            have : z = y := by omega
            subst this
            exact ⟨j, hj, ej⟩
          · exact hd r z (by omega) hz e
        · have hn : ∀ j, j < m → q j ≠ y := fun j hj e => hin ⟨j, hj, e⟩
          have hm40 := rB_max hB hy hn
          rw [hB.2.2.2.1 y hy hn, if_neg (by decide), zb m 40 hm40 (by decide), zc m (by omega), if_pos rfl, nI_1]
          have hE : gLk g (q x) y = true := (gLk_iff g _ _).mpr ⟨i, by omega, ey⟩
          have hP := rB_push hB hy hn (blv_stop _ _ 41 y hy ((blv_succ _ _ 40 y).mpr (Or.inr ⟨q x, hqx.1, hB.2.2.2.2 x hx, hE⟩)))
          have xm : ¬ x = m := by omega
          refine ih (i + 1) (m + 1) _ _ (fun j => if j = m then y else q j) b (c || s0) (by omega) (by omega) ⟨hP, ?_, fun j hj hjm z hz he => ?_, ?_⟩ (fun r z hr hz e => ?_) ?_
          · obtain ⟨j, a, e⟩ := hC.2.1
            exact ⟨j, by omega, by simp only [if_neg (show ¬ j = m by omega)]; exact e⟩
          · have jm : ¬ j = m := by omega
            simp only [if_neg jm] at he
            obtain ⟨k2, a, e⟩ := hC.2.2.1 j hj (by omega) z hz he
            exact ⟨k2, by omega, by simp only [if_neg (show ¬ k2 = m by omega)]; exact e⟩
          · rw [hC.2.2.2]
            constructor
            · rintro ⟨j, a, b, e⟩
              exact ⟨j, a, by omega, by simp only [if_neg (show ¬ j = m by omega)]; exact e⟩
            · rintro ⟨j, a, b, e⟩
              simp only [if_neg (show ¬ j = m by omega)] at e
              exact ⟨j, a, by omega, e⟩
          · simp only [if_neg xm] at e
            by_cases w : r = i
            · subst w
              have : z = y := by omega
              subst this
              exact ⟨m, by omega, by simp only [if_true]⟩
            · obtain ⟨j, a, e2⟩ := hd r z (by omega) hz e
              exact ⟨j, by omega, by simp only [if_neg (show ¬ j = m by omega)]; exact e2⟩
          · simp only [if_neg xm]
            exact hc2
    by_cases h1 : bno (g 6 (4 * q x + i)) = nI t
    · rw [if_pos h1]
      exact body true (iff_of_true rfl ((bno_nI (by omega) (by omega)).mp h1))
    · rw [if_neg h1]
      exact body false (iff_of_false (by decide) (fun e => h1 ((bno_nI (by omega) (by omega)).mpr e)))
theorem s_ring_54 (h : gok W g) (hl : ∀ j, j < 160 → lk j = bno (g 6 j)) (t : Nat) (ht : t < 40) : ∀ (f m i : Nat) (af aq : Nat → Int32) (q : Nat → Nat) (b : Bool), 41 - i < f → i ≤ m → rC g t af aq m i q b → rO g t (mX12_ring_54 (nI t) lk f (nI m) (if b = true then 1 else 0) (nI i) af aq) := by
  intro f
  induction f with
  | zero => intro m i af aq q b hf; omega
  | succ f ih =>
    intro m i af aq q b hf hi hC
    have hB := hC.1
    have hm : m ≤ 40 := fb_holes 40 m q (fun i hi => (hB.1 i hi).1) (fun i j a b => hB.2.1 i j a b)
    rw [mX12_ring_54]
    by_cases hlt : i < m
    · rw [if_pos (nI_lt hlt (by omega))]
      refine s_ring_63 lk h hl t ht _ i (fun m' af' aq' q' b' hC' hx' => ?_) 4 0 m af aq q b b rfl hlt hC (fun r y hr => by omega) ?_
      · exact ih m' (i + 1) af' aq' q' b' (by omega) (by omega) hC'
      · constructor
        · exact Or.inl
        · rintro (a | ⟨r, hr, _⟩)
          · exact a
          · omega
    · rw [if_neg (nI_nlt (by omega) (by omega))]
      have : i = m := by omega
      subst this
      have := rO_of hC
      cases b with
      | true => rw [if_neg (by decide)]; exact this
      | false => rw [if_pos (by decide)]; exact this
theorem s_ring_12 (h : gok W g) (hl : ∀ j, j < 160 → lk j = bno (g 6 j)) (t : Nat) (ht : t < 40) (aq : Nat → Int32) : ∀ (k i : Nat) (af : Nat → Int32), i + k = 40 → (∀ x, x < i → af x = 100000000) → rO g t (mX12_ring_12 (nI t) lk aq k i af) := by
  intro k
  induction k with
  | zero =>
    intro i af hi hf
    rw [mX12_ring_12, zb t 40 ht (by decide), zc t (by omega), if_pos rfl]
    refine s_ring_54 lk h hl t ht xfuel 1 0 _ _ (fun _ => t) false (by unfold xfuel; omega) (by omega) ⟨⟨fun j hj => ?_, fun j k hjk hk => by omega, fun j hj => pk_us, fun x hx hn => ?_, fun j hj => ?_⟩, ⟨0, by omega, rfl⟩, fun j hj => by omega, ?_⟩
    · have : j = 0 := by omega
      subst this
      exact ⟨ht, pk_us⟩
    · rw [pk_un (fun z => hn 0 (by omega) z.symm)]; exact hf x (by omega)
    · exact blv_mono _ _ t (Nat.zero_le 40) (n := 0) (decide_eq_true rfl)
    · constructor
      · intro q; exact absurd q (by decide)
      · rintro ⟨j, hj, _⟩; omega
  | succ k ih =>
    intro i af hi hf
    rw [mX12_ring_12, zc i (by omega)]
    refine ih (i + 1) _ (by omega) (fun x hx => ?_)
    by_cases e : x = i
    · subst e; exact pk_us
    · rw [pk_un e]; exact hf x (by omega)
theorem ring_same (E : Nat → Nat → Bool) (t : Nat) (ht : t < 40) : blv (fun x => E t x) E 40 t = true ↔ ∃ u, u < 40 ∧ blv (fun x => decide (x = t)) E 40 u = true ∧ E u t = true := by
  constructor
  · have : ∀ n x, x < 40 → blv (fun x => E t x) E n x = true → ∃ u, u < 40 ∧ blv (fun x => decide (x = t)) E 40 u = true ∧ E u x = true := by
      intro n
      induction n with
      | zero =>
        intro x hx hb
        exact ⟨t, ht, blv_mono _ _ t (Nat.zero_le 40) (n := 0) (decide_eq_true rfl), hb⟩
      | succ n ih =>
        intro x hx hb
        rcases (blv_succ _ _ n x).mp hb with hb | ⟨y, hy, hb, he⟩
        · exact ih x hx hb
        · obtain ⟨u, hu, a, b⟩ := ih y hy hb
          exact ⟨y, hy, blv_stop _ _ 41 y hy ((blv_succ _ _ 40 y).mpr (Or.inr ⟨u, hu, a, b⟩)), he⟩
    exact this 40 t ht
  · rintro ⟨u, hu, a, b⟩
    have : ∀ n x, x < 40 → blv (fun x => decide (x = t)) E n x = true → x = t ∨ blv (fun x => E t x) E 40 x = true := by
      intro n
      induction n with
      | zero =>
        intro x hx hb
        exact Or.inl (of_decide_eq_true hb)
      | succ n ih =>
        intro x hx hb
        rcases (blv_succ _ _ n x).mp hb with hb | ⟨y, hy, hb, he⟩
        · exact ih x hx hb
        · right
          rcases ih y hy hb with e | e
          · subst e; exact blv_mono _ _ x (Nat.zero_le 40) (n := 0) he
          · exact blv_stop _ _ 41 x hx ((blv_succ _ _ 40 x).mpr (Or.inr ⟨y, hy, e, he⟩))
    rcases this 40 u hu a with e | e
    · subst e; exact blv_mono _ _ u (Nat.zero_le 40) (n := 0) b
    · exact blv_stop _ _ 41 t ht ((blv_succ _ _ 40 t).mpr (Or.inr ⟨u, hu, e, b⟩))
theorem c_ring (h : gok W g) {th : Int64} (hth : zh th W) (lkr : Nat → Int32) (hl : ∀ j, j < 160 → lk j = bno (g 6 j)) (hlr : ∀ j, j < 160 → lkr j = bno (g 6 j)) (t : Nat) (ht : t < 40) (af aq : Nat → Int32) :
    ∃ af' aq', mX12_ring_12 (nI t) lkr aq 40 0 af = some (if mX11_in (mX10_reach (mX10_linkedFrom (nI t) lk) th lk) (nI t) = true then 1 else 0, af', aq') := by
  obtain ⟨b, af', aq', e, hb⟩ := s_ring_12 lkr h hlr t ht aq 40 0 af rfl (fun x hx => by omega)
  refine ⟨af', aq', ?_⟩
  rw [e, zh_in (s_reach _ th _ W (s_linkedFrom t ht lk) hth lk) ht]
  have e2 : blv (fun x => bhas (fun r => lk (4 * t + r)) 4 (nI x) && W x) (fun u x => bhas (fun r => lk (4 * u + r)) 4 (nI x) && W x) 40 t = blv (fun x => gLk g t x) (gLk g) 40 t := by
    refine blv_cong (fun x hx => ?_) (fun u x hu hx => ?_) 40 t ht
    · rw [bhas_g6' h lk hl ht hx]; exact and_th (gLk_th h ht)
    · rw [bhas_g6' h lk hl hu hx]; exact and_th (gLk_th h hu)
  rw [e2]
  have : b = blv (fun x => gLk g t x) (gLk g) 40 t := by
    rw [Bool.eq_iff_iff, hb, ring_same (gLk g) t ht]
  rw [this]
end RI
