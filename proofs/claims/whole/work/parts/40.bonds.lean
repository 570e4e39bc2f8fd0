theorem z_is (x lo hi : Int32) : mX12_is x lo hi = (!decide (x < lo) && !decide (hi < x)) := by
  unfold mX12_is
  by_cases h1 : x < lo
  · rw [if_pos h1, decide_eq_true h1]; rfl
  · rw [if_neg h1, decide_eq_false h1]
    by_cases h2 : hi < x
    · rw [if_pos h2, decide_eq_true h2]; rfl
    · rw [if_neg h2, decide_eq_false h2]; rfl
theorem nI_ne_far {n : Nat} (h : n < 1000) : ¬ nI n = 100000000 := fun e => Int32.lt_irrefl (e ▸ nI_lt_far h)
theorem z_lt40 (x : Int32) : 39 < x ↔ ¬ x < 40 := by
  rw [fa_lt, fa_lt, show (39 : Int32).toInt = 39 from rfl, show (40 : Int32).toInt = 40 from rfl]
  omega
theorem z_isThing (t : Nat) (ht : t < 40) (sz : Nat → Int32) : mX12_isThing (nI t) sz = some (decide (0 < sz t)) := by
  unfold mX12_isThing
  have a : ¬ nI t < 0 := zn0 (by omega)
  have b : ¬ (39 : Int32) < nI t := by rw [z_lt40]; exact fun q => q (zn40 ht)
  rw [z_is, decide_eq_false a, decide_eq_false b, if_pos (show (!false && !false) = true from rfl)]
  have e := s_isThere 0 (by decide) sz t ht
  rw [show nI 0 = 0 from rfl] at e
  rw [e]
  simp only [Option.bind_some, decide_eq_true_eq, Nat.mul_zero, Nat.zero_add]
  split <;> simp_all
theorem z_isThing_out (x : Int32) (h : x < 0 ∨ ¬ x < 40) (sz : Nat → Int32) : mX12_isThing x sz = some false := by
  unfold mX12_isThing
  rw [z_is]
  rcases h with h | h
  · rw [decide_eq_true h]; rfl
  · rw [decide_eq_true ((z_lt40 x).mpr h), Bool.not_true, Bool.and_false]; rfl
theorem xu_r {α β γ : Type} (f : α → β → γ) (a : α) (b : β) : xu f (a, b) = f a b := rfl
/-- how many a thing holds alone -/
theorem c_retained {W : Nat → Bool} {g : Nat → Nat → Nat} (h : gok W g) {th : Int64} (hth : zh th W) (lk rt : Nat → Int32) (hl : ∀ j, j < 160 → lk j = bno (g 6 j)) (hr : ∀ k, k < 8 → rt k = bno (g 7 k)) (t : Nat) (ht : t < 40) :
    mX0_retained (nI t) th lk rt = nI (fb_ct (gL g) 40) - nI (fb_ct (gLb g t) 40) := by
  unfold mX0_retained
  rw [zh_cnt (z_live h hth lk rt hl hr), zh_cnt (s_reach _ _ _ _ (zh_andn (s_rooted rt) (zh_bit ht)) (zh_andn hth (zh_bit ht)) lk)]
  congr 2
  refine fb_ct_cong (fun x hx => ?_)
  unfold gLb
  refine blv_cong (fun x hx => ?_) (fun u x hu hx => ?_) 40 x hx
  · rw [bhas_g7' h rt hr hx]
    have := gRt_th h (t := x)
    by_cases e : x = t <;> cases hz : gRt g x <;> simp_all
  · rw [bhas_g6' h lk hl hu hx]
    have := gLk_th h (u := u) (t := x) hu
    by_cases e : x = t <;> cases hz : gLk g u x <;> simp_all
theorem c_dist_37 {g : Nat → Nat → Nat} {W : Nat → Bool} (h : gok W g) (lk : Nat → Int32) (hl : ∀ j, j < 160 → lk j = bno (g 6 j)) (m : Int64) (S : Nat → Bool) (hm : zh m S) (x : Int32) (K : Int64 → Int32 → Int32) : ∀ (k i : Nat) (m2 : Int64), i + k = 40 → zh m2 (fun t => S t || bex (fun u => decide (u < i) && S u && gLk g u t) 40 0) →
    ∃ m3, zh m3 (fun t => S t || bex (fun u => S u && gLk g u t) 40 0) ∧ mX0_distance_37 lk m x K k i m2 = K m3 (x + 1) := by
  intro k
  induction k with
  | zero =>
    intro i m2 hi h2
    refine ⟨m2, zh_cong h2 (fun t _ => ?_), rfl⟩
    congr 1
    refine bex_cong (fun u _ hu => ?_)
    rw [decide_eq_true (show u < i by omega), Bool.true_and]
  | succ k ih =>
    intro i m2 hi h2
    have step : ∀ (q : Nat → Bool) (m4 : Int64), zh m4 q → (∀ t, t < 40 → q t = ((S t || bex (fun u => decide (u < i) && S u && gLk g u t) 40 0) || (S i && gLk g i t))) → ∃ m3, zh m3 (fun t => S t || bex (fun u => S u && gLk g u t) 40 0) ∧ mX0_distance_37 lk m x K k (i + 1) m4 = K m3 (x + 1) := by
      intro q m4 h4 hq
      refine ih (i + 1) m4 (by omega) (zh_cong h4 (fun t ht => ?_))
      rw [hq t ht, Bool.or_assoc]
      congr 1
      rw [Bool.eq_iff_iff, Bool.or_eq_true, bexI, bexI]
      constructor
      · rintro (⟨u, a, b⟩ | b)
        · simp only [Bool.and_eq_true, decide_eq_true_eq] at b
          exact ⟨u, a, by simp only [Bool.and_eq_true, decide_eq_true_eq]; exact ⟨⟨by omega, b.1.2⟩, b.2⟩⟩
        · simp only [Bool.and_eq_true] at b
          exact ⟨i, by omega, by simp only [Bool.and_eq_true, decide_eq_true_eq]; exact ⟨⟨by omega, b.1⟩, b.2⟩⟩
      · rintro ⟨u, a, b⟩
        simp only [Bool.and_eq_true, decide_eq_true_eq] at b
        by_cases e : u = i
        · subst e; right; simp only [Bool.and_eq_true]; exact ⟨b.1.2, b.2⟩
        · left; exact ⟨u, a, by simp only [Bool.and_eq_true, decide_eq_true_eq]; exact ⟨⟨by omega, b.1.2⟩, b.2⟩⟩
    rw [mX0_distance_37, zh_in hm (show i < 40 by omega)]
    by_cases h1 : S i = true
    · rw [if_pos h1]
      refine step _ _ (zh_or h2 (s_linkedFrom i (by omega) lk)) (fun t ht => ?_)
      rw [bhas_g6' h lk hl (by omega) ht, h1, Bool.true_and]
    · rw [if_neg h1]
      refine step _ _ (zh_or h2 zh_0) (fun t ht => ?_)
      rw [Bool.eq_false_iff.mpr h1, Bool.false_and]
theorem c_dist_16 {g : Nat → Nat → Nat} {W : Nat → Bool} (h : gok W g) (lk : Nat → Int32) (hl : ∀ j, j < 160 → lk j = bno (g 6 j)) (t : Nat) (ht : t < 40) : ∀ (k i : Nat) (m : Int64), i + k = 40 → zh m (blv (gRt g) (gLk g) i) → (∀ n, n < i → blv (gRt g) (gLk g) n t = false) →
    (∃ d, mX0_distance_16 (nI t) lk k i m (nI i) = nI d ∧ d ≤ 40 ∧ blv (gRt g) (gLk g) d t = true ∧ ∀ n, n < d → blv (gRt g) (gLk g) n t = false) ∨ (mX0_distance_16 (nI t) lk k i m (nI i) = -1 ∧ gL g t = false) := by
  intro k
  induction k with
  | zero =>
    intro i m hi hm hn
    rw [mX0_distance_16, mX0_distance_86, zh_in hm ht]
    cases hz : blv (gRt g) (gLk g) i t with
    | true => exact Or.inl ⟨i, rfl, by omega, hz, hn⟩
    | false =>
      right
      refine ⟨rfl, ?_⟩
      unfold gL
      rw [show 40 = i by omega]
      exact hz
  | succ k ih =>
    intro i m hi hm hn
    rw [mX0_distance_16, mX0_distance_86, zh_in hm ht]
    cases hz : blv (gRt g) (gLk g) i t with
    | true => exact Or.inl ⟨i, rfl, by omega, hz, hn⟩
    | false =>
      rw [if_neg (by decide)]
      obtain ⟨m3, a, b⟩ := c_dist_37 h lk hl m _ hm (nI i) (fun zx2_16 zx4_16 => mX0_distance_16 (nI t) lk k (i + 1) zx2_16 zx4_16) 40 0 m rfl (zh_cong hm (fun x _ => by
        have : bex (fun u => decide (u < 0) && blv (gRt g) (gLk g) i u && gLk g u x) 40 0 = false := by
          rw [Bool.eq_false_iff]
          intro q
          obtain ⟨u, _, c⟩ := (bexI _ _).mp q
          simp at c
        rw [this, Bool.or_false]))
      rw [b, nI_1]
      refine ih (i + 1) m3 (by omega) a (fun n hn2 => ?_)
      by_cases e : n = i
      · subst e; exact hz
      · exact hn n (by omega)
theorem c_far {W : Nat → Bool} {g : Nat → Nat → Nat} (h : gok W g) {th : Int64} (hth : zh th W) (lk rt : Nat → Int32) (hl : ∀ j, j < 160 → lk j = bno (g 6 j)) (hr : ∀ k, k < 8 → rt k = bno (g 7 k)) (t : Nat) (ht : t < 40) (af aq : Nat → Int32) (lkr rtr : Nat → Int32) (hlr : ∀ j, j < 160 → lkr j = bno (g 6 j)) (hrr : ∀ k, k < 8 → rtr k = bno (g 7 k)) :
    ∃ af' aq', mX12_lives 0 (-1) (-1) (-1) lkr rtr af aq = some (nI (fb_ct (gL g) 40), af', aq') ∧ mX0_distance (nI t) th lk rt = if af' t = 100000000 then -1 else af' t := by
  obtain ⟨af', aq', d, e, hd⟩ := z_lives lkr rtr h 0 (by decide) (fun j hj => by rw [show 160 * 0 + j = j by omega]; exact hlr j hj) (fun j hj => by rw [show 8 * 0 + j = j by omega]; exact hrr j hj) af aq
  refine ⟨af', aq', e, ?_⟩
  unfold mX0_distance
  have hm : zh (mX10_rooted rt &&& th) (blv (gRt g) (gLk g) 0) := zh_cong (zh_and (s_rooted rt) hth) (fun x hx => by
    rw [bhas_g7' h rt hr hx]; exact and_th (gRt_th h))
  have key := c_dist_16 h lk hl t ht 40 0 _ rfl hm (fun n hn => by omega)
  rw [show nI 0 = 0 from rfl] at key
  rcases key with ⟨k, a, b, c, f⟩ | ⟨a, b⟩
  · have hb := blv_mono (gRt g) (gLk g) t b c
    obtain ⟨p1, p2, p3, p4⟩ := (hd t ht).1 hb
    rw [a, p1, if_neg (nI_ne_far (by omega))]
    congr 1
    have q1 := p4 k c
    by_cases q2 : d t < k
    · have := f (d t) q2
      rw [p3] at this
      exact absurd this (by decide)
    · omega
  · have hz : ¬ blv (gRt g) (gLk g) 40 t = true := by
      unfold gL at b
      rw [b]; decide
    rw [a, (hd t ht).2 hz, if_pos rfl]
