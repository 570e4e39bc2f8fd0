theorem s_at (n i : Nat) (h : i < n) (hn : n < 2147483648) (a : Nat → Int32) : mX11_at n (nI i) a = a i := by
  unfold mX11_at
  rw [if_neg (zn0 (by omega)), if_pos (show nI i < Int32.ofNat n from nI_lt h (by omega)), zc i (by omega)]
theorem s_at_out (n : Nat) (x : Int32) (h : x < 0 ∨ ¬ x < nI n) (a : Nat → Int32) : mX11_at n x a = -1 := by
  unfold mX11_at
  by_cases h1 : x < 0
  · rw [if_pos h1]
  · rw [if_neg h1, if_neg (show ¬ _ < Int32.ofNat n from h.resolve_left h1)]
theorem s_put (n i : Nat) (h : i < n) (hn : n < 2147483648) (x : Int32) (a : Nat → Int32) : mX11_put n (nI i) x a = upd a i x := by
  unfold mX11_put
  rw [if_neg (zn0 (by omega)), if_pos (show nI i < Int32.ofNat n from nI_lt h (by omega)), zc i (by omega)]
theorem s_put_out (n : Nat) (y : Int32) (h : y < 0 ∨ ¬ y < nI n) (x : Int32) (a : Nat → Int32) : mX11_put n y x a = a := by
  unfold mX11_put
  by_cases h1 : y < 0
  · rw [if_pos h1]
  · rw [if_neg h1, if_neg (show ¬ _ < Int32.ofNat n from h.resolve_left h1)]
theorem s_maskAt (n i : Nat) (h : i < n) (hn : n < 2147483648) (a : Nat → Int64) : mX11_maskAt n (nI i) a = a i := by
  unfold mX11_maskAt
  rw [if_neg (zn0 (by omega)), if_pos (show nI i < Int32.ofNat n from nI_lt h (by omega)), zc i (by omega)]
theorem s_maskAt_out (n : Nat) (x : Int32) (h : x < 0 ∨ ¬ x < nI n) (a : Nat → Int64) : mX11_maskAt n x a = 0 := by
  unfold mX11_maskAt
  by_cases h1 : x < 0
  · rw [if_pos h1]
  · rw [if_neg h1, if_neg (show ¬ _ < Int32.ofNat n from h.resolve_left h1)]
theorem s_putMask (n i : Nat) (h : i < n) (hn : n < 2147483648) (x : Int64) (a : Nat → Int64) : mX11_putMask n (nI i) x a = vp_updL a i x := by
  unfold mX11_putMask
  rw [if_neg (zn0 (by omega)), if_pos (show nI i < Int32.ofNat n from nI_lt h (by omega)), zc i (by omega)]
theorem s_putMask_out (n : Nat) (y : Int32) (h : y < 0 ∨ ¬ y < nI n) (x : Int64) (a : Nat → Int64) : mX11_putMask n y x a = a := by
  unfold mX11_putMask
  by_cases h1 : y < 0
  · rw [if_pos h1]
  · rw [if_neg h1, if_neg (show ¬ _ < Int32.ofNat n from h.resolve_left h1)]
theorem zi_k (t k : Nat) : nI t * 4 + nI k = nI (4 * t + k) := by
  rw [show (4 : Int32) = nI 4 from rfl, pk_mul, nI_add, Nat.mul_comm]
theorem zh_bitx (x : Int32) : zh (mX11_bit x) (fun u => decide (x = nI u)) := by
  rcases zx40 x with h | ⟨t, ht, rfl⟩
  · rw [s_bit_out x h]
    refine zh_cong zh_0 (fun u hu => ?_)
    refine (decide_eq_false (fun e => ?_)).symm
    subst e
    rcases h with h | h
    · exact zn0 (by omega) h
    · exact h (zn40 hu)
  · refine zh_cong (zh_bit ht) (fun u hu => ?_)
    rw [decide_eq_decide, nI_eq (by omega) (by omega)]
    exact ⟨fun e => e.symm, fun e => e.symm⟩
theorem s_linkedFrom_5 (t : Nat) (ht : t < 40) (lk : Nat → Int32) : ∀ (k i : Nat) (m : Int64) (p : Nat → Bool), i + k = 4 → zh m p → zh (mX10_linkedFrom_5 (nI t) lk k i m) (fun u => p u || bex (fun r => decide (lk (4 * t + r) = nI u)) k i) := by
  intro k
  induction k with
  | zero =>
    intro i m p _ h
    rw [mX10_linkedFrom_5]
    exact zh_cong h (fun u _ => by simp [bex])
  | succ k ih =>
    intro i m p hi h
    rw [mX10_linkedFrom_5, zi_k, s_at 160 (4 * t + i) (by omega) (by decide)]
    refine zh_cong (ih (i + 1) _ _ (by omega) (zh_or h (zh_bitx (lk (4 * t + i))))) (fun u _ => ?_)
    rw [bex, Bool.or_assoc]
theorem s_linkedFrom (t : Nat) (ht : t < 40) (lk : Nat → Int32) : zh (mX10_linkedFrom (nI t) lk) (fun u => bhas (fun r => lk (4 * t + r)) 4 (nI u)) := by
  unfold mX10_linkedFrom
  exact zh_cong (s_linkedFrom_5 t ht lk 4 0 0 _ rfl zh_0) (fun u _ => Bool.false_or _)
theorem s_rooted_4 (rt : Nat → Int32) : ∀ (k i : Nat) (m : Int64) (p : Nat → Bool), i + k = 8 → zh m p → zh (mX10_rooted_4 rt k i m) (fun u => p u || bex (fun r => decide (rt r = nI u)) k i) := by
  intro k
  induction k with
  | zero =>
    intro i m p _ h
    rw [mX10_rooted_4]
    exact zh_cong h (fun u _ => by simp [bex])
  | succ k ih =>
    intro i m p hi h
    rw [mX10_rooted_4, zc i (by omega)]
    refine zh_cong (ih (i + 1) _ _ (by omega) (zh_or h (zh_bitx (rt i)))) (fun u _ => ?_)
    rw [bex, Bool.or_assoc]
theorem s_rooted (rt : Nat → Int32) : zh (mX10_rooted rt) (fun u => bhas rt 8 (nI u)) := by
  unfold mX10_rooted
  exact zh_cong (s_rooted_4 rt 8 0 0 _ rfl zh_0) (fun u _ => Bool.false_or _)
theorem s_riders_5 (τ : Int32) (sz tr : Nat → Int32) : ∀ (k i : Nat) (m : Int64), i + k = 40 → zh m (fun t => decide (t < i) && decide (0 < sz t ∧ tr t = τ)) → zh (mX10_riders_5 τ sz tr k i m) (fun t => decide (0 < sz t ∧ tr t = τ)) := by
  intro k
  induction k with
  | zero =>
    intro i m hi h
    rw [mX10_riders_5]
    exact zh_cong h (fun t ht => by rw [decide_eq_true (show t < i by omega), Bool.true_and])
  | succ k ih =>
    intro i m hi h
    have keep : ¬ (0 < sz i ∧ tr i = τ) → zh m (fun t => decide (t < i + 1) && decide (0 < sz t ∧ tr t = τ)) := by
      intro hn
      refine zh_cong h (fun t _ => ?_)
      by_cases e : t = i
      · subst e; rw [decide_eq_false hn, Bool.and_false, Bool.and_false]
      · congr 1; rw [decide_eq_decide]; omega
    rw [mX10_riders_5, zc i (by omega)]
    by_cases h1 : 0 < sz i
    · rw [if_pos h1]
      by_cases h2 : tr i = τ
      · rw [if_pos h2]
        refine ih (i + 1) _ (by omega) (zh_cong (zh_or h (zh_bit (by omega))) (fun t _ => ?_))
        by_cases e : t = i
        · subst e; simp [h1, h2]
        · rw [decide_eq_false e, Bool.or_false]; congr 1; rw [decide_eq_decide]; omega
      · rw [if_neg h2]; exact ih (i + 1) _ (by omega) (keep (fun q => h2 q.2))
    · rw [if_neg h1]; exact ih (i + 1) _ (by omega) (keep (fun q => h1 q.1))
theorem s_riders (τ : Int32) (sz tr : Nat → Int32) : zh (mX10_riders τ sz tr) (fun t => decide (0 < sz t ∧ tr t = τ)) :=
  s_riders_5 τ sz tr 40 0 0 rfl (zh_cong zh_0 (fun t _ => by simp))
theorem s_riders2_5 (τ c : Int32) (sz tr ca : Nat → Int32) : ∀ (k i : Nat) (m : Int64), i + k = 40 → zh m (fun t => decide (t < i) && decide (0 < sz t ∧ tr t = τ ∧ ca t = c)) → zh (mX10_riders__5 τ c sz tr ca k i m) (fun t => decide (0 < sz t ∧ tr t = τ ∧ ca t = c)) := by
  intro k
  induction k with
  | zero =>
    intro i m hi h
    rw [mX10_riders__5]
    exact zh_cong h (fun t ht => by rw [decide_eq_true (show t < i by omega), Bool.true_and])
  | succ k ih =>
    intro i m hi h
    have keep : ¬ (0 < sz i ∧ tr i = τ ∧ ca i = c) → zh m (fun t => decide (t < i + 1) && decide (0 < sz t ∧ tr t = τ ∧ ca t = c)) := by
      intro hn
      refine zh_cong h (fun t _ => ?_)
      by_cases e : t = i
      · subst e; rw [decide_eq_false hn, Bool.and_false, Bool.and_false]
      · congr 1; rw [decide_eq_decide]; omega
    rw [mX10_riders__5, zc i (by omega)]
    by_cases h1 : 0 < sz i
    · rw [if_pos h1]
      by_cases h2 : tr i = τ
      · rw [if_pos h2]
        by_cases h3 : ca i = c
        · rw [if_pos h3]
          refine ih (i + 1) _ (by omega) (zh_cong (zh_or h (zh_bit (by omega))) (fun t _ => ?_))
          by_cases e : t = i
          · subst e; simp [h1, h2, h3]
          · rw [decide_eq_false e, Bool.or_false]; congr 1; rw [decide_eq_decide]; omega
        · rw [if_neg h3]; exact ih (i + 1) _ (by omega) (keep (fun q => h3 q.2.2))
      · rw [if_neg h2]; exact ih (i + 1) _ (by omega) (keep (fun q => h2 q.2.1))
    · rw [if_neg h1]; exact ih (i + 1) _ (by omega) (keep (fun q => h1 q.1))
theorem s_riders2 (τ c : Int32) (sz tr ca : Nat → Int32) : zh (mX10_riders_ τ c sz tr ca) (fun t => decide (0 < sz t ∧ tr t = τ ∧ ca t = c)) :=
  s_riders2_5 τ c sz tr ca 40 0 0 rfl (zh_cong zh_0 (fun t _ => by simp))
theorem s_mates (t : Nat) (ht : t < 40) (sz tr ca : Nat → Int32) : zh (mX10_mates (nI t) sz tr ca) (fun u => decide (0 < sz u ∧ tr u = tr t ∧ ca u = ca t)) := by
  unfold mX10_mates
  rw [s_at 40 t ht (by decide), s_at 40 t ht (by decide)]
  exact s_riders2 _ _ sz tr ca
theorem s_load_5 (m : Int64) (p : Nat → Bool) (h : zh m p) (sz : Nat → Int32) (s : Nat → Nat) (hs : ∀ t, t < 40 → sz t = nI (s t)) : ∀ (k i : Nat), i + k = 40 → mX10_load_5 m sz k i (nI (fb_sm (fun t => if p t = true then s t else 0) i)) = nI (fb_sm (fun t => if p t = true then s t else 0) 40) := by
  intro k
  induction k with
  | zero => intro i hi; rw [show i = 40 by omega]; rfl
  | succ k ih =>
    intro i hi
    have ihi := ih (i + 1) (by omega)
    rw [fb_sm_succ] at ihi
    rw [mX10_load_5, zh_in h (show i < 40 by omega), zc i (by omega)]
    by_cases h1 : p i = true
    · rw [if_pos h1, hs i (by omega), nI_add]; rw [if_pos h1] at ihi; exact ihi
    · rw [if_neg h1, Int32.add_zero]; rw [if_neg h1] at ihi; exact ihi
theorem s_load (m : Int64) (p : Nat → Bool) (h : zh m p) (sz : Nat → Int32) (s : Nat → Nat) (hs : ∀ t, t < 40 → sz t = nI (s t)) : mX10_load m sz = nI (fb_sm (fun t => if p t = true then s t else 0) 40) :=
  s_load_5 m p h sz s hs 40 0 rfl
theorem fb_ct_del (p : Nat → Bool) {t : Nat} (ht : t < 40) (hp : p t = true) : fb_ct (fun u => p u && decide (u ≠ t)) 40 + 1 = fb_ct p 40 := by
  have := fb_ct_upd p false (i := t) (n := 40) ht
  rw [if_pos hp] at this
  have e : fb_ct (fun k => if k = t then false else p k) 40 = fb_ct (fun u => p u && decide (u ≠ t)) 40 := by
    refine fb_ct_cong (fun k _ => ?_)
    by_cases q : k = t
    · simp [q]
    · simp [q]
  rw [e] at this
  simpa using this
theorem fb_sm_del (p : Nat → Bool) (c : Nat → Nat) {t : Nat} (ht : t < 40) (hp : p t = true) : fb_sm (fun u => if (p u && decide (u ≠ t)) = true then c u else 0) 40 + c t = fb_sm (fun u => if p u = true then c u else 0) 40 := by
  have := fb_sm_upd (fun u => if p u = true then c u else 0) 0 (i := t) (n := 40) ht
  simp only [if_pos hp, Nat.add_zero] at this
  have e : fb_sm (fun k => if k = t then 0 else if p k = true then c k else 0) 40 = fb_sm (fun u => if (p u && decide (u ≠ t)) = true then c u else 0) 40 := by
    refine fb_sm_cong (fun k _ => ?_)
    by_cases q : k = t
    · simp [q]
    · simp [q]
  rw [e] at this
  exact this
theorem s_refs_94 (t : Int32) (lk : Nat → Int32) (m : Int64) (u : Nat) (hu : u < 40) (hm : mX11_lowest m = nI u) (K : Int32 → Int64 → Int32) (x : Nat) : ∀ (k i : Nat), i + k = 4 → mX10_refs_94 t lk m K k i (nI (x + fb_ct (fun r => decide (lk (4 * u + r) = t)) i)) = K (nI (x + fb_ct (fun r => decide (lk (4 * u + r) = t)) 4)) (m &&& (m - 1)) := by
  intro k
  induction k with
  | zero => intro i h; rw [show i = 4 by omega]; rfl
  | succ k ih =>
    intro i h
    have ihi := ih (i + 1) (by omega)
    rw [fb_ct_succ] at ihi
    rw [mX10_refs_94, hm, zi_k, s_at 160 _ (by omega) (by decide)]
    by_cases h1 : lk (4 * u + i) = t
    · rw [if_pos h1, nI_1]; rw [if_pos (decide_eq_true h1)] at ihi; exact ihi
    · rw [if_neg h1, Int32.add_zero]; rw [if_neg (by simpa using h1)] at ihi; exact ihi
theorem s_refs_59 (t : Int32) (lk : Nat → Int32) : ∀ (k i x : Nat) (m : Int64) (p : Nat → Bool), zh m p → fb_ct p 40 ≤ k → mX10_refs_59 t lk k i (nI x) m = nI (x + fb_sm (fun u => if p u = true then fb_ct (fun r => decide (lk (4 * u + r) = t)) 4 else 0) 40) := by
  intro k
  induction k with
  | zero =>
    intro i x m p h hk
    have e : fb_sm (fun u => if p u = true then fb_ct (fun r => decide (lk (4 * u + r) = t)) 4 else 0) 40 = 0 := by
      have z := fb_ct_zero.mp (show fb_ct p 40 = 0 by omega)
      rw [fb_sm_cong (g := fun _ => 0) (fun u hu => by simp [z u hu]), fb_sm_const]
    rw [e]
    rfl
  | succ k ih =>
    intro i x m p h hk
    rw [mX10_refs_59]
    by_cases h0 : m = 0
    · rw [if_pos h0]
      have z := (zh_eq0 h).mp h0
      rw [fb_sm_cong (g := fun _ => 0) (fun u hu => by simp [z u hu]), fb_sm_const]
      rfl
    · rw [if_neg h0]
      obtain ⟨u, hu, hp, _, hl, hz⟩ := zh_low h h0
      have a := s_refs_94 t lk m u hu hl (fun zx4_59 zx5_59 => mX10_refs_59 t lk k (i + 1) zx4_59 zx5_59) x 4 0 rfl
      have b := ih (i + 1) (x + fb_ct (fun r => decide (lk (4 * u + r) = t)) 4) _ _ hz (by have := fb_ct_del p hu hp; omega)
      have c := fb_sm_del p (fun u => fb_ct (fun r => decide (lk (4 * u + r) = t)) 4) hu hp
      refine a.trans (b.trans ?_)
      congr 1
      omega
theorem s_refs_6 (t : Nat) (ht : t < 40) (m : Int64) (q : Nat → Bool) (hm : zh m q) (lk rt : Nat → Int32) (fr : Nat → Int64) (f : Nat → Bool) (hf : zh (fr t) f) : ∀ (k i : Nat), i + k = 8 → mX10_refs_6 (nI t) m lk rt fr k i (nI (fb_ct (fun r => decide (rt r = nI t)) i)) = nI (fb_ct (fun r => decide (rt r = nI t)) 8 + fb_sm (fun u => if (f u && !q u) = true then fb_ct (fun r => decide (lk (4 * u + r) = nI t)) 4 else 0) 40) := by
  intro k
  induction k with
  | zero =>
    intro i h
    rw [show i = 8 by omega, mX10_refs_6, s_maskAt 40 t ht (by decide)]
    exact s_refs_59 (nI t) lk 40 0 _ _ _ (zh_andn hf hm) (fb_ct_le _ _)
  | succ k ih =>
    intro i h
    have ihi := ih (i + 1) (by omega)
    rw [fb_ct_succ] at ihi
    rw [mX10_refs_6, zc i (by omega)]
    by_cases h1 : rt i = nI t
    · rw [if_pos h1, nI_1]; rw [if_pos (decide_eq_true h1)] at ihi; exact ihi
    · rw [if_neg h1, Int32.add_zero]; rw [if_neg (by simpa using h1)] at ihi; exact ihi
theorem s_refs (t : Nat) (ht : t < 40) (m : Int64) (q : Nat → Bool) (hm : zh m q) (lk rt : Nat → Int32) (fr : Nat → Int64) (f : Nat → Bool) (hf : zh (fr t) f) : mX10_refs (nI t) m lk rt fr = nI (fb_ct (fun r => decide (rt r = nI t)) 8 + fb_sm (fun u => if (f u && !q u) = true then fb_ct (fun r => decide (lk (4 * u + r) = nI t)) 4 else 0) 40) :=
  s_refs_6 t ht m q hm lk rt fr f hf 8 0 rfl
theorem s_refsInto_5 (m : Int64) (q : Nat → Bool) (hm : zh m q) (lk rt : Nat → Int32) (fr : Nat → Int64) (n : Nat → Nat) (hn : ∀ t, t < 40 → q t = true → mX10_refs (nI t) m lk rt fr = nI (n t)) : ∀ (k i : Nat), i + k = 40 → mX10_refsInto_5 m lk rt fr k i (nI (fb_sm (fun t => if q t = true then n t else 0) i)) = nI (fb_sm (fun t => if q t = true then n t else 0) 40) := by
  intro k
  induction k with
  | zero => intro i hi; rw [show i = 40 by omega]; rfl
  | succ k ih =>
    intro i hi
    have ihi := ih (i + 1) (by omega)
    rw [fb_sm_succ] at ihi
    rw [mX10_refsInto_5, zh_in hm (show i < 40 by omega)]
    by_cases h1 : q i = true
    · rw [if_pos h1, hn i (by omega) h1, nI_add]; rw [if_pos h1] at ihi; exact ihi
    · rw [if_neg h1, Int32.add_zero]; rw [if_neg h1] at ihi; exact ihi
theorem s_refsInto (m : Int64) (q : Nat → Bool) (hm : zh m q) (lk rt : Nat → Int32) (fr : Nat → Int64) (n : Nat → Nat) (hn : ∀ t, t < 40 → q t = true → mX10_refs (nI t) m lk rt fr = nI (n t)) : mX10_refsInto m lk rt fr = nI (fb_sm (fun t => if q t = true then n t else 0) 40) :=
  s_refsInto_5 m q hm lk rt fr n hn 40 0 rfl
/-- what is closed holds all that is reached -/
theorem blv_in (R : Nat → Bool) (E : Nat → Nat → Bool) (S : Nat → Bool) (h1 : ∀ t, t < 40 → R t = true → S t = true) (h2 : ∀ u t, u < 40 → t < 40 → S u = true → E u t = true → S t = true) : ∀ n t, t < 40 → blv R E n t = true → S t = true := by
  intro n
  induction n with
  | zero => exact h1
  | succ n ih =>
    intro t ht h
    rcases (blv_succ R E n t).mp h with h | ⟨u, hu, hb, he⟩
    · exact ih t ht h
    · exact h2 u t hu ht (ih u hu hb) he
theorem blv_cong {R R' : Nat → Bool} {E E' : Nat → Nat → Bool} (h1 : ∀ t, t < 40 → R t = R' t) (h2 : ∀ u t, u < 40 → t < 40 → E u t = E' u t) : ∀ n t, t < 40 → blv R E n t = blv R' E' n t := by
  intro n
  induction n with
  | zero => exact h1
  | succ n ih =>
    intro t ht
    rw [Bool.eq_iff_iff, blv_succ, blv_succ, ih t ht]
    constructor
    · rintro (h | ⟨u, a, b, c⟩)
      · exact Or.inl h
      · exact Or.inr ⟨u, a, by rw [← ih u a]; exact b, by rw [← h2 u t a ht]; exact c⟩
    · rintro (h | ⟨u, a, b, c⟩)
      · exact Or.inl h
      · exact Or.inr ⟨u, a, by rw [ih u a]; exact b, by rw [h2 u t a ht]; exact c⟩
theorem blv_stop (R : Nat → Bool) (E : Nat → Nat → Bool) : ∀ n t, t < 40 → blv R E n t = true → blv R E 40 t = true := by
  have mono : ∀ n, fb_ct (blv R E n) 40 ≤ fb_ct (blv R E (n + 1)) 40 := fun n => fb_ct_sub (fun t _ h => blv_mono R E t (Nat.le_succ n) h)
  have ex : ∃ n, n < 41 ∧ fb_ct (blv R E n) 40 = fb_ct (blv R E (n + 1)) 40 := by
    refine Classical.byContradiction (fun q => ?_)
    have grow : ∀ n, n ≤ 41 → n ≤ fb_ct (blv R E n) 40 := by
      intro n
      induction n with
      | zero => intro _; exact Nat.zero_le _
      | succ n ih =>
        intro hn
        have a := ih (by omega)
        have b := mono n
        have c : fb_ct (blv R E n) 40 ≠ fb_ct (blv R E (n + 1)) 40 := fun e => q ⟨n, by omega, e⟩
        omega
    have := grow 41 (Nat.le_refl _)
    have := fb_ct_le (blv R E 41) 40
    omega
  obtain ⟨n, hn, e⟩ := ex
  have same : ∀ t, t < 40 → blv R E (n + 1) t = true → blv R E n t = true := by
    intro t ht h
    refine Classical.byContradiction (fun q => ?_)
    have d := fb_ct_del (blv R E (n + 1)) ht h
    have s : fb_ct (blv R E n) 40 ≤ fb_ct (fun u => blv R E (n + 1) u && decide (u ≠ t)) 40 := by
      refine fb_ct_sub (fun u hu hb => ?_)
      have : u ≠ t := fun z => q (z ▸ hb)
      rw [blv_mono R E u (Nat.le_succ n) hb, decide_eq_true this]; rfl
    omega
  intro k t ht h
  have := blv_in R E (blv R E n) (fun t _ h => blv_mono R E t (Nat.zero_le _) (m := n) (n := 0) h) (fun u t hu ht h he => same t ht ((blv_succ R E n t).mpr (Or.inr ⟨u, hu, h, he⟩))) k t ht h
  exact blv_mono R E t (by omega) this
theorem s_reach_12 (w : Int64) (W : Nat → Bool) (hw : zh w W) (lk : Nat → Int32) (R : Nat → Bool) : ∀ (k i : Nat) (m r : Int64) (S P : Nat → Bool), zh m S → zh r P → (∀ t, t < 40 → P t = true → S t = true) → (∀ t, t < 40 → R t = true → S t = true) →
    (∀ t, t < 40 → S t = true → blv R (fun u t => bhas (fun r => lk (4 * u + r)) 4 (nI t) && W t) 40 t = true) →
    (∀ u t, u < 40 → t < 40 → S u = true → P u = false → (bhas (fun r => lk (4 * u + r)) 4 (nI t) && W t) = true → S t = true) → 40 + fb_ct P 40 ≤ k + fb_ct S 40 →
    zh (mX10_reach_12 w lk k i m r) (blv R (fun u t => bhas (fun r => lk (4 * u + r)) 4 (nI t) && W t) 40) := by
  intro k
  induction k with
  | zero =>
    intro i m r S P hm hr h1 h2 h3 h4 h5
    rw [mX10_reach_12]
    have a := fb_ct_le S 40
    have z := fb_ct_zero.mp (show fb_ct P 40 = 0 by omega)
    refine zh_cong hm (fun t ht => ?_)
    rw [Bool.eq_iff_iff]
    exact ⟨h3 t ht, blv_in R _ S h2 (fun u t hu ht hs he => h4 u t hu ht hs (z u hu) he) 40 t ht⟩
  | succ k ih =>
    intro i m r S P hm hr h1 h2 h3 h4 h5
    rw [mX10_reach_12]
    by_cases h0 : r = 0
    · rw [if_pos h0]
      have z := (zh_eq0 hr).mp h0
      refine zh_cong hm (fun t ht => ?_)
      rw [Bool.eq_iff_iff]
      exact ⟨h3 t ht, blv_in R _ S h2 (fun u t hu ht hs he => h4 u t hu ht hs (z u hu) he) 40 t ht⟩
    · rw [if_neg h0]
      obtain ⟨u, hu, hp, _, hl, hz⟩ := zh_low hr h0
      rw [hl]
      have hF := zh_andn (zh_and (s_linkedFrom u hu lk) hw) hm
      have hSu := h1 u hu hp
      refine ih (i + 1) _ _ _ _ (zh_or hm hF) (zh_or hz hF) (fun t ht h => ?_) (fun t ht h => ?_) (fun t ht h => ?_) (fun x t hx ht hs hq he => ?_) ?_
      · rw [Bool.or_eq_true] at h ⊢
        rcases h with h | h
        · rw [Bool.and_eq_true] at h; exact Or.inl (h1 t ht h.1)
        · exact Or.inr h
      · rw [h2 t ht h]; rfl
      · rw [Bool.or_eq_true] at h
        rcases h with h | h
        · exact h3 t ht h
        · rw [Bool.and_eq_true] at h
          exact blv_stop R _ 41 t ht ((blv_succ R _ 40 t).mpr (Or.inr ⟨u, hu, h3 u hu hSu, h.1⟩))
      · rw [Bool.or_eq_false_iff] at hq
        rw [Bool.or_eq_true] at hs ⊢
        have hxS : S x = true := by
          rcases hs with hs | hs
          · exact hs
          · rw [hq.2] at hs; exact absurd hs (by decide)
        by_cases ex : x = u
        · subst ex
          by_cases hSt : S t = true
          · exact Or.inl hSt
          · right
            rw [he, Bool.eq_false_iff.mpr hSt]; rfl
        · left
          refine h4 x t hx ht hxS ?_ he
          have := hq.1
          rw [decide_eq_true (show x ≠ u from ex), Bool.and_true] at this
          exact this
      · -- what is counted
        have e1 := fb_ct_del P hu hp
        have e2 : fb_ct (fun t => S t || (bhas (fun r => lk (4 * u + r)) 4 (nI t) && W t && !S t)) 40 = fb_ct S 40 + fb_ct (fun t => bhas (fun r => lk (4 * u + r)) 4 (nI t) && W t && !S t) 40 := by
          refine fb_ct_or (fun t _ h => ?_)
          have h2 := h.2
          rw [h.1, Bool.not_true, Bool.and_false] at h2
          exact absurd h2 (by decide)
        have e3 : fb_ct (fun t => (P t && decide (t ≠ u)) || (bhas (fun r => lk (4 * u + r)) 4 (nI t) && W t && !S t)) 40 = fb_ct (fun t => P t && decide (t ≠ u)) 40 + fb_ct (fun t => bhas (fun r => lk (4 * u + r)) 4 (nI t) && W t && !S t) 40 := by
          refine fb_ct_or (fun t ht h => ?_)
          have h2 := h.2
          have h1' := h.1
          rw [Bool.and_eq_true] at h1'
          rw [h1 t ht h1'.1, Bool.not_true, Bool.and_false] at h2
          exact absurd h2 (by decide)
        omega
theorem s_reach (a w : Int64) (A W : Nat → Bool) (ha : zh a A) (hw : zh w W) (lk : Nat → Int32) : zh (mX10_reach a w lk) (blv (fun t => A t && W t) (fun u t => bhas (fun r => lk (4 * u + r)) 4 (nI t) && W t) 40) := by
  unfold mX10_reach
  have h := zh_and ha hw
  refine s_reach_12 w W hw lk (fun t => A t && W t) 40 0 _ _ _ _ h h (fun t _ h => h) (fun t _ h => h) (fun t ht h => blv_mono _ _ t (Nat.zero_le 40) (n := 0) h) (fun u t _ _ hs hp _ => ?_) (Nat.le_refl _)
  rw [hs] at hp
  exact absurd hp (by decide)
