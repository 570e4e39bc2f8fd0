section ZL
theorem s_isThere (v : Nat) (hv : v < 22) (sz : Nat → Int32) (t : Nat) (ht : t < 40) : mX12_isThere (nI v) (nI t) sz = some (decide (0 < sz (40 * v + t))) := by
  unfold mX12_isThere
  rw [zb_t v t hv ht, zc_t v t hv ht]
  simp only [if_true]
  split <;> simp_all
theorem s_isIn (v : Nat) (hv : v < 22) (sz : Nat → Int32) (tr : Nat → Int32) (ca : Nat → Int32) (t : Nat) (ht : t < 40) (τ c : Int32) : mX12_isIn (nI v) (nI t) τ c sz tr ca = some (decide (0 < sz (40 * v + t) ∧ tr (40 * v + t) = τ ∧ ca (40 * v + t) = c)) := by
  unfold mX12_isIn
  rw [s_isThere v hv sz t ht, zb_t v t hv ht, zc_t v t hv ht]
  simp only [Option.bind_some, decide_eq_true_eq, if_true]
  by_cases h1 : 0 < sz (40 * v + t) <;> by_cases h2 : tr (40 * v + t) = τ <;> by_cases h3 : ca (40 * v + t) = c <;> simp [h1, h2, h3]
theorem s_isRooted_2 (v : Nat) (hv : v < 22) (rt : Nat → Int32) (t : Int32) : ∀ (k i : Nat), i + k = 8 → mX12_isRooted_2 (nI v) t rt k i = some (bex (fun r => decide (rt (8 * v + r) = t)) k i) := by
  intro k
  induction k with
  | zero => intro i _; rfl
  | succ k ih =>
    intro i h
    rw [mX12_isRooted_2, zb_r v i hv (by omega), zc_r v i hv (by omega), bex, ih (i + 1) (by omega)]
    simp only [if_true]
    by_cases h1 : rt (8 * v + i) = t <;> simp [h1]
theorem s_isRooted (v : Nat) (hv : v < 22) (rt : Nat → Int32) (t : Int32) : mX12_isRooted (nI v) t rt = some (bhas (fun r => rt (8 * v + r)) 8 t) := by
  unfold mX12_isRooted
  rw [s_isRooted_2 v hv rt t 8 0 rfl]
  rfl
theorem s_isLinked_3 (v : Nat) (hv : v < 22) (lk : Nat → Int32) (u : Nat) (hu : u < 40) (t : Int32) : ∀ (k i : Nat), i + k = 4 → mX12_isLinked_3 (nI v) (nI u) t lk k i = some (bex (fun r => decide (lk (4 * (40 * v + u) + r) = t)) k i) := by
  intro k
  induction k with
  | zero => intro i _; rfl
  | succ k ih =>
    intro i h
    rw [mX12_isLinked_3, zb_l v u i hv hu (by omega), zc_l v u i hv hu (by omega), bex, ih (i + 1) (by omega)]
    simp only [if_true]
    by_cases h1 : lk (4 * (40 * v + u) + i) = t <;> simp [h1]
theorem s_isLinked (v : Nat) (hv : v < 22) (lk : Nat → Int32) (u : Nat) (hu : u < 40) (t : Int32) : mX12_isLinked (nI v) (nI u) t lk = some (bhas (fun r => lk (4 * (40 * v + u) + r)) 4 t) := by
  unfold mX12_isLinked
  rw [s_isLinked_3 v hv lk u hu t 4 0 rfl]
  rfl
theorem s_trainsOf_4 (v : Nat) (hv : v < 22) (sz : Nat → Int32) (tr : Nat → Int32) (c : Nat → Nat) (hb : ∀ t, t < 40 → 0 < sz (40 * v + t) → tr (40 * v + t) = nI (c t) ∧ c t < 1000) : ∀ (k i : Nat), i + k = 40 → mX12_trainsOf_4 (nI v) sz tr k i (nI (bmx (fun t => decide (0 < sz (40 * v + t))) c i)) = some (nI (bmx (fun t => decide (0 < sz (40 * v + t))) c 40)) := by
  intro k
  induction k with
  | zero => intro i h; rw [show i = 40 by omega]; rfl
  | succ k ih =>
    intro i h
    have hi : i < 40 := by omega
    have hB : bmx (fun t => decide (0 < sz (40 * v + t))) c i ≤ 1000 := bmx_le (fun t ht hp => (hb t (by omega) (of_decide_eq_true hp)).2)
    have ihi := ih (i + 1) (by omega)
    rw [bmx_succ] at ihi
    rw [mX12_trainsOf_4, s_isThere v hv sz i hi, zb_t v i hv hi, zc_t v i hv hi]
    simp only [Option.bind_some, decide_eq_true_eq, if_true]
    by_cases h1 : 0 < sz (40 * v + i)
    · obtain ⟨e1, e2⟩ := hb i hi h1
      rw [if_pos h1, e1]
      rw [if_pos (decide_eq_true h1)] at ihi
      by_cases h2 : c i < bmx (fun t => decide (0 < sz (40 * v + t))) c i
      · rw [if_pos (nI_lt h2 (by omega))]
        rw [if_pos h2] at ihi
        exact ihi
      · rw [if_neg (nI_nlt (by omega) (by omega)), nI_1]
        rw [if_neg h2] at ihi
        exact ihi
    · rw [if_neg h1]
      rw [if_neg (by simp [h1])] at ihi
      exact ihi
theorem s_trainsOf (v : Nat) (hv : v < 22) (sz : Nat → Int32) (tr : Nat → Int32) (c : Nat → Nat) (hb : ∀ t, t < 40 → 0 < sz (40 * v + t) → tr (40 * v + t) = nI (c t) ∧ c t < 1000) : mX12_trainsOf (nI v) sz tr = some (nI (bmx (fun t => decide (0 < sz (40 * v + t))) c 40)) :=
  s_trainsOf_4 v hv sz tr c hb 40 0 rfl
theorem s_carsOf_5 (v : Nat) (hv : v < 22) (sz : Nat → Int32) (tr : Nat → Int32) (ca : Nat → Int32) (τ : Int32) (c : Nat → Nat) (hb : ∀ t, t < 40 → 0 < sz (40 * v + t) → tr (40 * v + t) = τ → ca (40 * v + t) = nI (c t) ∧ c t < 1000) : ∀ (k i : Nat), i + k = 40 → mX12_carsOf_5 (nI v) τ sz tr ca k i (nI (bmx (fun t => decide (0 < sz (40 * v + t) ∧ tr (40 * v + t) = τ)) c i)) = some (nI (bmx (fun t => decide (0 < sz (40 * v + t) ∧ tr (40 * v + t) = τ)) c 40)) := by
  intro k
  induction k with
  | zero => intro i h; rw [show i = 40 by omega]; rfl
  | succ k ih =>
    intro i h
    have hi : i < 40 := by omega
    have hB : bmx (fun t => decide (0 < sz (40 * v + t) ∧ tr (40 * v + t) = τ)) c i ≤ 1000 := bmx_le (fun t ht hp => (hb t (by omega) (of_decide_eq_true hp).1 (of_decide_eq_true hp).2).2)
    have ihi := ih (i + 1) (by omega)
    rw [bmx_succ] at ihi
    rw [mX12_carsOf_5, s_isThere v hv sz i hi, zb_t v i hv hi, zc_t v i hv hi]
    simp only [Option.bind_some, decide_eq_true_eq, if_true]
    by_cases h1 : 0 < sz (40 * v + i)
    · rw [if_pos h1]
      by_cases h3 : tr (40 * v + i) = τ
      · obtain ⟨e1, e2⟩ := hb i hi h1 h3
        rw [if_pos h3, e1]
        rw [if_pos (decide_eq_true ⟨h1, h3⟩)] at ihi
        by_cases h2 : c i < bmx (fun t => decide (0 < sz (40 * v + t) ∧ tr (40 * v + t) = τ)) c i
        · rw [if_pos (nI_lt h2 (by omega))]
          rw [if_pos h2] at ihi
          exact ihi
        · rw [if_neg (nI_nlt (by omega) (by omega)), nI_1]
          rw [if_neg h2] at ihi
          exact ihi
      · rw [if_neg h3]
        rw [if_neg (by simp [h3])] at ihi
        exact ihi
    · rw [if_neg h1]
      rw [if_neg (by simp [h1])] at ihi
      exact ihi
theorem s_carsOf (v : Nat) (hv : v < 22) (sz : Nat → Int32) (tr : Nat → Int32) (ca : Nat → Int32) (τ : Int32) (c : Nat → Nat) (hb : ∀ t, t < 40 → 0 < sz (40 * v + t) → tr (40 * v + t) = τ → ca (40 * v + t) = nI (c t) ∧ c t < 1000) : mX12_carsOf (nI v) τ sz tr ca = some (nI (bmx (fun t => decide (0 < sz (40 * v + t) ∧ tr (40 * v + t) = τ)) c 40)) :=
  s_carsOf_5 v hv sz tr ca τ c hb 40 0 rfl
theorem s_thingsIn_6 (v : Nat) (hv : v < 22) (sz : Nat → Int32) (tr : Nat → Int32) (ca : Nat → Int32) (τ c : Int32) : ∀ (k i : Nat), i + k = 40 → mX12_thingsIn_6 (nI v) τ c sz tr ca k i (nI (fb_ct (fun t => decide (0 < sz (40 * v + t) ∧ tr (40 * v + t) = τ ∧ ca (40 * v + t) = c)) i)) = some (nI (fb_ct (fun t => decide (0 < sz (40 * v + t) ∧ tr (40 * v + t) = τ ∧ ca (40 * v + t) = c)) 40)) := by
  intro k
  induction k with
  | zero => intro i h; rw [show i = 40 by omega]; rfl
  | succ k ih =>
    intro i h
    have hi : i < 40 := by omega
    have ihi := ih (i + 1) (by omega)
    rw [fb_ct_succ] at ihi
    rw [mX12_thingsIn_6, s_isIn v hv sz tr ca i hi]
    simp only [Option.bind_some]
    by_cases h1 : decide (0 < sz (40 * v + i) ∧ tr (40 * v + i) = τ ∧ ca (40 * v + i) = c) = true
    · rw [if_pos h1, nI_1]
      rw [if_pos h1] at ihi
      exact ihi
    · rw [if_neg h1, Int32.add_zero]
      rw [if_neg h1] at ihi
      exact ihi
theorem s_thingsIn (v : Nat) (hv : v < 22) (sz : Nat → Int32) (tr : Nat → Int32) (ca : Nat → Int32) (τ c : Int32) : mX12_thingsIn (nI v) τ c sz tr ca = some (nI (fb_ct (fun t => decide (0 < sz (40 * v + t) ∧ tr (40 * v + t) = τ ∧ ca (40 * v + t) = c)) 40)) :=
  s_thingsIn_6 v hv sz tr ca τ c 40 0 rfl
theorem s_unitsIn_6 (v : Nat) (hv : v < 22) (sz : Nat → Int32) (tr : Nat → Int32) (ca : Nat → Int32) (s : Nat → Nat) (hs : ∀ t, t < 40 → sz (40 * v + t) = nI (s t)) (τ c : Int32) : ∀ (k i : Nat), i + k = 40 → mX12_unitsIn_6 (nI v) τ c sz tr ca k i (nI (fb_sm (fun t => if 0 < sz (40 * v + t) ∧ tr (40 * v + t) = τ ∧ ca (40 * v + t) = c then s t else 0) i)) = some (nI (fb_sm (fun t => if 0 < sz (40 * v + t) ∧ tr (40 * v + t) = τ ∧ ca (40 * v + t) = c then s t else 0) 40)) := by
  intro k
  induction k with
  | zero => intro i h; rw [show i = 40 by omega]; rfl
  | succ k ih =>
    intro i h
    have hi : i < 40 := by omega
    have ihi := ih (i + 1) (by omega)
    rw [fb_sm_succ] at ihi
    rw [mX12_unitsIn_6, s_isIn v hv sz tr ca i hi, zb_t v i hv hi, zc_t v i hv hi]
    simp only [Option.bind_some, if_true]
    by_cases h1 : 0 < sz (40 * v + i) ∧ tr (40 * v + i) = τ ∧ ca (40 * v + i) = c
    · rw [if_pos (decide_eq_true h1), hs i hi, nI_add]
      rw [if_pos h1] at ihi
      exact ihi
    · rw [if_neg (by simpa using h1), Int32.add_zero]
      rw [if_neg h1] at ihi
      exact ihi
theorem s_unitsIn (v : Nat) (hv : v < 22) (sz : Nat → Int32) (tr : Nat → Int32) (ca : Nat → Int32) (s : Nat → Nat) (hs : ∀ t, t < 40 → sz (40 * v + t) = nI (s t)) (τ c : Int32) : mX12_unitsIn (nI v) τ c sz tr ca = some (nI (fb_sm (fun t => if 0 < sz (40 * v + t) ∧ tr (40 * v + t) = τ ∧ ca (40 * v + t) = c then s t else 0) 40)) :=
  s_unitsIn_6 v hv sz tr ca s hs τ c 40 0 rfl
theorem s_allCars_4 (v : Nat) (sz : Nat → Int32) (tr : Nat → Int32) (ca : Nat → Int32) (n : Nat) (C : Nat → Nat) (hn : mX12_trainsOf (nI v) sz tr = some (nI n)) (hC : ∀ τ, τ < n → mX12_carsOf (nI v) (nI τ) sz tr ca = some (nI (C τ))) (hn2 : n < 1000) : ∀ (m j f : Nat), j + m = n → m < f → mX12_allCars_4 (nI v) sz tr ca f (nI (fb_sm C j)) (nI j) = some (nI (fb_sm C n)) := by
  intro m
  induction m with
  | zero =>
    intro j f h hf
    obtain ⟨f, rfl⟩ : ∃ g, f = g + 1 := ⟨f - 1, by omega⟩
    rw [mX12_allCars_4, hn]
    simp only [Option.bind_some]
    rw [if_neg (nI_nlt (by omega) (by omega)), show j = n by omega]
  | succ m ih =>
    intro j f h hf
    obtain ⟨f, rfl⟩ : ∃ g, f = g + 1 := ⟨f - 1, by omega⟩
    rw [mX12_allCars_4, hn]
    simp only [Option.bind_some]
    rw [if_pos (nI_lt (by omega) (by omega)), hC j (by omega)]
    simp only [Option.bind_some]
    rw [nI_add, nI_1, ← fb_sm_succ]
    exact ih (j + 1) f (by omega) (by omega)
theorem s_allCars (v : Nat) (sz : Nat → Int32) (tr : Nat → Int32) (ca : Nat → Int32) (n : Nat) (C : Nat → Nat) (hn : mX12_trainsOf (nI v) sz tr = some (nI n)) (hC : ∀ τ, τ < n → mX12_carsOf (nI v) (nI τ) sz tr ca = some (nI (C τ))) (hn2 : n < 1000) : mX12_allCars (nI v) sz tr ca = some (nI (fb_sm C n)) := by
  unfold mX12_allCars
  have := s_allCars_4 v sz tr ca n C hn hC hn2 n 0 xfuel (by omega) (by unfold xfuel; omega)
  exact this
end ZL
