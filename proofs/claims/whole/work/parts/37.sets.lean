theorem zm_or (a b : Int64) (t : Nat) : zm (a ||| b) t = (zm a t || zm b t) := by
  unfold zm
  rw [Int64.toBitVec_or, BitVec.toNat_or, Nat.testBit_or]
theorem zm_and (a b : Int64) (t : Nat) : zm (a &&& b) t = (zm a t && zm b t) := by
  unfold zm
  rw [Int64.toBitVec_and, BitVec.toNat_and, Nat.testBit_and]
theorem zm_big (a : Int64) {t : Nat} (h : 64 ≤ t) : zm a t = false := by
  unfold zm
  exact Nat.testBit_lt_two_pow (Nat.lt_of_lt_of_le a.toBitVec.isLt (Nat.pow_le_pow_right (by decide) h))
theorem zm_not (a : Int64) (t : Nat) : zm (a ^^^ (-1)) t = (decide (t < 64) && !zm a t) := by
  have e : ((-1 : Int64)).toBitVec.toNat = 2 ^ 64 - 1 := by decide
  unfold zm
  rw [Int64.toBitVec_xor, BitVec.toNat_xor, Nat.testBit_xor, e, Nat.testBit_two_pow_sub_one]
  by_cases h : t < 64
  · simp [h]
  · have : a.toBitVec.toNat.testBit t = false := zm_big a (by omega)
    simp [h, this]
theorem zm_ext {a b : Int64} (h : ∀ t, zm a t = zm b t) : a = b := by
  apply Int64.toBitVec_inj.mp
  apply BitVec.eq_of_toNat_eq
  exact Nat.eq_of_testBit_eq h
theorem zm_0 (t : Nat) : zm 0 t = false := by
  show (0 : Nat).testBit t = false
  exact Nat.zero_testBit t
def zh (m : Int64) (p : Nat → Bool) : Prop := ∀ t, zm m t = (decide (t < 40) && p t)
theorem zh_cong {m : Int64} {p q : Nat → Bool} (h : zh m p) (e : ∀ t, t < 40 → p t = q t) : zh m q := by
  intro t
  rw [h t]
  by_cases ht : t < 40
  · rw [e t ht]
  · simp [ht]
theorem zh_ext {a b : Int64} {p q : Nat → Bool} (ha : zh a p) (hb : zh b q) (e : ∀ t, t < 40 → p t = q t) : a = b :=
  zm_ext (fun t => by rw [zh_cong ha e t, hb t])
theorem zh_at {m : Int64} {p : Nat → Bool} (h : zh m p) {t : Nat} (ht : t < 40) : zm m t = p t := by
  rw [h t]; simp [ht]
theorem zh_or {a b : Int64} {p q : Nat → Bool} (ha : zh a p) (hb : zh b q) : zh (a ||| b) (fun t => p t || q t) := by
  intro t
  rw [zm_or, ha t, hb t]
  by_cases ht : t < 40 <;> simp [ht]
theorem zh_and {a b : Int64} {p q : Nat → Bool} (ha : zh a p) (hb : zh b q) : zh (a &&& b) (fun t => p t && q t) := by
  intro t
  rw [zm_and, ha t, hb t]
  by_cases ht : t < 40 <;> simp [ht]
theorem zh_andn {a b : Int64} {p q : Nat → Bool} (ha : zh a p) (hb : zh b q) : zh (a &&& (b ^^^ (-1))) (fun t => p t && !q t) := by
  intro t
  rw [zm_and, zm_not, ha t, hb t]
  by_cases ht : t < 40
  · simp [ht, show t < 64 by omega]
  · simp [ht]
theorem zh_0 : zh 0 (fun _ => false) := by
  intro t
  rw [zm_0]; simp
theorem zh_eq0 {m : Int64} {p : Nat → Bool} (h : zh m p) : m = 0 ↔ ∀ t, t < 40 → p t = false := by
  constructor
  · rintro rfl t ht
    rw [← zh_at h ht, zm_0]
  · intro e
    exact zh_ext h zh_0 e
theorem fb_ct_false : ∀ (n : Nat), fb_ct (fun _ => false) n = 0
  | 0 => rfl
  | n + 1 => by rw [fb_ct_succ, fb_ct_false n]; rfl
theorem zh_cnt {m : Int64} {p : Nat → Bool} (h : zh m p) : mJ13_bitCount_95d88 m = nI (fb_ct p 40) := by
  rw [s_bitCount, show (64 : Nat) = 40 + 24 from rfl, fb_ct_split, fb_ct_cong (q := p) (fun t ht => zh_at h ht), fb_ct_cong (q := fun _ => false) (n := 24) (fun t ht => by rw [h, decide_eq_false (show ¬ 40 + t < 40 by omega), Bool.false_and]), fb_ct_false, Nat.add_zero]
theorem zn40 {n : Nat} (h : n < 40) : nI n < 40 := nI_lt (b := 40) h (by decide)
theorem zn0 {n : Nat} (h : n < 2147483648) : ¬ nI n < 0 := nI_pos (by omega)
theorem s_in (m : Int64) (t : Nat) (ht : t < 40) : mX11_in m (nI t) = zm m t := by
  unfold mX11_in
  rw [if_neg (zn0 (by omega)), if_pos (zn40 ht), wb_cu t (by omega)]
  have e := ts_bit (w := m) (s := UInt64.ofNat t) (j := t) (by omega) (by rw [UInt64.toNat_ofNat_of_lt']; show t < 18446744073709551616; omega)
  have e2 : m.toBitVec.getLsbD t = zm m t := rfl
  rw [e2] at e
  by_cases h : zm m t = false
  · rw [if_pos (e.mpr h), h]
  · rw [if_neg (fun q => h (e.mp q))]
    cases hz : zm m t with
    | false => exact absurd hz h
    | true => rfl
theorem zh_in {m : Int64} {p : Nat → Bool} (h : zh m p) {t : Nat} (ht : t < 40) : mX11_in m (nI t) = p t := by
  rw [s_in m t ht, zh_at h ht]
theorem s_in_out (m : Int64) (x : Int32) (h : x < 0 ∨ ¬ x < 40) : mX11_in m x = false := by
  unfold mX11_in
  by_cases h1 : x < 0
  · rw [if_pos h1]
  · rw [if_neg h1, if_neg (h.resolve_left h1)]
theorem zx40 (x : Int32) : (x < 0 ∨ ¬ x < 40) ∨ ∃ t, t < 40 ∧ x = nI t := by
  rcases pk_ix x (n := 40) (by decide) with h | h | h
  · exact Or.inl (Or.inl h)
  · refine Or.inl (Or.inr ?_)
    intro q
    exact Int32.lt_irrefl (Int32.lt_of_lt_of_le q h)
  · exact Or.inr h
theorem s_bit_out (x : Int32) (h : x < 0 ∨ ¬ x < 40) : mX11_bit x = 0 := by
  unfold mX11_bit
  by_cases h1 : x < 0
  · rw [if_pos h1]
  · rw [if_neg h1, if_neg (h.resolve_left h1)]
theorem zm_two (t u : Nat) (ht : t < 64) : zm (lN (2 ^ t)) u = decide (t = u) := by
  unfold zm
  rw [wb_tn (Nat.pow_lt_pow_right (by decide) ht), Nat.testBit_two_pow]
theorem s_bit (t : Nat) (ht : t < 40) : mX11_bit (nI t) = lN (2 ^ t) := by
  unfold mX11_bit
  rw [if_neg (zn0 (by omega)), if_pos (zn40 ht)]
  have := wb_shl 1 (k := t) (by omega)
  rw [Nat.one_mul] at this
  exact this
theorem zh_bit {t : Nat} (ht : t < 40) : zh (mX11_bit (nI t)) (fun u => decide (u = t)) := by
  intro u
  rw [s_bit t ht, zm_two t u (by omega)]
  by_cases h : u = t
  · subst h; simp [ht]
  · show _ = (decide (u < 40) && decide (u = t))
    rw [decide_eq_false (fun e : t = u => h e.symm), decide_eq_false h, Bool.and_false]
theorem zh_bitm : zh (mX11_bit (-1)) (fun _ => false) := by
  rw [s_bit_out (-1) (Or.inl (by decide))]
  exact zh_0
theorem s_dec (n t : Nat) (h1 : n.testBit t = true) (h2 : ∀ u, u < t → n.testBit u = false) (u : Nat) : 1 ≤ n ∧ (n - 1).testBit u = (decide (u < t) || (decide (u ≠ t) && n.testBit u)) := by
  have hp : 0 < 2 ^ t := Nat.two_pow_pos t
  have hm : n % 2 ^ (t + 1) = 2 ^ t := by
    apply Nat.eq_of_testBit_eq
    intro i
    rw [Nat.testBit_mod_two_pow, Nat.testBit_two_pow]
    rcases Nat.lt_trichotomy i t with h | h | h
    · rw [h2 i h]; simp [show ¬ t = i by omega]
    · subst h; rw [h1]; simp
    · simp [show ¬ i < t + 1 by omega, show ¬ t = i by omega]
  have hn : n = 2 ^ (t + 1) * (n / 2 ^ (t + 1)) + 2 ^ t := by
    have := Nat.div_add_mod n (2 ^ (t + 1))
    rw [hm] at this
    exact this.symm
  have e2 : 2 ^ t < 2 ^ (t + 1) := Nat.pow_lt_pow_right (by decide) (by omega)
  have hn1 : n - 1 = 2 ^ (t + 1) * (n / 2 ^ (t + 1)) + (2 ^ t - 1) := by omega
  refine ⟨by omega, ?_⟩
  rw [hn1, Nat.testBit_two_pow_mul_add _ (by omega)]
  have hu : n.testBit u = if u < t + 1 then (2 ^ t).testBit u else (n / 2 ^ (t + 1)).testBit (u - (t + 1)) := by
    have := Nat.testBit_two_pow_mul_add (n / 2 ^ (t + 1)) e2 u
    rw [← hn] at this
    exact this
  by_cases h : u < t + 1
  · rw [if_pos h, Nat.testBit_two_pow_sub_one]
    by_cases h3 : u < t
    · simp [h3]
    · have : u = t := by omega
      subst this
      simp
  · rw [if_neg h, hu, if_neg h]
    simp [show ¬ u < t by omega, show ¬ u = t by omega]
theorem zm_dec {m : Int64} {t : Nat} (h1 : zm m t = true) (h2 : ∀ u, u < t → zm m u = false) (u : Nat) : zm (m - 1) u = (decide (u < t) || (decide (u ≠ t) && zm m u)) := by
  obtain ⟨n, hn, rfl⟩ := wb_of m
  have e0 : ∀ t, zm (lN n) t = n.testBit t := by
    intro t
    unfold zm
    rw [wb_tn hn]
  have hd := s_dec n t (by rw [← e0]; exact h1) (fun u hu => by rw [← e0]; exact h2 u hu) u
  rw [e0, ← hd.2]
  have : lN n - 1 = lN (n - 1) := lN_sub (b := 1) hd.1
  rw [this]
  unfold zm
  rw [wb_tn (by omega)]
theorem zm_neg {m : Int64} {t : Nat} (h1 : zm m t = true) (h2 : ∀ u, u < t → zm m u = false) (u : Nat) : zm (m &&& (-m)) u = decide (u = t) := by
  obtain ⟨n, hn, rfl⟩ := wb_of m
  have e0 : ∀ t, zm (lN n) t = n.testBit t := by
    intro t
    unfold zm
    rw [wb_tn hn]
  have hd := s_dec n t (by rw [← e0]; exact h1) (fun u hu => by rw [← e0]; exact h2 u hu) u
  have en : (-(lN n)).toBitVec.toNat = 2 ^ 64 - (n - 1 + 1) := by
    rw [Int64.toBitVec_neg, BitVec.toNat_neg, wb_tn hn, Nat.mod_eq_of_lt (by omega)]
    omega
  rw [zm_and, e0]
  have : zm (-(lN n)) u = (decide (u < 64) && !(n - 1).testBit u) := by
    unfold zm
    rw [en, Nat.testBit_two_pow_sub_succ (by omega)]
  rw [this, hd.2]
  by_cases hu : u < t
  · have z := h2 u hu
    rw [e0] at z
    simp [z, show ¬ u = t by omega]
  · by_cases e : u = t
    · subst e
      rw [e0] at h1
      have : u < 64 := by
        rcases Nat.lt_or_ge u 64 with q | q
        · exact q
        · have := zm_big (lN n) q
          rw [e0, h1] at this
          exact absurd this (by decide)
      simp [h1, this]
    · cases hz : n.testBit u <;> simp [e, hu]
theorem fb_ct_lt (t : Nat) : ∀ (n : Nat), t ≤ n → fb_ct (fun u => decide (u < t)) n = t := by
  intro n h
  obtain ⟨d, rfl⟩ : ∃ d, n = t + d := ⟨n - t, by omega⟩
  rw [fb_ct_split, fb_ct_all.mpr (fun k hk => decide_eq_true hk), fb_ct_cong (q := fun _ => false) (fun k _ => decide_eq_false (by omega)), fb_ct_false, Nat.add_zero]
theorem zh_low {m : Int64} {p : Nat → Bool} (h : zh m p) (h0 : ¬ m = 0) : ∃ t, t < 40 ∧ p t = true ∧ (∀ u, u < t → p u = false) ∧ mX11_lowest m = nI t ∧ zh (m &&& (m - 1)) (fun u => p u && decide (u ≠ t)) := by
  have hex : ∃ t, t < 40 ∧ p t = true := by
    refine Classical.byContradiction (fun q => h0 ((zh_eq0 h).mpr (fun t ht => ?_)))
    cases hz : p t with
    | false => rfl
    | true => exact absurd ⟨t, ht, hz⟩ q
  obtain ⟨t, ht, hp, hl⟩ := fb_first hex
  have h1 : zm m t = true := by rw [zh_at h ht]; exact hp
  have h2 : ∀ u, u < t → zm m u = false := by
    intro u hu
    rw [zh_at h (by omega)]
    exact Bool.eq_false_iff.mpr (hl u hu)
  refine ⟨t, ht, hp, fun u hu => Bool.eq_false_iff.mpr (hl u hu), ?_, ?_⟩
  · unfold mX11_lowest
    rw [s_bitCount]
    congr 1
    have hn := zm_neg h1 h2
    have hd := zm_dec (m := m &&& (-m)) (t := t) (by rw [hn]; simp) (fun u hu => by rw [hn]; simp; omega)
    rw [fb_ct_cong (q := fun u => decide (u < t)) (fun u _ => ?_), fb_ct_lt t 64 (by omega)]
    rw [hd, hn]
    by_cases e : u = t <;> simp [e]
  · intro u
    rw [zm_and, zm_dec h1 h2, h u]
    by_cases hu : u < 40
    · by_cases e : u = t
      · simp [e]
      · by_cases e2 : u < t
        · simp [hu, e, Bool.eq_false_iff.mpr (hl u e2)]
        · show _ = (decide (u < 40) && (p u && decide (u ≠ t)))
          rw [decide_eq_true hu, decide_eq_false e2, decide_eq_true (show u ≠ t from e)]
          cases p u <;> rfl
    · simp [hu]
theorem zh_ne {m : Int64} {p : Nat → Bool} (h : zh m p) : ¬ m = 0 ↔ ∃ t, t < 40 ∧ p t = true := by
  constructor
  · intro q
    obtain ⟨t, ht, hp, _⟩ := zh_low h q
    exact ⟨t, ht, hp⟩
  · rintro ⟨t, ht, hp⟩ q
    have := (zh_eq0 h).mp q t ht
    rw [hp] at this
    exact absurd this (by decide)
