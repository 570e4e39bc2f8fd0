theorem zi_t (v t : Nat) : (40 : Int32) * nI v + nI t = nI (40 * v + t) := by
  rw [show (40 : Int32) = nI 40 from rfl, pk_mul, nI_add]
theorem zi_l (v t k : Nat) : (4 : Int32) * (40 * nI v + nI t) + nI k = nI (4 * (40 * v + t) + k) := by
  rw [zi_t, show (4 : Int32) = nI 4 from rfl, pk_mul, nI_add]
theorem zi_r (v k : Nat) : (8 : Int32) * nI v + nI k = nI (8 * v + k) := by
  rw [show (8 : Int32) = nI 8 from rfl, pk_mul, nI_add]
theorem zb (n N : Nat) (h : n < N) (hN : N < 2147483648) : xinb (nI n) N = true := by
  have e : (nI n).toInt = (n : Int) := nI_toInt (by omega)
  simp only [xinb, e, Bool.and_eq_true, decide_eq_true_eq]
  omega
theorem zc (n : Nat) (h : n < 2147483648) : (nI n).toNatClampNeg = n := nI_clamp (by omega)
theorem zb_t (v t : Nat) (hv : v < 22) (ht : t < 40) : xinb ((40 : Int32) * nI v + nI t) 880 = true := by
  rw [zi_t]; exact zb _ _ (by omega) (by decide)
theorem zc_t (v t : Nat) (hv : v < 22) (ht : t < 40) : ((40 : Int32) * nI v + nI t).toNatClampNeg = 40 * v + t := by
  rw [zi_t]; exact zc _ (by omega)
theorem zb_l (v t k : Nat) (hv : v < 22) (ht : t < 40) (hk : k < 4) : xinb ((4 : Int32) * (40 * nI v + nI t) + nI k) 3520 = true := by
  rw [zi_l]; exact zb _ _ (by omega) (by decide)
theorem zc_l (v t k : Nat) (hv : v < 22) (ht : t < 40) (hk : k < 4) : ((4 : Int32) * (40 * nI v + nI t) + nI k).toNatClampNeg = 4 * (40 * v + t) + k := by
  rw [zi_l]; exact zc _ (by omega)
theorem zb_r (v k : Nat) (hv : v < 22) (hk : k < 8) : xinb ((8 : Int32) * nI v + nI k) 176 = true := by
  rw [zi_r]; exact zb _ _ (by omega) (by decide)
theorem zc_r (v k : Nat) (hv : v < 22) (hk : k < 8) : ((8 : Int32) * nI v + nI k).toNatClampNeg = 8 * v + k := by
  rw [zi_r]; exact zc _ (by omega)
/-- the greatest of c over p below n, and one more; 0 if there is none -/
def bmx (p : Nat → Bool) (c : Nat → Nat) : Nat → Nat
  | 0 => 0
  | n + 1 => if p n then (if c n < bmx p c n then bmx p c n else c n + 1) else bmx p c n
theorem bmx_succ (p : Nat → Bool) (c : Nat → Nat) (n : Nat) : bmx p c (n + 1) = if p n then (if c n < bmx p c n then bmx p c n else c n + 1) else bmx p c n := rfl
theorem bmx_lt {p : Nat → Bool} {c : Nat → Nat} : ∀ {n t : Nat}, t < n → p t = true → c t < bmx p c n := by
  intro n
  induction n with
  | zero => intro t h; omega
  | succ n ih =>
    intro t ht hp
    rw [bmx_succ]
    by_cases e : t = n
    · subst e
      rw [if_pos hp]
      split <;> omega
    · have := ih (show t < n by omega) hp
      split
      · split <;> omega
      · exact this
theorem bmx_le {p : Nat → Bool} {c : Nat → Nat} {B : Nat} : ∀ {n : Nat}, (∀ t, t < n → p t = true → c t < B) → bmx p c n ≤ B := by
  intro n
  induction n with
  | zero => intro _; exact Nat.zero_le _
  | succ n ih =>
    intro h
    have h1 := ih (fun t ht hp => h t (by omega) hp)
    rw [bmx_succ]
    split
    · rename_i hp
      have := h n (by omega) hp
      split <;> omega
    · exact h1
theorem bmx_at {p : Nat → Bool} {c : Nat → Nat} : ∀ {n : Nat}, 0 < bmx p c n → ∃ t, t < n ∧ p t = true ∧ c t + 1 = bmx p c n := by
  intro n
  induction n with
  | zero => intro h; exact absurd h (Nat.lt_irrefl 0)
  | succ n ih =>
    rw [bmx_succ]
    intro h
    split at h
    · rename_i hp
      rw [if_pos hp]
      split at h
      · rename_i hc
        obtain ⟨t, h1, h2, h3⟩ := ih h
        rw [if_pos hc]
        exact ⟨t, by omega, h2, h3⟩
      · rename_i hc
        rw [if_neg hc]
        exact ⟨n, by omega, hp, rfl⟩
    · rename_i hp
      obtain ⟨t, h1, h2, h3⟩ := ih h
      rw [if_neg hp]
      exact ⟨t, by omega, h2, h3⟩
theorem bmx_eq {p : Nat → Bool} {c : Nat → Nat} {n m : Nat} (h1 : ∀ t, t < n → p t = true → c t < m) (h2 : 0 < m → ∃ t, t < n ∧ p t = true ∧ c t + 1 = m) : bmx p c n = m := by
  have a := bmx_le h1
  rcases Nat.eq_zero_or_pos m with h | h
  · omega
  · obtain ⟨t, ht, hp, e⟩ := h2 h
    have := bmx_lt (c := c) ht hp
    omega
theorem bmx_cong {p q : Nat → Bool} {c d : Nat → Nat} : ∀ {n : Nat}, (∀ t, t < n → p t = q t) → (∀ t, t < n → q t = true → c t = d t) → bmx p c n = bmx q d n := by
  intro n
  induction n with
  | zero => intro _ _; rfl
  | succ n ih =>
    intro h1 h2
    rw [bmx_succ, bmx_succ, h1 n (by omega), ih (fun t ht => h1 t (by omega)) (fun t ht => h2 t (by omega))]
    by_cases hq : q n = true
    · rw [h2 n (by omega) hq]
    · rw [if_neg hq, if_neg hq]
/-- there is one from i on, among k -/
def bex (p : Nat → Bool) : Nat → Nat → Bool
  | 0, _ => false
  | k + 1, i => p i || bex p k (i + 1)
theorem bex_iff (p : Nat → Bool) : ∀ (k i : Nat), bex p k i = true ↔ ∃ t, i ≤ t ∧ t < i + k ∧ p t = true := by
  intro k
  induction k with
  | zero => intro i; constructor
            · intro h; exact absurd h (by simp [bex])
            · rintro ⟨t, h1, h2, _⟩; omega
  | succ k ih =>
    intro i
    rw [bex, Bool.or_eq_true, ih (i + 1)]
    constructor
    · rintro (h | ⟨t, h1, h2, h3⟩)
      · exact ⟨i, by omega, by omega, h⟩
      · exact ⟨t, by omega, by omega, h3⟩
    · rintro ⟨t, h1, h2, h3⟩
      by_cases e : t = i
      · exact Or.inl (e ▸ h3)
      · exact Or.inr ⟨t, by omega, by omega, h3⟩
theorem bex0 (p : Nat → Bool) (n : Nat) : bex p n 0 = decide (∃ t, t < n ∧ p t = true) := by
  rw [Bool.eq_iff_iff, bex_iff, decide_eq_true_iff]
  constructor
  · rintro ⟨t, _, h2, h3⟩; exact ⟨t, by omega, h3⟩
  · rintro ⟨t, h2, h3⟩; exact ⟨t, by omega, by omega, h3⟩
/-- none or the number -/
def bno (o : Nat) : Int32 := if o = 0 then -1 else nI (o - 1)
theorem bno0 : bno 0 = -1 := rfl
theorem bnoS (n : Nat) : bno (n + 1) = nI n := by simp [bno]
theorem nI_m1 {n : Nat} (h : n < 2147483648) : ¬ nI n = -1 := by
  intro e
  have := congrArg Int32.toInt e
  rw [nI_toInt (by omega)] at this
  have e2 : (-1 : Int32).toInt = -1 := by decide
  omega
theorem bno_eq {a b : Nat} (ha : a < 1000) (hb : b < 1000) : bno a = bno b ↔ a = b := by
  cases a with
  | zero =>
    cases b with
    | zero => simp
    | succ b => rw [bno0, bnoS]; constructor
                · intro e; exact absurd e.symm (nI_m1 (by omega))
                · intro e; omega
  | succ a =>
    cases b with
    | zero => rw [bno0, bnoS]; constructor
              · intro e; exact absurd e (nI_m1 (by omega))
              · intro e; omega
    | succ b => rw [bnoS, bnoS, nI_eq (by omega) (by omega)]; omega
theorem bno_nI {a b : Nat} (ha : a < 1000) (hb : b < 999) : bno a = nI b ↔ a = b + 1 := by
  rw [← bnoS, bno_eq ha (by omega)]
theorem bexI (p : Nat → Bool) (n : Nat) : bex p n 0 = true ↔ ∃ t, t < n ∧ p t = true := by
  rw [bex_iff]
  constructor
  · rintro ⟨t, _, h2, h3⟩; exact ⟨t, by omega, h3⟩
  · rintro ⟨t, h2, h3⟩; exact ⟨t, by omega, by omega, h3⟩
def bhas (f : Nat → Int32) (n : Nat) (x : Int32) : Bool := bex (fun r => decide (f r = x)) n 0
theorem bhasI (f : Nat → Int32) (n : Nat) (x : Int32) : bhas f n x = true ↔ ∃ r, r < n ∧ f r = x := by
  unfold bhas
  rw [bexI]
  constructor
  · rintro ⟨r, h, e⟩; exact ⟨r, h, of_decide_eq_true e⟩
  · rintro ⟨r, h, e⟩; exact ⟨r, h, decide_eq_true e⟩
