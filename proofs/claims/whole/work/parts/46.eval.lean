def ecl (s v : Nat) : Int32 := if s = 0 then nI v else if s = 30 then 1 else if s ≤ 4 then -nI s else if s ≤ 7 then -nI (s - 3) else -nI (s - 21)
def kT (a : Int32) : Prop := a = 0 ∨ a = 1
theorem kT_B {a : Int32} (h : kT a) : kB a := by
  rcases h with h | h <;> subst h <;> exact ⟨by decide, by decide⟩
theorem kT_if (c : Prop) [Decidable c] : kT (if c then 1 else 0) := by
  by_cases h : c
  · rw [if_pos h]; exact Or.inr rfl
  · rw [if_neg h]; exact Or.inl rfl
theorem k64_if (c : Prop) [Decidable c] : (if c then some (1 : Int64) else some 0) = some (if c then (1 : Int32) else 0).toInt64 := by
  by_cases h : c
  · rw [if_pos h, if_pos h]; rfl
  · rw [if_neg h, if_neg h]; rfl
theorem k_two {a b : Int32} (ha : kB a) (hb : kB b) : ∀ s, 31 ≤ s → s ≤ 42 → (s ≤ 40 ∨ (kT a ∧ kT b)) → mX12_two (nI s) a.toInt64 b.toInt64 = some (mX9_joined (ecl s 0) a b).toInt64 ∧ kB (mX9_joined (ecl s 0) a b) ∧ (38 ≤ s → kT (mX9_joined (ecl s 0) a b)) := by
  intro s h1 h2 ht
  have z0 : (0 : Int32).toInt64 = 0 := by decide
  have hz : b.toInt64 = 0 ↔ b = 0 := by rw [← z0, fa_wide_eq]
  have cases12 : s = 31 ∨ s = 32 ∨ s = 33 ∨ s = 34 ∨ s = 35 ∨ s = 36 ∨ s = 37 ∨ s = 38 ∨ s = 39 ∨ s = 40 ∨ s = 41 ∨ s = 42 := by omega
  rcases cases12 with e | e | e | e | e | e | e | e | e | e | e | e <;> subst e
  · have ej : mX9_joined (ecl 31 0) a b = mX9_bounded (a.toInt64 + b.toInt64) := by
      rw [show ecl 31 0 = -10 by decide]; unfold mX9_joined; repeat rw [if_neg (by decide)]
      rw [if_pos rfl]
    have et : mX12_two (nI 31) a.toInt64 b.toInt64 = some (mX12_within (a.toInt64 + b.toInt64)) := by
      unfold mX12_two; repeat rw [if_neg (by decide)]
      rw [if_pos (by decide)]
    have k := k_bw (k_add ha hb)
    rw [ej, et, k.1]
    exact ⟨rfl, k.2, fun q => absurd q (by decide)⟩
  · have ej : mX9_joined (ecl 32 0) a b = mX9_bounded (a.toInt64 - b.toInt64) := by
      rw [show ecl 32 0 = -11 by decide]; unfold mX9_joined; repeat rw [if_neg (by decide)]
      rw [if_pos rfl]
    have et : mX12_two (nI 32) a.toInt64 b.toInt64 = some (mX12_within (a.toInt64 - b.toInt64)) := by
      unfold mX12_two; repeat rw [if_neg (by decide)]
      rw [if_pos (by decide)]
    have k := k_bw (k_sub ha hb)
    rw [ej, et, k.1]
    exact ⟨rfl, k.2, fun q => absurd q (by decide)⟩
  · have ej : mX9_joined (ecl 33 0) a b = mX9_bounded (a.toInt64 * b.toInt64) := by
      rw [show ecl 33 0 = -12 by decide]; unfold mX9_joined; repeat rw [if_neg (by decide)]
      rw [if_pos rfl]
    have et : mX12_two (nI 33) a.toInt64 b.toInt64 = some (mX12_within (a.toInt64 * b.toInt64)) := by
      unfold mX12_two; repeat rw [if_neg (by decide)]
      rw [if_pos (by decide)]
    have k := k_bw (k_mul64 ha hb).1
    rw [ej, et, k.1]
    exact ⟨rfl, k.2, fun q => absurd q (by decide)⟩
  · have ej : mX9_joined (ecl 34 0) a b = if b = 0 then 0 else mJ9_floorDiv_7cf53 a b := by
      rw [show ecl 34 0 = -13 by decide]; unfold mX9_joined; repeat rw [if_neg (by decide)]
      rw [if_pos rfl]
    have et : mX12_two (nI 34) a.toInt64 b.toInt64 = (mX12_floor a.toInt64 b.toInt64).bind (fun q8 => some (mX12_within q8)) := by
      unfold mX12_two; repeat rw [if_neg (by decide)]
      rw [if_pos (by decide)]
    rw [ej, et]
    by_cases h0 : b = 0
    · rw [if_pos h0]
      unfold mX12_floor
      rw [if_pos (hz.mpr h0), obind]
      exact ⟨by decide, kT_B (Or.inl rfl), fun q => absurd q (by decide)⟩
    · rw [if_neg h0]
      obtain ⟨q, e1, e2⟩ := k_floor ha hb h0
      obtain ⟨f1, f2, _⟩ := kF_b (k_ne0 h0) ha hb
      have e3 := k_floorDiv ha h0
      have e4 : (mX12_within q).toInt = (mJ9_floorDiv_7cf53 a b).toInt := by rw [k_within e2, kC_id f1 f2, e3]
      rw [e1, obind, k_eq e4]
      exact ⟨rfl, ⟨by rw [e3]; exact f1, by rw [e3]; exact f2⟩, fun q => absurd q (by decide)⟩
  · have ej : mX9_joined (ecl 35 0) a b = if b = 0 then 0 else mJ9_floorMod_7cf53 a b := by
      rw [show ecl 35 0 = -14 by decide]; unfold mX9_joined; repeat rw [if_neg (by decide)]
      rw [if_pos rfl]
    have et : mX12_two (nI 35) a.toInt64 b.toInt64 = if b.toInt64 = 0 then some 0 else (mX12_floor a.toInt64 b.toInt64).bind (fun q12 => some (mX12_within (a.toInt64 - (b.toInt64 * q12)))) := by
      unfold mX12_two; repeat rw [if_neg (by decide)]
      rw [if_pos (by decide)]
    rw [ej, et]
    by_cases h0 : b = 0
    · rw [if_pos h0, if_pos (hz.mpr h0)]
      exact ⟨by decide, kT_B (Or.inl rfl), fun q => absurd q (by decide)⟩
    · rw [if_neg h0, if_neg (fun q => h0 (hz.mp q))]
      obtain ⟨q, e1, e2⟩ := k_floor ha hb h0
      obtain ⟨f1, f2, f3, f4, _⟩ := kF_b (k_ne0 h0) ha hb
      have e3 := k_floorMod ha hb h0
      have km := k_mul b.toInt (kF a.toInt b.toInt) 1000000 hb ⟨f1, f2⟩
      have e5 : (b.toInt64 * q).toInt = b.toInt * kF a.toInt b.toInt := by rw [Int64.toInt_mul, k_w, e2, k_bm64 (by omega) (by omega)]
      have e6 : (a.toInt64 - b.toInt64 * q).toInt = a.toInt - b.toInt * kF a.toInt b.toInt := by rw [Int64.toInt_sub, k_w, e5, k_bm64 (by omega) (by omega)]
      have e4 : (mX12_within (a.toInt64 - b.toInt64 * q)).toInt = (mJ9_floorMod_7cf53 a b).toInt := by rw [k_within e6, kC_id f3 f4, e3]
      rw [e1, obind, k_eq e4]
      exact ⟨rfl, ⟨by rw [e3]; exact f3, by rw [e3]; exact f4⟩, fun q => absurd q (by decide)⟩
  · have ej : mX9_joined (ecl 36 0) a b = if a < b then a else b := by
      rw [show ecl 36 0 = -15 by decide]; unfold mX9_joined; repeat rw [if_neg (by decide)]
      rw [if_pos rfl]
    have et : mX12_two (nI 36) a.toInt64 b.toInt64 = if a.toInt64 < b.toInt64 then some a.toInt64 else some b.toInt64 := by
      unfold mX12_two; repeat rw [if_neg (by decide)]
      rw [if_pos (by decide)]
    rw [ej, et]
    by_cases h0 : a < b
    · rw [if_pos h0, if_pos ((fa_wide_lt a b).mpr h0)]; exact ⟨rfl, ha, fun q => absurd q (by decide)⟩
    · rw [if_neg h0, if_neg (fun q => h0 ((fa_wide_lt a b).mp q))]; exact ⟨rfl, hb, fun q => absurd q (by decide)⟩
  · have ej : mX9_joined (ecl 37 0) a b = if b < a then a else b := by
      rw [show ecl 37 0 = -16 by decide]; unfold mX9_joined; repeat rw [if_neg (by decide)]
      rw [if_pos rfl]
    have et : mX12_two (nI 37) a.toInt64 b.toInt64 = if b.toInt64 < a.toInt64 then some a.toInt64 else some b.toInt64 := by
      unfold mX12_two; repeat rw [if_neg (by decide)]
      rw [if_pos (by decide)]
    rw [ej, et]
    by_cases h0 : b < a
    · rw [if_pos h0, if_pos ((fa_wide_lt b a).mpr h0)]; exact ⟨rfl, ha, fun q => absurd q (by decide)⟩
    · rw [if_neg h0, if_neg (fun q => h0 ((fa_wide_lt b a).mp q))]; exact ⟨rfl, hb, fun q => absurd q (by decide)⟩
  · have ej : mX9_joined (ecl 38 0) a b = if a < b then 1 else 0 := by
      rw [show ecl 38 0 = -17 by decide]; unfold mX9_joined; repeat rw [if_neg (by decide)]
      rw [if_pos rfl]
    have et : mX12_two (nI 38) a.toInt64 b.toInt64 = if a.toInt64 < b.toInt64 then some 1 else some 0 := by
      unfold mX12_two; repeat rw [if_neg (by decide)]
      rw [if_pos (by decide)]
    rw [ej, et]
    have := kT_if (a < b)
    refine ⟨?_, kT_B this, fun _ => this⟩
    rw [← k64_if (a < b)]
    by_cases h0 : a < b
    · rw [if_pos h0, if_pos ((fa_wide_lt a b).mpr h0)]
    · rw [if_neg h0, if_neg (fun q => h0 ((fa_wide_lt a b).mp q))]
  · have ej : mX9_joined (ecl 39 0) a b = if b < a then 1 else 0 := by
      rw [show ecl 39 0 = -18 by decide]; unfold mX9_joined; repeat rw [if_neg (by decide)]
      rw [if_pos rfl]
    have et : mX12_two (nI 39) a.toInt64 b.toInt64 = if b.toInt64 < a.toInt64 then some 1 else some 0 := by
      unfold mX12_two; repeat rw [if_neg (by decide)]
      rw [if_pos (by decide)]
    rw [ej, et]
    have := kT_if (b < a)
    refine ⟨?_, kT_B this, fun _ => this⟩
    rw [← k64_if (b < a)]
    by_cases h0 : b < a
    · rw [if_pos h0, if_pos ((fa_wide_lt b a).mpr h0)]
    · rw [if_neg h0, if_neg (fun q => h0 ((fa_wide_lt b a).mp q))]
  · have ej : mX9_joined (ecl 40 0) a b = if a = b then 1 else 0 := by
      rw [show ecl 40 0 = -19 by decide]; unfold mX9_joined; repeat rw [if_neg (by decide)]
      rw [if_pos rfl]
    have et : mX12_two (nI 40) a.toInt64 b.toInt64 = if a.toInt64 = b.toInt64 then some 1 else some 0 := by
      unfold mX12_two; repeat rw [if_neg (by decide)]
      rw [if_pos (by decide)]
    rw [ej, et]
    have := kT_if (a = b)
    refine ⟨?_, kT_B this, fun _ => this⟩
    rw [← k64_if (a = b)]
    by_cases h0 : a = b
    · rw [if_pos h0, if_pos ((fa_wide_eq a b).mpr h0)]
    · rw [if_neg h0, if_neg (fun q => h0 ((fa_wide_eq a b).mp q))]
  · have ej : mX9_joined (ecl 41 0) a b = a &&& b := by
      rw [show ecl 41 0 = -20 by decide]; unfold mX9_joined; repeat rw [if_neg (by decide)]
      rw [if_pos rfl]
    have et : mX12_two (nI 41) a.toInt64 b.toInt64 = some (a.toInt64 &&& b.toInt64) := by
      unfold mX12_two; repeat rw [if_neg (by decide)]
      rw [if_pos (by decide)]
    obtain ⟨ta, tb⟩ := ht.resolve_left (by decide)
    rw [ej, et, Int32.toInt64_and]
    have : kT (a &&& b) := by
      rcases ta with p | p <;> rcases tb with q | q <;> subst p <;> subst q
      · exact Or.inl (by decide)
      · exact Or.inl (by decide)
      · exact Or.inl (by decide)
      · exact Or.inr (by decide)
    exact ⟨rfl, kT_B this, fun _ => this⟩
  · have ej : mX9_joined (ecl 42 0) a b = a ||| b := by
      rw [show ecl 42 0 = -21 by decide]; unfold mX9_joined
      rw [if_pos rfl]
    have et : mX12_two (nI 42) a.toInt64 b.toInt64 = some (a.toInt64 ||| b.toInt64) := by
      unfold mX12_two; repeat rw [if_neg (by decide)]
    obtain ⟨ta, tb⟩ := ht.resolve_left (by decide)
    rw [ej, et, Int32.toInt64_or]
    have : kT (a ||| b) := by
      rcases ta with p | p <;> rcases tb with q | q <;> subst p <;> subst q
      · exact Or.inl (by decide)
      · exact Or.inr (by decide)
      · exact Or.inr (by decide)
      · exact Or.inr (by decide)
    exact ⟨rfl, kT_B this, fun _ => this⟩
def updB (T : Nat → Bool) (i : Nat) (b : Bool) : Nat → Bool := fun j => if j = i then b else T j
/-- one code does so to the kinds on the stack -/
def cst (s v d : Nat) (T : Nat → Bool) (d' : Nat) (T' : Nat → Bool) : Prop :=
  (s ≤ 7 ∧ (s = 0 → v < 10000) ∧ d' = d + 1 ∧ T' = updB T d false) ∨ (s = 30 ∧ d' = d + 1 ∧ T' = updB T d true) ∨
  (31 ≤ s ∧ s ≤ 40 ∧ 2 ≤ d ∧ d' = d - 1 ∧ T' = updB T (d - 2) (decide (38 ≤ s))) ∨
  ((s = 41 ∨ s = 42) ∧ 2 ≤ d ∧ T (d - 1) = true ∧ T (d - 2) = true ∧ d' = d - 1 ∧ T' = updB T (d - 2) true) ∨
  (s = 43 ∧ 1 ≤ d ∧ T (d - 1) = true ∧ d' = d ∧ T' = T) ∨
  (s = 44 ∧ 3 ≤ d ∧ T (d - 3) = true ∧ d' = d - 2 ∧ T' = updB T (d - 3) false)
def cok (S V : Nat → Nat) (N : Nat) (D : Nat → Nat) (T : Nat → Nat → Bool) : Prop := D 0 = 0 ∧ D N = 1 ∧ ∀ c, c < N → D (c + 1) ≤ 100 ∧ cst (S c) (V c) (D c) (T c) (D (c + 1)) (T (c + 1))
/-- the two stacks hold the same -/
def kS (d : Nat) (T : Nat → Bool) (cs : Nat → Int32) (rs : Nat → Int64) : Prop := ∀ j, j < d → rs j = (cs j).toInt64 ∧ kB (cs j) ∧ (T j = true → kT (cs j))
theorem kS_put {d : Nat} {T : Nat → Bool} {cs : Nat → Int32} {rs : Nat → Int64} (h : kS d T cs rs) {i : Nat} {x : Int32} {y : Int64} {b : Bool} (hy : y = x.toInt64) (hx : kB x) (ht : b = true → kT x) {d' : Nat} (hd : d' ≤ i + 1) (hid : i ≤ d) : kS d' (updB T i b) (upd cs i x) (vp_updL rs i y) := by
  intro j hj
  by_cases e : j = i
  · subst e
    rw [pk_us, pk_uLs]
    refine ⟨hy, hx, fun q => ht ?_⟩
    simpa [updB] using q
  · rw [pk_un e, pk_uLn e]
    obtain ⟨a, b, c⟩ := h j (by omega)
    refine ⟨a, b, fun q => c ?_⟩
    simpa [updB, e] using q
theorem p_push (x : Int32) (d : Nat) (hd : d < 128) (cs : Nat → Int32) : mX9_push x (nI d) cs = (nI (d + 1), upd cs d x) := by
  unfold mX9_push
  rw [if_pos (show nI d < 128 from nI_lt (b := 128) hd (by decide)), s_put 128 d hd (by decide), nI_1]
  rfl
theorem p_pop (d : Nat) (hd : d < 128) (cs : Nat → Int32) : mX9_pop (nI (d + 1)) cs = (cs d, nI d) := by
  unfold mX9_pop
  rw [if_pos (show 0 < nI (d + 1) from nI_lt (a := 0) (by omega) (by omega)), nI_pred, s_at 128 d hd (by decide)]
theorem ecl_0 (v : Nat) : ecl 0 v = nI v := rfl
theorem ecl_j (s v : Nat) (h : 31 ≤ s) : ecl s v = ecl s 0 := by
  unfold ecl
  simp only [if_neg (show ¬ s = 0 by omega)]
theorem ecl_big : ∀ s, 31 ≤ s → s ≤ 44 → ecl s 0 < 0 ∧ ¬ (-5) < ecl s 0 ∧ (ecl s 0 = -22 ↔ s = 43) ∧ (ecl s 0 = -23 ↔ s = 44) := by
  intro s h1 h2
  have : s = 31 ∨ s = 32 ∨ s = 33 ∨ s = 34 ∨ s = 35 ∨ s = 36 ∨ s = 37 ∨ s = 38 ∨ s = 39 ∨ s = 40 ∨ s = 41 ∨ s = 42 ∨ s = 43 ∨ s = 44 := by omega
  rcases this with e | e | e | e | e | e | e | e | e | e | e | e | e | e <;> subst e <;> decide
/-- where a fact stands in the class -/
def fxi (s : Nat) : Nat := if s ≤ 4 then s - 1 else s - 4
theorem ecl_fact : ∀ s v, 1 ≤ s → s ≤ 7 → ecl s v < 0 ∧ (-5) < ecl s v ∧ (-1) - ecl s v = nI (fxi s) ∧ fxi s < 4 := by
  intro s v h1 h2
  have e0 : ecl s v = ecl s 0 := by
    unfold ecl
    simp only [if_neg (show ¬ s = 0 by omega)]
  rw [e0]
  have : s = 1 ∨ s = 2 ∨ s = 3 ∨ s = 4 ∨ s = 5 ∨ s = 6 ∨ s = 7 := by omega
  rcases this with e | e | e | e | e | e | e <;> subst e <;> decide
