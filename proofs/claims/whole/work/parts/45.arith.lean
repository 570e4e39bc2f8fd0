theorem k_mul (A B : Int) (M : Nat) (ha : -(M : Int) ≤ A ∧ A ≤ M) (hb : -(M : Int) ≤ B ∧ B ≤ M) : -((M * M : Nat) : Int) ≤ A * B ∧ A * B ≤ ((M * M : Nat) : Int) := by
  have h1 : (A * B).natAbs ≤ M * M := by
    rw [Int.natAbs_mul]
    exact Nat.mul_le_mul (by omega) (by omega)
  omega
theorem k_bm32 {z : Int} (h1 : -2147483648 ≤ z) (h2 : z < 2147483648) : z.bmod (2 ^ 32) = z := fb_bmod h1 h2
theorem k_bm64 {z : Int} (h1 : -9223372036854775808 ≤ z) (h2 : z < 9223372036854775808) : z.bmod (2 ^ 64) = z :=
  Int.bmod_eq_of_le (by omega) (by omega)
def kB (a : Int32) : Prop := -1000000 ≤ a.toInt ∧ a.toInt ≤ 1000000
theorem k_w (a : Int32) : a.toInt64.toInt = a.toInt := Int32.toInt_toInt64 a
theorem k_eq {x : Int64} {y : Int32} (h : x.toInt = y.toInt) : x = y.toInt64 := Int64.toInt_inj.mp (by rw [h, k_w])
theorem k_add {a b : Int32} (ha : kB a) (hb : kB b) : (a.toInt64 + b.toInt64).toInt = a.toInt + b.toInt := by
  unfold kB at ha hb
  rw [Int64.toInt_add, k_w, k_w, k_bm64 (by omega) (by omega)]
theorem k_sub {a b : Int32} (ha : kB a) (hb : kB b) : (a.toInt64 - b.toInt64).toInt = a.toInt - b.toInt := by
  unfold kB at ha hb
  rw [Int64.toInt_sub, k_w, k_w, k_bm64 (by omega) (by omega)]
theorem k_mul64 {a b : Int32} (ha : kB a) (hb : kB b) : (a.toInt64 * b.toInt64).toInt = a.toInt * b.toInt ∧ -1000000000000 ≤ a.toInt * b.toInt ∧ a.toInt * b.toInt ≤ 1000000000000 := by
  have := k_mul a.toInt b.toInt 1000000 ha hb
  refine ⟨?_, by omega, by omega⟩
  rw [Int64.toInt_mul, k_w, k_w, k_bm64 (by omega) (by omega)]
/-- the bounds -/
def kC (z : Int) : Int := if 1000000 < z then 1000000 else if z < -1000000 then -1000000 else z
theorem kC_id {z : Int} (h1 : -1000000 ≤ z) (h2 : z ≤ 1000000) : kC z = z := by
  unfold kC
  rw [if_neg (by omega), if_neg (by omega)]
theorem kC_b (z : Int) : -1000000 ≤ kC z ∧ kC z ≤ 1000000 := by
  unfold kC
  split
  · omega
  · split <;> omega
theorem k_within {x : Int64} {z : Int} (h : x.toInt = z) : (mX12_within x).toInt = kC z := by
  have e1 : (1000000 : Int64).toInt = 1000000 := by decide
  have e2 : (-1000000 : Int64).toInt = -1000000 := by decide
  unfold mX12_within kC
  by_cases h1 : 1000000 < z
  · rw [if_pos ((fa_lt64 _ _).mpr (by rw [e1, h]; exact h1)), if_pos h1, e1]
  · rw [if_neg (fun q => h1 (by have := (fa_lt64 _ _).mp q; rw [e1, h] at this; exact this)), if_neg h1]
    by_cases h2 : z < -1000000
    · rw [if_pos ((fa_lt64 _ _).mpr (by rw [e2, h]; exact h2)), if_pos h2, e2]
    · rw [if_neg (fun q => h2 (by have := (fa_lt64 _ _).mp q; rw [e2, h] at this; exact this)), if_neg h2, h]
theorem k_bounded {x : Int64} {z : Int} (h : x.toInt = z) : (mX9_bounded x).toInt = kC z := by
  have e1 : (1000000 : Int64).toInt = 1000000 := by decide
  have e2 : (-1000000 : Int64).toInt = -1000000 := by decide
  unfold mX9_bounded kC
  by_cases h1 : 1000000 < z
  · rw [if_pos ((fa_lt64 _ _).mpr (by rw [e1, h]; exact h1)), if_pos h1]; decide
  · rw [if_neg (fun q => h1 (by have := (fa_lt64 _ _).mp q; rw [e1, h] at this; exact this)), if_neg h1]
    by_cases h2 : z < -1000000
    · rw [if_pos ((fa_lt64 _ _).mpr (by rw [e2, h]; exact h2)), if_pos h2]; decide
    · rw [if_neg (fun q => h2 (by have := (fa_lt64 _ _).mp q; rw [e2, h] at this; exact this)), if_neg h2, Int64.toInt_toInt32, h, k_bm32 (by omega) (by omega)]
theorem k_bw {x : Int64} {z : Int} (h : x.toInt = z) : mX12_within x = (mX9_bounded x).toInt64 ∧ kB (mX9_bounded x) := by
  refine ⟨k_eq (by rw [k_within h, k_bounded h]), ?_⟩
  unfold kB
  rw [k_bounded h]
  exact kC_b z
/-- the quotient cut, its remainder, the floor -/
theorem k_q (A B : Int) (hB : B ≠ 0) (ha : -1000000 ≤ A ∧ A ≤ 1000000) : -1000000 ≤ A.tdiv B ∧ A.tdiv B ≤ 1000000 ∧ -1000000 ≤ A.tdiv B * B ∧ A.tdiv B * B ≤ 1000000 ∧ (A - A.tdiv B * B ≠ 0 → -500000 ≤ A.tdiv B) := by
  have h1 : (A.tdiv B).natAbs = A.natAbs / B.natAbs := Int.natAbs_tdiv A B
  have h2 : (A.tdiv B * B).natAbs ≤ A.natAbs := by
    rw [Int.natAbs_mul, h1]
    exact Nat.div_mul_le_self _ _
  have h3 : A.natAbs / B.natAbs ≤ A.natAbs := Nat.div_le_self _ _
  refine ⟨by omega, by omega, by omega, by omega, fun hr => ?_⟩
  have hb2 : 2 ≤ B.natAbs := by
    refine Classical.byContradiction (fun no => hr ?_)
    have : B = 1 ∨ B = -1 := by omega
    rcases this with e | e
    · rw [e, Int.tdiv_one]; omega
    · rw [e, Int.tdiv_neg, Int.tdiv_one]; omega
  have h4 : A.natAbs / B.natAbs ≤ A.natAbs / 2 := Nat.div_le_div_left hb2 (by decide)
  omega
theorem k_rem (A B : Int) (hB : B ≠ 0) : (A - A.tdiv B * B).natAbs < B.natAbs ∧ (0 ≤ A → 0 ≤ A - A.tdiv B * B) ∧ (A ≤ 0 → A - A.tdiv B * B ≤ 0) := by
  have e : A - A.tdiv B * B = A.tmod B := by
    have := Int.mul_tdiv_add_tmod A B
    rw [Int.mul_comm] at this
    omega
  rw [e]
  refine ⟨?_, fun h => Int.tmod_nonneg B h, fun h => ?_⟩
  · rw [Int.natAbs_tmod]
    exact Nat.mod_lt _ (by omega)
  · have h2 := Int.tmod_nonneg B (a := -A) (by omega)
    rw [Int.neg_tmod] at h2
    omega
def kF (A B : Int) : Int := if A - A.tdiv B * B ≠ 0 ∧ ¬ (A < 0 ↔ B < 0) then A.tdiv B - 1 else A.tdiv B
theorem kF_b {A B : Int} (hB : B ≠ 0) (ha : -1000000 ≤ A ∧ A ≤ 1000000) (hb : -1000000 ≤ B ∧ B ≤ 1000000) : -1000000 ≤ kF A B ∧ kF A B ≤ 1000000 ∧ -1000000 ≤ A - B * kF A B ∧ A - B * kF A B ≤ 1000000 ∧ A - B * kF A B = (if A - A.tdiv B * B ≠ 0 ∧ ¬ (A < 0 ↔ B < 0) then A - A.tdiv B * B + B else A - A.tdiv B * B) := by
  obtain ⟨h1, h2, h3, h4, h5⟩ := k_q A B hB ha
  obtain ⟨r1, r2, r3⟩ := k_rem A B hB
  unfold kF
  by_cases c : A - A.tdiv B * B ≠ 0 ∧ ¬ (A < 0 ↔ B < 0)
  · rw [if_pos c, if_pos c]
    have e : B * (A.tdiv B - 1) = A.tdiv B * B - B := by rw [Int.mul_sub, Int.mul_comm, Int.mul_one]
    rw [e]
    have := h5 c.1
    refine ⟨by omega, by omega, by omega, by omega, by omega⟩
  · rw [if_neg c, if_neg c, Int.mul_comm]
    refine ⟨h1, h2, by omega, by omega, rfl⟩
theorem k_lt0 (a : Int32) : a < 0 ↔ a.toInt < 0 := by
  rw [fa_lt]
  exact Iff.rfl
theorem k_xor (a b : Int32) : a ^^^ b < 0 ↔ ¬ (a.toInt < 0 ↔ b.toInt < 0) := by
  rw [k_lt0]
  have e : ∀ x : Int32, (x.toInt < 0) ↔ x.toBitVec.msb = true := by
    intro x
    rw [BitVec.msb_eq_toInt, decide_eq_true_iff]
    exact Iff.rfl
  rw [e, e, e, Int32.toBitVec_xor, BitVec.msb_xor]
  cases a.toBitVec.msb <;> cases b.toBitVec.msb <;> simp
theorem k_ne0 {b : Int32} (h : ¬ b = 0) : b.toInt ≠ 0 := fun q => h ((fa_eq b 0).mpr q)
theorem k_div32 {a b : Int32} (ha : kB a) (h : ¬ b = 0) : (a / b).toInt = a.toInt.tdiv b.toInt ∧ (a / b * b).toInt = a.toInt.tdiv b.toInt * b.toInt ∧ (a - a / b * b).toInt = a.toInt - a.toInt.tdiv b.toInt * b.toInt := by
  obtain ⟨h1, h2, h3, h4, h5⟩ := k_q a.toInt b.toInt (k_ne0 h) ha
  obtain ⟨r1, r2, r3⟩ := k_rem a.toInt b.toInt (k_ne0 h)
  have e1 : (a / b).toInt = a.toInt.tdiv b.toInt := by rw [Int32.toInt_div, k_bm32 (by omega) (by omega)]
  have e2 : (a / b * b).toInt = a.toInt.tdiv b.toInt * b.toInt := by rw [fb_mulI (by rw [e1]; omega) (by rw [e1]; omega), e1]
  unfold kB at ha
  refine ⟨e1, e2, ?_⟩
  rw [fb_subI (by rw [e2]; omega) (by rw [e2]; omega), e2]
theorem k_floorDiv {a b : Int32} (ha : kB a) (h : ¬ b = 0) : (mJ9_floorDiv_7cf53 a b).toInt = kF a.toInt b.toInt := by
  obtain ⟨e1, e2, e3⟩ := k_div32 ha h
  obtain ⟨h1, h2, h3, h4, h5⟩ := k_q a.toInt b.toInt (k_ne0 h) ha
  unfold mJ9_floorDiv_7cf53 kF
  have er : (a / b * b = a) ↔ a.toInt - a.toInt.tdiv b.toInt * b.toInt = 0 := by rw [fa_eq, e2]; omega
  by_cases c : a ^^^ b < 0
  · rw [if_pos c]
    by_cases d : a / b * b = a
    · rw [if_pos d, if_neg (fun q => q.1 (er.mp d)), e1]
    · rw [if_neg d, if_pos ⟨fun q => d (er.mpr q), (k_xor a b).mp c⟩]
      have o : (1 : Int32).toInt = 1 := by decide
      rw [fb_subI (by rw [e1, o]; omega) (by rw [e1, o]; omega), e1, o]
  · rw [if_neg c, if_neg (fun q => c ((k_xor a b).mpr q.2)), e1]
theorem k_floorMod {a b : Int32} (ha : kB a) (hb : kB b) (h : ¬ b = 0) : (mJ9_floorMod_7cf53 a b).toInt = a.toInt - b.toInt * kF a.toInt b.toInt := by
  obtain ⟨e1, e2, e3⟩ := k_div32 ha h
  obtain ⟨r1, r2, r3⟩ := k_rem a.toInt b.toInt (k_ne0 h)
  obtain ⟨_, _, _, _, kf⟩ := kF_b (k_ne0 h) ha hb
  rw [kf]
  unfold mJ9_floorMod_7cf53
  have er : (a - a / b * b = 0) ↔ a.toInt - a.toInt.tdiv b.toInt * b.toInt = 0 := by
    rw [fa_eq, e3]
    exact Iff.rfl
  unfold kB at ha hb
  by_cases c : a ^^^ b < 0
  · rw [if_pos c]
    by_cases d : a - a / b * b = 0
    · rw [if_pos d, if_neg (fun q => q.1 (er.mp d)), e3]
    · rw [if_neg d, if_pos ⟨fun q => d (er.mpr q), (k_xor a b).mp c⟩]
      rw [fb_addI (by rw [e3]; omega) (by rw [e3]; omega), e3]
  · rw [if_neg c, if_neg (fun q => c ((k_xor a b).mpr q.2)), e3]
theorem k_lt064 (a : Int32) : a.toInt64 < 0 ↔ a.toInt < 0 := by
  rw [fa_lt64, k_w]
  exact Iff.rfl
theorem k_floor {a b : Int32} (ha : kB a) (hb : kB b) (h : ¬ b = 0) : ∃ q, mX12_floor a.toInt64 b.toInt64 = some q ∧ q.toInt = kF a.toInt b.toInt := by
  obtain ⟨h1, h2, h3, h4, h5⟩ := k_q a.toInt b.toInt (k_ne0 h) ha
  obtain ⟨r1, r2, r3⟩ := k_rem a.toInt b.toInt (k_ne0 h)
  have hb64 : ¬ b.toInt64 = 0 := fun q => h ((fa_eq b 0).mpr (by rw [← k_w, q]; rfl))
  have e1 : (a.toInt64 / b.toInt64).toInt = a.toInt.tdiv b.toInt := by rw [Int64.toInt_div, k_w, k_w, k_bm64 (by omega) (by omega)]
  have e2 : (a.toInt64 / b.toInt64 * b.toInt64).toInt = a.toInt.tdiv b.toInt * b.toInt := by rw [Int64.toInt_mul, e1, k_w, k_bm64 (by omega) (by omega)]
  unfold kB at ha hb
  have e3 : (a.toInt64 - a.toInt64 / b.toInt64 * b.toInt64).toInt = a.toInt - a.toInt.tdiv b.toInt * b.toInt := by rw [Int64.toInt_sub, e2, k_w, k_bm64 (by omega) (by omega)]
  have e4 : (a.toInt64 / b.toInt64 - 1).toInt = a.toInt.tdiv b.toInt - 1 := by
    have o : (1 : Int64).toInt = 1 := by decide
    rw [Int64.toInt_sub, e1, o, k_bm64 (by omega) (by omega)]
  have er : (a.toInt64 - a.toInt64 / b.toInt64 * b.toInt64 = 0) ↔ a.toInt - a.toInt.tdiv b.toInt * b.toInt = 0 := by
    rw [fa_eq64, e3]
    exact Iff.rfl
  unfold mX12_floor kF
  rw [if_neg hb64, if_neg hb64]
  by_cases c : a.toInt64 - a.toInt64 / b.toInt64 * b.toInt64 = 0
  · rw [if_pos c]
    exact ⟨_, rfl, by rw [if_neg (fun q => q.1 (er.mp c)), e1]⟩
  · rw [if_neg c]
    have c2 : a.toInt - a.toInt.tdiv b.toInt * b.toInt ≠ 0 := fun q => c (er.mpr q)
    unfold mX12_floor_32
    by_cases d : a.toInt64 < 0
    · rw [if_pos d]
      by_cases f : b.toInt64 < 0
      · rw [if_pos f, if_pos rfl]
        exact ⟨_, rfl, by rw [if_neg (fun q => q.2 (iff_of_true ((k_lt064 a).mp d) ((k_lt064 b).mp f))), e1]⟩
      · rw [if_neg f, if_neg (by decide)]
        exact ⟨_, rfl, by rw [if_pos ⟨c2, fun q => f ((k_lt064 b).mpr (q.mp ((k_lt064 a).mp d)))⟩, e4]⟩
    · rw [if_neg d]
      by_cases f : b.toInt64 < 0
      · rw [if_pos f, if_neg (by decide)]
        exact ⟨_, rfl, by rw [if_pos ⟨c2, fun q => d ((k_lt064 a).mpr (q.mpr ((k_lt064 b).mp f)))⟩, e4]⟩
      · rw [if_neg f, if_pos rfl]
        exact ⟨_, rfl, by rw [if_neg (fun q => q.2 (iff_of_false (fun z => d ((k_lt064 a).mpr z)) (fun z => f ((k_lt064 b).mpr z)))), e1]⟩
