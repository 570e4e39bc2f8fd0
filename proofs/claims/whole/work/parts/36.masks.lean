/-- a number out of bytes -/
def vv : Nat → (Nat → Nat) → Nat
  | 0, _ => 0
  | k + 1, f => f 0 + 256 * vv k (fun j => f (j + 1))
theorem vv_succ (k : Nat) (f : Nat → Nat) : vv (k + 1) f = f 0 + 256 * vv k (fun j => f (j + 1)) := rfl
theorem vv_cong : ∀ (k : Nat) {f g : Nat → Nat}, (∀ j, j < k → f j = g j) → vv k f = vv k g := by
  intro k
  induction k with
  | zero => intro f g _; rfl
  | succ k ih =>
    intro f g h
    rw [vv_succ, vv_succ, h 0 (by omega), ih (fun j hj => h (j + 1) (by omega))]
theorem tb_add (b r i : Nat) (hb : b < 256) : (b + 256 * r).testBit i = if i < 8 then b.testBit i else r.testBit (i - 8) := by
  rw [Nat.add_comm]
  exact Nat.testBit_two_pow_mul_add r (i := 8) hb i
theorem and_split {a b x y : Nat} (ha : a < 256) (hb : b < 256) : (a + 256 * x) &&& (b + 256 * y) = (a &&& b) + 256 * (x &&& y) := by
  have hab : a &&& b < 256 := Nat.lt_of_le_of_lt Nat.and_le_left ha
  apply Nat.eq_of_testBit_eq
  intro i
  rw [Nat.testBit_and, tb_add _ _ _ ha, tb_add _ _ _ hb, tb_add _ _ _ hab, Nat.testBit_and, Nat.testBit_and]
  split <;> rfl
theorem vv_lt : ∀ (k : Nat) {f : Nat → Nat}, (∀ j, j < k → f j < 256) → vv k f < 256 ^ k := by
  intro k
  induction k with
  | zero => intro f _; exact Nat.one_pos
  | succ k ih =>
    intro f h
    have a := h 0 (by omega)
    have b := ih (f := fun j => f (j + 1)) (fun j hj => h (j + 1) (by omega))
    rw [vv_succ, Nat.pow_succ]
    omega
theorem vv_sub : ∀ (k : Nat) {f g : Nat → Nat}, (∀ j, j < k → g j ≤ f j) → vv k f - vv k g = vv k (fun j => f j - g j) ∧ vv k g ≤ vv k f := by
  intro k
  induction k with
  | zero => intro f g _; exact ⟨rfl, Nat.le_refl _⟩
  | succ k ih =>
    intro f g h
    have a := h 0 (by omega)
    obtain ⟨b, c⟩ := ih (f := fun j => f (j + 1)) (g := fun j => g (j + 1)) (fun j hj => h (j + 1) (by omega))
    rw [vv_succ, vv_succ, vv_succ, ← b]
    omega
theorem vv_add : ∀ (k : Nat) (f g : Nat → Nat), vv k f + vv k g = vv k (fun j => f j + g j) := by
  intro k
  induction k with
  | zero => intro f g; rfl
  | succ k ih =>
    intro f g
    rw [vv_succ, vv_succ, vv_succ, ← ih]
    omega
theorem d1 : ∀ b, b < 256 → ∀ c, c < 2 → (b / 2 + 128 * c) &&& 85 = (b / 2) &&& 85 := by decide +kernel
theorem d2 : ∀ b, b < 256 → ∀ c, c < 4 → (b / 4 + 64 * c) &&& 51 = (b / 4) &&& 51 := by decide +kernel
theorem d3 : ∀ b, b < 69 → ∀ c, c < 5 → (b + (b / 16 + 16 * c)) &&& 15 = (b + b / 16) &&& 15 := by decide +kernel
theorem vv_h1 : ∀ (k : Nat) {f : Nat → Nat}, (∀ j, j < k → f j < 256) → (vv k f / 2) &&& vv k (fun _ => 85) = vv k (fun j => (f j / 2) &&& 85) := by
  intro k
  induction k with
  | zero => intro f _; simp [vv]
  | succ k ih =>
    intro f h
    have b := ih (f := fun j => f (j + 1)) (fun j hj => h (j + 1) (by omega))
    rw [vv_succ, vv_succ, vv_succ, ← b]
    have a := h 0 (by omega)
    have e : (f 0 + 256 * vv k (fun j => f (j + 1))) / 2 = (f 0 / 2 + 128 * (vv k (fun j => f (j + 1)) % 2)) + 256 * (vv k (fun j => f (j + 1)) / 2) := by omega
    rw [e, and_split (by omega) (by decide), d1 _ a _ (by omega)]
theorem vv_h2 : ∀ (k : Nat) {f : Nat → Nat}, (∀ j, j < k → f j < 256) → (vv k f / 4) &&& vv k (fun _ => 51) = vv k (fun j => (f j / 4) &&& 51) := by
  intro k
  induction k with
  | zero => intro f _; simp [vv]
  | succ k ih =>
    intro f h
    have b := ih (f := fun j => f (j + 1)) (fun j hj => h (j + 1) (by omega))
    rw [vv_succ, vv_succ, vv_succ, ← b]
    have a := h 0 (by omega)
    have e : (f 0 + 256 * vv k (fun j => f (j + 1))) / 4 = (f 0 / 4 + 64 * (vv k (fun j => f (j + 1)) % 4)) + 256 * (vv k (fun j => f (j + 1)) / 4) := by omega
    rw [e, and_split (by omega) (by decide), d2 _ a _ (by omega)]
theorem vv_h0 (c : Nat) (hc : c < 256) : ∀ (k : Nat) {f : Nat → Nat}, (∀ j, j < k → f j < 256) → vv k f &&& vv k (fun _ => c) = vv k (fun j => f j &&& c) := by
  intro k
  induction k with
  | zero => intro f _; simp [vv]
  | succ k ih =>
    intro f h
    have b := ih (f := fun j => f (j + 1)) (fun j hj => h (j + 1) (by omega))
    rw [vv_succ, vv_succ, vv_succ, ← b]
    exact and_split (h 0 (by omega)) hc
theorem vv_h3 : ∀ (k : Nat) {f : Nat → Nat}, (∀ j, j < k → f j < 69 ∧ f j % 16 < 5) → (vv k f + vv k f / 16) &&& vv k (fun _ => 15) = vv k (fun j => (f j + f j / 16) &&& 15) := by
  intro k
  induction k with
  | zero => intro f _; simp [vv]
  | succ k ih =>
    intro f h
    have b := ih (f := fun j => f (j + 1)) (fun j hj => h (j + 1) (by omega))
    have a := h 0 (by omega)
    have r16 : vv k (fun j => f (j + 1)) % 16 < 5 := by
      cases k with
      | zero => exact Nat.zero_lt_succ _
      | succ k =>
        have := (h 1 (by omega)).2
        rw [vv_succ]
        show (f (0 + 1) + 256 * _) % 16 < 5
        have e : f (0 + 1) = f 1 := rfl
        omega
    rw [vv_succ, vv_succ, vv_succ, ← b]
    have e : f 0 + 256 * vv k (fun j => f (j + 1)) + (f 0 + 256 * vv k (fun j => f (j + 1))) / 16 = (f 0 + (f 0 / 16 + 16 * (vv k (fun j => f (j + 1)) % 16))) + 256 * (vv k (fun j => f (j + 1)) + vv k (fun j => f (j + 1)) / 16) := by omega
    rw [e, and_split (by omega) (by decide), d3 _ a.1 _ r16]
def pb1 (b : Nat) : Nat := b - ((b / 2) &&& 85)
def pb2 (b : Nat) : Nat := (pb1 b &&& 51) + ((pb1 b / 4) &&& 51)
def pb3 (b : Nat) : Nat := (pb2 b + pb2 b / 16) &&& 15
theorem pb_le : ∀ b, b < 256 → (b / 2) &&& 85 ≤ b ∧ pb1 b < 256 ∧ pb2 b < 69 ∧ pb2 b % 16 < 5 ∧ pb3 b = fb_ct (fun t => b.testBit t) 8 ∧ pb3 b ≤ 8 := by decide +kernel
theorem vv_of : ∀ (k n : Nat), n < 256 ^ k → ∃ f : Nat → Nat, (∀ j, j < k → f j < 256) ∧ vv k f = n := by
  intro k
  induction k with
  | zero => intro n h; exact ⟨fun _ => 0, fun j hj => by omega, by rw [Nat.pow_zero] at h; show 0 = n; omega⟩
  | succ k ih =>
    intro n h
    rw [Nat.pow_succ] at h
    obtain ⟨g, h1, h2⟩ := ih (n / 256) (by omega)
    refine ⟨fun j => if j = 0 then n % 256 else g (j - 1), fun j hj => ?_, ?_⟩
    · by_cases e : j = 0
      · simp only [if_pos e]; omega
      · simp only [if_neg e]; exact h1 _ (by omega)
    · rw [vv_succ, vv_cong k (g := g) (fun j _ => by simp), h2]
      simp only [if_true]
      omega
theorem vv_bits : ∀ (k : Nat) {f : Nat → Nat}, (∀ j, j < k → f j < 256) → fb_ct (fun t => (vv k f).testBit t) (8 * k) = fb_sm (fun j => pb3 (f j)) k := by
  intro k
  induction k with
  | zero => intro f _; rfl
  | succ k ih =>
    intro f h
    have a := h 0 (by omega)
    have b := ih (f := fun j => f (j + 1)) (fun j hj => h (j + 1) (by omega))
    rw [show 8 * (k + 1) = 8 + 8 * k by omega, fb_ct_split, show k + 1 = 1 + k by omega, fb_sm_split]
    have e1 : fb_ct (fun t => (vv (1 + k) f).testBit t) 8 = pb3 (f 0) := by
      rw [(pb_le _ a).2.2.2.2.1]
      refine fb_ct_cong (fun t ht => ?_)
      rw [show 1 + k = k + 1 by omega, vv_succ, tb_add _ _ _ a, if_pos ht]
    have e2 : fb_ct (fun t => (vv (1 + k) f).testBit (8 + t)) (8 * k) = fb_ct (fun t => (vv k (fun j => f (j + 1))).testBit t) (8 * k) := by
      refine fb_ct_cong (fun t ht => ?_)
      rw [show 1 + k = k + 1 by omega, vv_succ, tb_add _ _ _ a, if_neg (by omega), show 8 + t - 8 = t by omega]
    rw [e1, e2, b]
    have e3 : fb_sm (fun j => pb3 (f j)) 1 = pb3 (f 0) := by
      show 0 + pb3 (f 0) = _
      omega
    rw [e3]
    congr 1
    refine fb_sm_cong (fun j _ => ?_)
    rw [Nat.add_comm]
theorem vv8 (f : Nat → Nat) : vv 8 f = f 0 + 256 * (f 1 + 256 * (f 2 + 256 * (f 3 + 256 * (f 4 + 256 * (f 5 + 256 * (f 6 + 256 * (f 7 + 256 * 0))))))) := rfl
theorem sm8 (f : Nat → Nat) : fb_sm f 8 = 0 + f 0 + f 1 + f 2 + f 3 + f 4 + f 5 + f 6 + f 7 := rfl
theorem pop_sum (q0 q1 q2 q3 q4 q5 q6 q7 : Nat) (z0 : q0 ≤ 8) (z1 : q1 ≤ 8) (z2 : q2 ≤ 8) (z3 : q3 ≤ 8) (z4 : q4 ≤ 8) (z5 : q5 ≤ 8) (z6 : q6 ≤ 8) (z7 : q7 ≤ 8) : ((q0 + 256 * (q1 + 256 * (q2 + 256 * (q3 + 256 * (q4 + 256 * (q5 + 256 * (q6 + 256 * (q7 + 256 * 0)))))))) / 256 = (q1 + 256 * (q2 + 256 * (q3 + 256 * (q4 + 256 * (q5 + 256 * (q6 + 256 * (q7)))))))) ∧ ((q0 + 256 * (q1 + 256 * (q2 + 256 * (q3 + 256 * (q4 + 256 * (q5 + 256 * (q6 + 256 * (q7 + 256 * 0)))))))) + (q1 + 256 * (q2 + 256 * (q3 + 256 * (q4 + 256 * (q5 + 256 * (q6 + 256 * (q7))))))) = (q0 + q1 + 256 * (q1 + q2 + 256 * (q2 + q3 + 256 * (q3 + q4 + 256 * (q4 + q5 + 256 * (q5 + q6 + 256 * (q6 + q7 + 256 * (q7))))))))) ∧ ((q0 + q1 + 256 * (q1 + q2 + 256 * (q2 + q3 + 256 * (q3 + q4 + 256 * (q4 + q5 + 256 * (q5 + q6 + 256 * (q6 + q7 + 256 * (q7)))))))) / 65536 = (q2 + q3 + 256 * (q3 + q4 + 256 * (q4 + q5 + 256 * (q5 + q6 + 256 * (q6 + q7 + 256 * (q7))))))) ∧ ((q0 + q1 + 256 * (q1 + q2 + 256 * (q2 + q3 + 256 * (q3 + q4 + 256 * (q4 + q5 + 256 * (q5 + q6 + 256 * (q6 + q7 + 256 * (q7)))))))) + (q2 + q3 + 256 * (q3 + q4 + 256 * (q4 + q5 + 256 * (q5 + q6 + 256 * (q6 + q7 + 256 * (q7)))))) = (q0 + q1 + q2 + q3 + 256 * (q1 + q2 + q3 + q4 + 256 * (q2 + q3 + q4 + q5 + 256 * (q3 + q4 + q5 + q6 + 256 * (q4 + q5 + q6 + q7 + 256 * (q5 + q6 + q7 + 256 * (q6 + q7 + 256 * (q7))))))))) ∧ ((q0 + q1 + q2 + q3 + 256 * (q1 + q2 + q3 + q4 + 256 * (q2 + q3 + q4 + q5 + 256 * (q3 + q4 + q5 + q6 + 256 * (q4 + q5 + q6 + q7 + 256 * (q5 + q6 + q7 + 256 * (q6 + q7 + 256 * (q7)))))))) / 4294967296 = (q4 + q5 + q6 + q7 + 256 * (q5 + q6 + q7 + 256 * (q6 + q7 + 256 * (q7))))) ∧ ((q0 + q1 + q2 + q3 + 256 * (q1 + q2 + q3 + q4 + 256 * (q2 + q3 + q4 + q5 + 256 * (q3 + q4 + q5 + q6 + 256 * (q4 + q5 + q6 + q7 + 256 * (q5 + q6 + q7 + 256 * (q6 + q7 + 256 * (q7)))))))) + (q4 + q5 + q6 + q7 + 256 * (q5 + q6 + q7 + 256 * (q6 + q7 + 256 * (q7))))) % 128 = 0 + q0 + q1 + q2 + q3 + q4 + q5 + q6 + q7 ∧ (q0 + 256 * (q1 + 256 * (q2 + 256 * (q3 + 256 * (q4 + 256 * (q5 + 256 * (q6 + 256 * (q7 + 256 * 0)))))))) < 2 ^ 63 ∧ (q0 + q1 + 256 * (q1 + q2 + 256 * (q2 + q3 + 256 * (q3 + q4 + 256 * (q4 + q5 + 256 * (q5 + q6 + 256 * (q6 + q7 + 256 * (q7)))))))) < 2 ^ 63 ∧ (q0 + q1 + q2 + q3 + 256 * (q1 + q2 + q3 + q4 + 256 * (q2 + q3 + q4 + q5 + 256 * (q3 + q4 + q5 + q6 + 256 * (q4 + q5 + q6 + q7 + 256 * (q5 + q6 + q7 + 256 * (q6 + q7 + 256 * (q7)))))))) < 2 ^ 63 ∧ (q0 + q1 + q2 + q3 + 256 * (q1 + q2 + q3 + q4 + 256 * (q2 + q3 + q4 + q5 + 256 * (q3 + q4 + q5 + q6 + 256 * (q4 + q5 + q6 + q7 + 256 * (q5 + q6 + q7 + 256 * (q6 + q7 + 256 * (q7)))))))) + (q4 + q5 + q6 + q7 + 256 * (q5 + q6 + q7 + 256 * (q6 + q7 + 256 * (q7)))) < 2 ^ 64 := by
  refine ⟨?_, ?_, ?_, ?_, ?_, ?_, ?_, ?_, ?_, ?_⟩ <;> omega
theorem pop_nat (n : Nat) (hn : n < 18446744073709551616) :
    (let a := n - ((n / 2) &&& 6148914691236517205)
     let b := (a &&& 3689348814741910323) + ((a / 4) &&& 3689348814741910323)
     let c := (b + b / 16) &&& 1085102592571150095
     let d := c + c / 256
     let e := d + d / 65536
     (n / 2) &&& 6148914691236517205 ≤ n ∧ b < 2 ^ 63 ∧ b + b / 16 < 2 ^ 64 ∧ c < 2 ^ 63 ∧ d < 2 ^ 63 ∧ e < 2 ^ 63 ∧ e + e / 4294967296 < 2 ^ 64 ∧ (e + e / 4294967296) % 128 = fb_ct (fun t => n.testBit t) 64) := by
  obtain ⟨f, hf, rfl⟩ := vv_of 8 n hn
  have k1 : (6148914691236517205 : Nat) = vv 8 (fun _ => 85) := by decide +kernel
  have k2 : (3689348814741910323 : Nat) = vv 8 (fun _ => 51) := by decide +kernel
  have k3 : (1085102592571150095 : Nat) = vv 8 (fun _ => 15) := by decide +kernel
  have s1 := vv_sub 8 (f := f) (g := fun j => (f j / 2) &&& 85) (fun j hj => (pb_le _ (hf j hj)).1)
  have p1 : ∀ j, j < 8 → pb1 (f j) < 256 := fun j hj => (pb_le _ (hf j hj)).2.1
  have h4 : (vv 8 (fun j => pb1 (f j)) / 4) &&& vv 8 (fun _ => 51) = vv 8 (fun j => (pb1 (f j) / 4) &&& 51) := vv_h2 8 p1
  have h5 : vv 8 (fun j => pb1 (f j)) &&& vv 8 (fun _ => 51) = vv 8 (fun j => pb1 (f j) &&& 51) := vv_h0 51 (by decide) 8 p1
  have h6 : (vv 8 (fun j => pb2 (f j)) + vv 8 (fun j => pb2 (f j)) / 16) &&& vv 8 (fun _ => 15) = vv 8 (fun j => pb3 (f j)) := vv_h3 8 (f := fun j => pb2 (f j)) (fun j hj => ⟨(pb_le _ (hf j hj)).2.2.1, (pb_le _ (hf j hj)).2.2.2.1⟩)
  have ea : vv 8 f - ((vv 8 f / 2) &&& vv 8 (fun _ => 85)) = vv 8 (fun j => pb1 (f j)) := by rw [vv_h1 8 hf, s1.1]; rfl
  have eb : (vv 8 (fun j => pb1 (f j)) &&& vv 8 (fun _ => 51)) + ((vv 8 (fun j => pb1 (f j)) / 4) &&& vv 8 (fun _ => 51)) = vv 8 (fun j => pb2 (f j)) := by rw [h5, h4, vv_add]; rfl
  have w2 : ∀ j, j < 8 → pb2 (f j) < 69 := fun j hj => (pb_le _ (hf j hj)).2.2.1
  have w3 : ∀ j, j < 8 → pb3 (f j) ≤ 8 := fun j hj => (pb_le _ (hf j hj)).2.2.2.2.2
  have ub : vv 8 (fun j => pb2 (f j)) < 2 ^ 63 := by
    have z0 := w2 0 (by omega); have z1 := w2 1 (by omega); have z2 := w2 2 (by omega); have z3 := w2 3 (by omega)
    have z4 := w2 4 (by omega); have z5 := w2 5 (by omega); have z6 := w2 6 (by omega); have z7 := w2 7 (by omega)
    rw [vv8]
    revert z0 z1 z2 z3 z4 z5 z6 z7
    generalize pb2 (f 0) = q0
    generalize pb2 (f 1) = q1
    generalize pb2 (f 2) = q2
    generalize pb2 (f 3) = q3
    generalize pb2 (f 4) = q4
    generalize pb2 (f 5) = q5
    generalize pb2 (f 6) = q6
    generalize pb2 (f 7) = q7
    intro z0 z1 z2 z3 z4 z5 z6 z7
    omega
  have hb := vv_bits 8 hf
  rw [show 8 * 8 = 64 from rfl] at hb
  simp only [k1, k2, k3, ea, eb, h6]
  rw [hb]
  have z0 := w3 0 (by omega); have z1 := w3 1 (by omega); have z2 := w3 2 (by omega); have z3 := w3 3 (by omega)
  have z4 := w3 4 (by omega); have z5 := w3 5 (by omega); have z6 := w3 6 (by omega); have z7 := w3 7 (by omega)
  refine ⟨by rw [vv_h1 8 hf]; exact s1.2, ub, by omega, ?_⟩
  rw [vv8, sm8]
  revert z0 z1 z2 z3 z4 z5 z6 z7
  generalize pb3 (f 0) = q0
  generalize pb3 (f 1) = q1
  generalize pb3 (f 2) = q2
  generalize pb3 (f 3) = q3
  generalize pb3 (f 4) = q4
  generalize pb3 (f 5) = q5
  generalize pb3 (f 6) = q6
  generalize pb3 (f 7) = q7
  intro z0 z1 z2 z3 z4 z5 z6 z7
  obtain ⟨a1, a2, a3, a4, a5, a6, a7, a8, a9, a10⟩ := pop_sum q0 q1 q2 q3 q4 q5 q6 q7 z0 z1 z2 z3 z4 z5 z6 z7
  rw [a1, a2, a3, a4, a5]
  exact ⟨a7, a8, a9, a10, a6⟩
def zm (m : Int64) (t : Nat) : Bool := m.toBitVec.toNat.testBit t
theorem s_bitCount (m : Int64) : mJ13_bitCount_95d88 m = nI (fb_ct (zm m) 64) := by
  obtain ⟨n, hn, rfl⟩ := wb_of m
  have e0 : zm (lN n) = fun t => n.testBit t := by
    funext t
    unfold zm
    rw [wb_tn hn]
  obtain ⟨h1, h2, h3, h4, h5, h6, h7, h8⟩ := pop_nat n (by omega)
  rw [e0, ← h8]
  have k1 : (6148914691236517205 : Int64) = lN 6148914691236517205 := rfl
  have k2 : (3689348814741910323 : Int64) = lN 3689348814741910323 := rfl
  have k3 : (1085102592571150095 : Int64) = lN 1085102592571150095 := rfl
  have sh : ∀ (x k : Nat), x < 2 ^ 64 → k < 64 → ((lN x).toUInt64 >>> ((nI k).toInt64.toUInt64 &&& Int64.toUInt64 63)).toInt64 = lN (x / 2 ^ k) := fun x k hx hk => wb_shr hx hk
  have sh1 : ∀ x, x < 2 ^ 64 → ((lN x).toUInt64 >>> ((1 : Int32).toInt64.toUInt64 &&& Int64.toUInt64 63)).toInt64 = lN (x / 2) := fun x hx => sh x 1 hx (by decide)
  have sh2 : ∀ x, x < 2 ^ 64 → ((lN x).toUInt64 >>> ((2 : Int32).toInt64.toUInt64 &&& Int64.toUInt64 63)).toInt64 = lN (x / 4) := fun x hx => sh x 2 hx (by decide)
  have sh4 : ∀ x, x < 2 ^ 64 → ((lN x).toUInt64 >>> ((4 : Int32).toInt64.toUInt64 &&& Int64.toUInt64 63)).toInt64 = lN (x / 16) := fun x hx => sh x 4 hx (by decide)
  have sh8 : ∀ x, x < 2 ^ 64 → ((lN x).toUInt64 >>> ((8 : Int32).toInt64.toUInt64 &&& Int64.toUInt64 63)).toInt64 = lN (x / 256) := fun x hx => sh x 8 hx (by decide)
  have sh16 : ∀ x, x < 2 ^ 64 → ((lN x).toUInt64 >>> ((16 : Int32).toInt64.toUInt64 &&& Int64.toUInt64 63)).toInt64 = lN (x / 65536) := fun x hx => sh x 16 hx (by decide)
  have sh32 : ∀ x, x < 2 ^ 64 → ((lN x).toUInt64 >>> ((32 : Int32).toInt64.toUInt64 &&& Int64.toUInt64 63)).toInt64 = lN (x / 4294967296) := fun x hx => sh x 32 hx (by decide)
  unfold mJ13_bitCount_95d88
  rw [sh1 n hn, k1, k2, k3, fb_andL, lN_sub h1]
  generalize ha : n - ((n / 2) &&& 6148914691236517205) = a at *
  have ha64 : a < 2 ^ 64 := by omega
  rw [sh2 a ha64, fb_andL, fb_andL, lN_add]
  generalize hb : (a &&& 3689348814741910323) + ((a / 4) &&& 3689348814741910323) = b at *
  rw [sh4 b (by omega), lN_add, fb_andL]
  generalize hc : (b + b / 16) &&& 1085102592571150095 = c at *
  rw [sh8 c (by omega), lN_add]
  generalize hd : c + c / 256 = d at *
  rw [sh16 d (by omega), lN_add]
  generalize he : d + d / 65536 = e at *
  rw [sh32 e (by omega), lN_add, lN_i]
  exact pk_and (nI _) 7 (by decide) |>.trans (by congr 1; show (BitVec.ofNat 32 _).toNat % 128 = _; rw [BitVec.toNat_ofNat]; omega)
