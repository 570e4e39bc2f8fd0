def gRowOk (B : Nat → Nat) (i : Nat) : Bool := decide (B (3 * i) ≤ 20) && decide (B (3 * i + 1) ≤ 2) && decide (B (3 * i + 2) ≤ 40)
/-- rows before n all good -/
def gRowsTo (B : Nat → Nat) (n : Nat) : Bool := decide (fb_ct (gRowOk B) n = n)
def gMeetOk (B : Nat → Nat) (L : Nat) : Bool := decide (0 < L ∧ L % 3 = 0 ∧ L ≤ 48) && gRowsTo B (L / 3)
theorem gRowsTo_up (B : Nat → Nat) (n : Nat) : gRowsTo B (n + 1) = (gRowsTo B n && gRowOk B n) := by
  unfold gRowsTo
  rw [Bool.eq_iff_iff, Bool.and_eq_true, decide_eq_true_eq, decide_eq_true_eq, fb_ct_all, fb_ct_all]
  constructor
  · intro h; exact ⟨fun k hk => h k (by omega), h n (by omega)⟩
  · rintro ⟨a, c⟩ k hk
    by_cases e : k = n
    · rw [e]; exact c
    · exact a k (by omega)
theorem gRowsTo_mono {B : Nat → Nat} {m n : Nat} (h : m ≤ n) (e : gRowsTo B n = true) : gRowsTo B m = true := by
  unfold gRowsTo at *
  rw [decide_eq_true_eq, fb_ct_all] at *
  exact fun k hk => e k (by omega)
theorem gMeet_met {B : Nat → Nat} {L : Nat} (h : gMeetOk B L = true) : gMet (L / 3) B := by
  unfold gMeetOk gRowsTo at h
  rw [Bool.and_eq_true, decide_eq_true_eq, decide_eq_true_eq, fb_ct_all] at h
  refine ⟨by omega, fun i hi => ?_⟩
  have := h.2 i hi
  unfold gRowOk at this
  rw [Bool.and_eq_true, Bool.and_eq_true, decide_eq_true_eq, decide_eq_true_eq, decide_eq_true_eq] at this
  exact ⟨this.1.1, this.1.2, this.2⟩
section ME
variable {B : Nat → Nat} {L : Nat} {tp rf ms mw mn rows : Nat → Int32} {mm met : Int32}
theorem r_meet110 (hL : L ≤ 48) (h3 : L % 3 = 0) (ht : ∀ i, i < L → tp i = nI (B i)) : ∀ k i f (ms mw mn : Nat → Int32), i + k = L / 3 → k < f → (∀ y, y < i → ms y = nI (B (3 * y)) ∧ mw y = nI (B (3 * y + 1)) ∧ mn y = nI (B (3 * y + 2))) →
    ∃ ms' mw' mn', mX12_meet_110 (nI L) tp rf f (nI i) ms mw mn = some (nI (L / 3), 0, nI (L / 3), rf, ms', mw', mn') ∧ rMet (L / 3) B (nI (L / 3)) ms' mw' mn' := by
  have ed : nI L / 3 = nI (L / 3) := pk_div (d := 3) (by omega) (by decide) (by decide)
  intro k
  induction k with
  | zero =>
    intro i f ms mw mn hi hf h
    obtain ⟨f, rfl⟩ : ∃ q, f = q + 1 := ⟨f - 1, by omega⟩
    rw [mX12_meet_110, ed, if_neg (nI_nlt (by omega) (by omega))]
    exact ⟨ms, mw, mn, rfl, rfl, fun y hy => h y (by omega)⟩
  | succ k ih =>
    intro i f ms mw mn hi hf h
    obtain ⟨f, rfl⟩ : ∃ q, f = q + 1 := ⟨f - 1, by omega⟩
    have e3 : (3 : Int32) * nI i = nI (3 * i) := by rw [show (3 : Int32) = nI 3 from rfl, pk_mul]
    rw [mX12_meet_110, ed, if_pos (nI_lt (show i < L / 3 by omega) (by omega)), e3, show nI (3 * i) + 1 = nI (3 * i + 1) from nI_1 _, show nI (3 * i) + 2 = nI (3 * i + 2) from nI_add _ 2, zb _ 1800 (by omega) (by decide), if_pos rfl, zb i 16 (by omega) (by decide), if_pos rfl, zb _ 1800 (by omega) (by decide), if_pos rfl, zb _ 1800 (by omega) (by decide), if_pos rfl, zc (3 * i) (by omega), zc (3 * i + 1) (by omega), zc (3 * i + 2) (by omega), zc i (by omega), ht (3 * i) (by omega), ht (3 * i + 1) (by omega), ht (3 * i + 2) (by omega), nI_1 i]
    refine ih (i + 1) f _ _ _ (by omega) (by omega) (fun y hy => ?_)
    by_cases e : y = i
    · subst e
      exact ⟨pk_us, pk_us, pk_us⟩
    · rw [pk_un e, pk_un e, pk_un e]
      exact h y (by omega)
theorem r_meet91 (hL : L ≤ 48) (h3 : L % 3 = 0) (ht : ∀ i, i < L → tp i = nI (B i)) : ∃ ms' mw' mn', mX12_meet_91 (nI L) mm tp rf ms mw mn 1 = some (nI (L / 3), 0, nI (L / 3), rf, ms', mw', mn') ∧ rMet (L / 3) B (nI (L / 3)) ms' mw' mn' := by
  unfold mX12_meet_91
  rw [if_neg (by decide)]
  exact r_meet110 hL h3 ht (L / 3) 0 xfuel ms mw mn (Nat.zero_add _) (Nat.lt_of_le_of_lt (show L / 3 ≤ 16 by omega) (by decide)) (fun y hy => absurd hy (Nat.not_lt_zero y))
theorem meet_rows {i : Nat} : gRowOk B i = true ↔ ¬ 20 < B (3 * i) ∧ ¬ 2 < B (3 * i + 1) ∧ ¬ 40 < B (3 * i + 2) := by
  unfold gRowOk
  rw [Bool.and_eq_true, Bool.and_eq_true, decide_eq_true_eq, decide_eq_true_eq, decide_eq_true_eq]
  omega
theorem r_meet34 (hL : L ≤ 1600) (h3 : L % 3 = 0) (ht : ∀ i, i < L → tp i = nI (B i)) (hB : ∀ i, i < L → B i < 256) : ∀ k i f (q : Bool), i + k = L / 3 → k + 1 < f → q = gRowsTo B i →
    mX12_meet_34 (nI L) mm tp rf ms mw mn f (if q = true then 1 else 0) (nI (3 * i)) = mX12_meet_91 (nI L) mm tp rf ms mw mn (if gRowsTo B (L / 3) = true then 1 else 0) := by
  intro k
  induction k with
  | zero =>
    intro i f q hi hf hq
    obtain ⟨f, rfl⟩ : ∃ q, f = q + 1 := ⟨f - 1, by omega⟩
    have : i = L / 3 := by omega
    rw [mX12_meet_34, if_neg (nI_nlt (by omega) (by omega)), hq, this]
  | succ k ih =>
    intro i f q hi hf hq
    obtain ⟨f, rfl⟩ : ∃ q, f = q + 1 := ⟨f - 1, by omega⟩
    rw [mX12_meet_34, if_pos (nI_lt (show 3 * i < L by omega) (by omega))]
    by_cases w : q = true
    · have b0 := hB (3 * i) (by omega)
      have b1 := hB (3 * i + 1) (by omega)
      have b2 := hB (3 * i + 2) (by omega)
      have e0 : nI (3 * i) + 3 = nI (3 * (i + 1)) := (nI_add _ 3)
      rw [if_neg (show ¬ (if q = true then (1 : Int32) else 0) = 0 by rw [if_pos w]; decide), e0, show nI (3 * i) + 1 = nI (3 * i + 1) from nI_1 _, show nI (3 * i) + 2 = nI (3 * i + 2) from nI_add _ 2, zb _ 1800 (by omega) (by decide), if_pos rfl, zb _ 1800 (by omega) (by decide), if_pos rfl, zb _ 1800 (by omega) (by decide), if_pos rfl, zc _ (by omega), zc _ (by omega), zc _ (by omega), ht _ (by omega), ht _ (by omega), ht _ (by omega)]
      have c0 : ((20 : Int32) < nI (B (3 * i))) ↔ 20 < B (3 * i) := nI_ltI (a := 20) (by omega) (by omega)
      have c1 : ((2 : Int32) < nI (B (3 * i + 1))) ↔ 2 < B (3 * i + 1) := nI_ltI (a := 2) (by omega) (by omega)
      have c2 : ((40 : Int32) < nI (B (3 * i + 2))) ↔ 40 < B (3 * i + 2) := nI_ltI (a := 40) (by omega) (by omega)
      have up := gRowsTo_up B i
      rw [← hq, w, Bool.true_and] at up
      have bad : gRowOk B i = false → mX12_meet_34 (nI L) mm tp rf ms mw mn f 0 (nI (3 * (i + 1))) = mX12_meet_91 (nI L) mm tp rf ms mw mn (if gRowsTo B (L / 3) = true then 1 else 0) := fun h => ih (i + 1) f false (by omega) (by omega) (by rw [up, h])
      by_cases x0 : 20 < B (3 * i)
      · rw [if_pos (c0.mpr x0)]
        exact bad (Bool.eq_false_iff.mpr (fun h => (meet_rows.mp h).1 x0))
      · rw [if_neg (fun h => x0 (c0.mp h))]
        by_cases x1 : 2 < B (3 * i + 1)
        · rw [if_pos (c1.mpr x1)]
          exact bad (Bool.eq_false_iff.mpr (fun h => (meet_rows.mp h).2.1 x1))
        · rw [if_neg (fun h => x1 (c1.mp h))]
          by_cases x2 : 40 < B (3 * i + 2)
          · rw [if_pos (c2.mpr x2)]
            exact bad (Bool.eq_false_iff.mpr (fun h => (meet_rows.mp h).2.2 x2))
          · rw [if_neg (fun h => x2 (c2.mp h))]
            exact ih (i + 1) f true (by omega) (by omega) (by rw [up, meet_rows.mpr ⟨x0, x1, x2⟩])
    · rw [if_pos (show (if q = true then (1 : Int32) else 0) = 0 by rw [if_neg w]), if_neg w]
      have : gRowsTo B (L / 3) = false := Bool.eq_false_iff.mpr (fun h => w (by rw [hq]; exact gRowsTo_mono (by omega) h))
      rw [this]
      rfl
theorem r_meet34z (hL : L ≤ 1600) : mX12_meet_34 (nI L) mm tp rf ms mw mn xfuel 0 0 = mX12_meet_91 (nI L) mm tp rf ms mw mn 0 := by
  have : ∃ f, xfuel = f + 1 := ⟨4999, rfl⟩
  obtain ⟨f, e⟩ := this
  rw [e, mX12_meet_34, if_pos rfl, ite_self]
/-- the reference meets -/
theorem r_meet (hL : L ≤ 1600) (ht : ∀ i, i < L → tp i = nI (B i)) (hB : ∀ i, i < L → B i < 256) :
    (gMeetOk B L = true → ∃ ms' mw' mn', mX12_meet (nI L) mm tp rf ms mw mn = some (nI (L / 3), 0, nI (L / 3), rf, ms', mw', mn') ∧ rMet (L / 3) B (nI (L / 3)) ms' mw' mn') ∧
    (gMeetOk B L = false → mX12_meet (nI L) mm tp rf ms mw mn = mX12_meet_91 (nI L) mm tp rf ms mw mn 0) := by
  unfold mX12_meet
  have c0 : (0 < nI L) ↔ 0 < L := nIp (by omega)
  have c48 : ((48 : Int32) < nI L) ↔ 48 < L := nI_ltI (a := 48) (by omega) (by omega)
  have er : nI L - nI L / 3 * 3 = nI (L % 3) := pk_rem (d := 3) (by omega) (by decide) (by decide)
  have c3 : (nI (L % 3) = 0) ↔ L % 3 = 0 := nI0 (by omega)
  rw [er]
  by_cases h0 : 0 < L
  · rw [if_pos (c0.mpr h0)]
    by_cases h3 : L % 3 = 0
    · rw [if_pos (c3.mpr h3)]
      by_cases h48 : 48 < L
      · rw [if_pos (c48.mpr h48)]
        have : gMeetOk B L = false := by unfold gMeetOk; rw [decide_eq_false (by omega), Bool.false_and]
        exact ⟨fun q => by rw [this] at q; exact absurd q (by decide), fun _ => r_meet34z hL⟩
      · rw [if_neg (fun q => h48 (c48.mp q))]
        have e : gMeetOk B L = gRowsTo B (L / 3) := by unfold gMeetOk; rw [decide_eq_true ⟨h0, h3, by omega⟩, Bool.true_and]
        have q := r_meet34 (mm := mm) (rf := rf) (ms := ms) (mw := mw) (mn := mn) hL h3 ht hB (L / 3) 0 xfuel true (Nat.zero_add _) (Nat.lt_of_le_of_lt (show L / 3 + 1 ≤ 17 by omega) (by decide)) rfl
        rw [if_pos rfl, Nat.mul_zero, show nI 0 = 0 from rfl] at q
        rw [q, e]
        constructor
        · intro h
          rw [if_pos h]
          exact r_meet91 (by omega) h3 ht
        · intro h
          rw [if_neg (by rw [h]; decide)]
    · rw [if_neg (fun q => h3 (c3.mp q))]
      have : gMeetOk B L = false := by unfold gMeetOk; rw [decide_eq_false (by omega), Bool.false_and]
      exact ⟨fun q => by rw [this] at q; exact absurd q (by decide), fun _ => r_meet34z hL⟩
  · rw [if_neg (fun q => h0 (c0.mp q))]
    have : gMeetOk B L = false := by unfold gMeetOk; rw [decide_eq_false (by omega), Bool.false_and]
    exact ⟨fun q => by rw [this] at q; exact absurd q (by decide), fun _ => r_meet34z hL⟩
theorem c_meet24 (hL : L ≤ 48) (h3 : L % 3 = 0) (ht : ∀ i, i < L → tp i = nI (B i)) (hB : ∀ i, i < L → B i < 256) : ∀ k i f (q : Bool), i + k = L / 3 → k + 1 < f → q = gRowsTo B i →
    mX2_meetRows_24 (nI L) met rows tp f q (nI (3 * i)) = if gRowsTo B (L / 3) = true then some (true, nI (L / 3), va_cpy tp rows 0 0 L) else some (false, met, rows) := by
  intro k
  induction k with
  | zero =>
    intro i f q hi hf hq
    obtain ⟨f, rfl⟩ : ∃ q, f = q + 1 := ⟨f - 1, by omega⟩
    have : i = L / 3 := by omega
    rw [mX2_meetRows_24, if_neg (nI_nlt (by omega) (by omega)), hq, this, show nI L / 3 = nI (L / 3) from pk_div (d := 3) (by omega) (by decide) (by decide), zc L (by omega)]
    by_cases w : gRowsTo B (L / 3) = true
    · rw [if_pos w, if_pos w, w]
    · rw [if_neg w, if_neg w, Bool.eq_false_iff.mpr w]
  | succ k ih =>
    intro i f q hi hf hq
    obtain ⟨f, rfl⟩ : ∃ q, f = q + 1 := ⟨f - 1, by omega⟩
    have e0 : nI (3 * i) + 3 = nI (3 * (i + 1)) := (nI_add _ 3)
    rw [mX2_meetRows_24, if_pos (nI_lt (show 3 * i < L by omega) (by omega)), e0]
    have up := gRowsTo_up B i
    by_cases w : q = true
    · have b0 := hB (3 * i) (by omega)
      have b1 := hB (3 * i + 1) (by omega)
      have b2 := hB (3 * i + 2) (by omega)
      rw [if_pos w, show nI (3 * i) + 1 = nI (3 * i + 1) from nI_1 _, show nI (3 * i) + 2 = nI (3 * i + 2) from nI_add _ 2, s_at 1600 _ (by omega) (by decide), s_at 1600 _ (by omega) (by decide), s_at 1600 _ (by omega) (by decide), ht _ (by omega), ht _ (by omega), ht _ (by omega)]
      have c0 : ((20 : Int32) < nI (B (3 * i))) ↔ 20 < B (3 * i) := nI_ltI (a := 20) (by omega) (by omega)
      have c1 : (nI (B (3 * i + 1)) < (3 : Int32)) ↔ B (3 * i + 1) < 3 := nI_ltI (b := 3) (by omega) (by omega)
      have c2 : ((40 : Int32) < nI (B (3 * i + 2))) ↔ 40 < B (3 * i + 2) := nI_ltI (a := 40) (by omega) (by omega)
      rw [← hq, w, Bool.true_and] at up
      have bad : gRowOk B i = false → mX2_meetRows_24 (nI L) met rows tp f false (nI (3 * (i + 1))) = if gRowsTo B (L / 3) = true then some (true, nI (L / 3), va_cpy tp rows 0 0 L) else some (false, met, rows) := fun h => ih (i + 1) f false (by omega) (by omega) (by rw [up, h])
      by_cases x0 : 20 < B (3 * i)
      · rw [if_pos (c0.mpr x0)]
        exact bad (Bool.eq_false_iff.mpr (fun h => (meet_rows.mp h).1 x0))
      · rw [if_neg (fun h => x0 (c0.mp h))]
        by_cases x1 : B (3 * i + 1) < 3
        · rw [if_pos (c1.mpr x1)]
          by_cases x2 : 40 < B (3 * i + 2)
          · rw [if_pos (c2.mpr x2)]
            exact bad (Bool.eq_false_iff.mpr (fun h => (meet_rows.mp h).2.2 x2))
          · rw [if_neg (fun h => x2 (c2.mp h))]
            exact ih (i + 1) f true (by omega) (by omega) (by rw [up, meet_rows.mpr ⟨x0, by omega, x2⟩])
        · rw [if_neg (fun h => x1 (c1.mp h))]
          exact bad (Bool.eq_false_iff.mpr (fun h => (meet_rows.mp h).2.1 (by omega)))
    · rw [if_neg w]
      refine ih (i + 1) f false (by omega) (by omega) ?_
      rw [up, ← hq, Bool.eq_false_iff.mpr w, Bool.false_and]
/-- the class meets -/
theorem c_meet (hL : L ≤ 1600) (ht : ∀ i, i < L → tp i = nI (B i)) (hB : ∀ i, i < L → B i < 256) :
    (gMeetOk B L = true → ∃ rows', mX2_meetRows (nI L) met rows tp = some (true, nI (L / 3), rows') ∧ cRow (L / 3) B (nI (L / 3)) rows') ∧
    (gMeetOk B L = false → mX2_meetRows (nI L) met rows tp = some (false, met, rows)) := by
  unfold mX2_meetRows
  have c0 : (nI L < (3 : Int32)) ↔ L < 3 := nI_ltI (b := 3) (by omega) (by omega)
  have c48 : ((48 : Int32) < nI L) ↔ 48 < L := nI_ltI (a := 48) (by omega) (by omega)
  have er : nI L - nI L / 3 * 3 = nI (L % 3) := pk_rem (d := 3) (by omega) (by decide) (by decide)
  have c3 : (nI (L % 3) = 0) ↔ L % 3 = 0 := nI0 (by omega)
  rw [er]
  by_cases h0 : L < 3
  · rw [if_pos (c0.mpr h0)]
    have : gMeetOk B L = false := by unfold gMeetOk; rw [decide_eq_false (by omega), Bool.false_and]
    exact ⟨fun q => by rw [this] at q; exact absurd q (by decide), fun _ => rfl⟩
  · rw [if_neg (fun q => h0 (c0.mp q))]
    by_cases h48 : 48 < L
    · rw [if_pos (c48.mpr h48)]
      have : gMeetOk B L = false := by unfold gMeetOk; rw [decide_eq_false (by omega), Bool.false_and]
      exact ⟨fun q => by rw [this] at q; exact absurd q (by decide), fun _ => rfl⟩
    · rw [if_neg (fun q => h48 (c48.mp q))]
      by_cases h3 : L % 3 = 0
      · rw [if_pos (c3.mpr h3)]
        have e : gMeetOk B L = gRowsTo B (L / 3) := by unfold gMeetOk; rw [decide_eq_true ⟨by omega, h3, by omega⟩, Bool.true_and]
        have q := c_meet24 (met := met) (rows := rows) (show L ≤ 48 by omega) h3 ht hB (L / 3) 0 xfuel true (Nat.zero_add _) (Nat.lt_of_le_of_lt (show L / 3 + 1 ≤ 17 by omega) (by decide)) rfl
        rw [Nat.mul_zero, show nI 0 = 0 from rfl] at q
        rw [q, e]
        constructor
        · intro h
          rw [if_pos h]
          refine ⟨_, rfl, rfl, fun j hj => ?_⟩
          rw [pk_cpy_in (Nat.zero_le _) (by omega), Nat.zero_add, Nat.sub_zero]
          exact ht j (by omega)
        · intro h
          rw [if_neg (by rw [h]; decide)]
      · rw [if_neg (fun q => h3 (c3.mp q))]
        have : gMeetOk B L = false := by unfold gMeetOk; rw [decide_eq_false (by omega), Bool.false_and]
        exact ⟨fun q => by rw [this] at q; exact absurd q (by decide), fun _ => rfl⟩
end ME
