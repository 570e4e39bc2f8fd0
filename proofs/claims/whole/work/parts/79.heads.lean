/-- may one STEP so far, on both sides -/
theorem k_canStep {g : GH} {U : Nat} {un sp : Int32} {so : Nat → Int32} (hU : un = nI U) (hU2 : U < 1000) (h3 : so 0 = nI (g 8 0)) (h8 : g 8 0 ≤ 999) (hs : sp = nI (g 8 0)) (x : Int32) : mX12_isAhead x 1 60 (decide (0 < U)) so = mX11_canStep x un sp ∧ (mX11_canStep x un sp = true → ∃ n, x = nI n ∧ 1 ≤ n ∧ n ≤ 60 ∧ g 8 0 + n ≤ 999 ∧ 0 < U) := by
  unfold mX11_canStep mX11_hasHeap
  have cu : (0 < un) ↔ 0 < U := by rw [hU]; exact nIp (by omega)
  by_cases u : 0 < U
  · rw [if_pos (cu.mpr u), if_pos rfl, decide_eq_true u]
    rcases k_range x (N := 61) (by decide) (by decide) with ⟨a, -⟩ | ⟨n, hn, rfl, -⟩
    · have e : mX12_isAhead x 1 60 true so = false := by
        unfold mX12_isAhead
        rw [if_pos rfl, z_is]
        rcases a with a | a
        · rw [decide_eq_true (show x < 1 from Int32.lt_of_lt_of_le a (show (0 : Int32) ≤ 1 by decide)), Bool.not_true, Bool.false_and, if_neg (by decide)]
        · rw [decide_eq_true (show (60 : Int32) < x from Int32.lt_of_lt_of_le (show (60 : Int32) < nI 61 by decide) (Int32.not_lt.mp a)), Bool.not_true, Bool.and_false, if_neg (by decide)]
      rw [e]
      rcases a with a | a
      · rw [if_pos (show x < 1 from Int32.lt_of_lt_of_le a (show (0 : Int32) ≤ 1 by decide))]
        exact ⟨rfl, fun q => absurd q (by decide)⟩
      · have l : (60 : Int32) < x := Int32.lt_of_lt_of_le (show (60 : Int32) < nI 61 by decide) (Int32.not_lt.mp a)
        by_cases b : x < 1
        · rw [if_pos b]; exact ⟨rfl, fun q => absurd q (by decide)⟩
        · rw [if_neg b, if_pos l]; exact ⟨rfl, fun q => absurd q (by decide)⟩
    · have c1 : (nI n < (1 : Int32)) ↔ n < 1 := nI_ltI (b := 1) (by omega) (by omega)
      have c3 : ((999 : Int32) < nI (g 8 0 + n)) ↔ 999 < g 8 0 + n := nI_ltI (a := 999) (by omega) (by omega)
      rw [show mX12_isAhead (nI n) (1 : Int32) 60 true so = _ from r_ahead (a := 1) h3 h8 (by omega) (Nat.le_refl 1), hs, nI_add]
      have hR : gR g = if 999 - g 8 0 < 60 then 999 - g 8 0 else 60 := rfl
      by_cases a : n < 1
      · rw [if_pos (c1.mpr a), decide_eq_false (by omega)]
        exact ⟨rfl, fun q => absurd q (by decide)⟩
      · rw [if_neg (fun q => a (c1.mp q)), if_neg (show ¬ (60 : Int32) < nI n from nI_nlt (a := 60) (b := n) (by omega) (by decide))]
        by_cases b : 999 < g 8 0 + n
        · rw [if_pos (c3.mpr b), decide_eq_false (by rw [hR]; split <;> omega)]
          exact ⟨rfl, fun q => absurd q (by decide)⟩
        · rw [if_neg (fun q => b (c3.mp q)), decide_eq_true (by rw [hR]; split <;> omega)]
          exact ⟨rfl, fun _ => ⟨n, rfl, by omega, by omega, by omega, u⟩⟩
  · rw [if_neg (fun q => u (cu.mp q)), if_neg (show ¬ false = true by decide), decide_eq_false u]
    unfold mX12_isAhead
    rw [if_neg (show ¬ false = true by decide)]
    exact ⟨rfl, fun q => absurd q (by decide)⟩
