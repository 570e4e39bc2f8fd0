/-- what stands when the first CAR is empty -/
def gFn (h : GH) (s : Nat) : GH := gPs (gDr h (gWt h)) s
theorem gFn_n (h : GH) (s : Nat) {b : Nat} (e : ¬ (s ≠ 0 ∧ h 9 b = 1)) (a : Nat) : gFn h s a b = gDr h (gWt h) a b := by
  unfold gFn gPs
  rw [gDr_o h _ (a := 9) (by decide), if_neg e]
theorem gFn_y (h : GH) (s : Nat) {b : Nat} (e : s ≠ 0 ∧ h 9 b = 1) : gFn h s 1 b = s - 1 ∧ gFn h s 2 b = gPc (gDr h (gWt h)) s ∧ gFn h s 3 b = fb_ct (fun u => decide (h 9 u = 1 ∧ h 3 u < h 3 b)) 40 ∧ gFn h s 9 b = 0 := by
  have e9 : ∀ u, gDr h (gWt h) 9 u = h 9 u := gDr_o h _ (by decide)
  have e3 : ∀ u, gDr h (gWt h) 3 u = h 3 u := gDr_o h _ (by decide)
  unfold gFn gPs
  rw [e9 b, if_pos e, if_pos e, if_pos e, if_pos e, if_pos rfl, if_neg (by decide), if_pos rfl, if_neg (by decide), if_neg (by decide), if_pos rfl, if_neg (by decide), if_neg (by decide), if_neg (by decide), if_pos rfl]
  refine ⟨rfl, rfl, ?_, rfl⟩
  simp only [e9, e3]
theorem gFn_o (h : GH) (s : Nat) {a : Nat} (e : a ≠ 1 ∧ a ≠ 2 ∧ a ≠ 3 ∧ a ≠ 9) (b : Nat) : gFn h s a b = gDr h (gWt h) a b := by
  unfold gFn gPs
  by_cases q : s ≠ 0 ∧ gDr h (gWt h) 9 b = 1
  · rw [if_pos q, if_neg e.1, if_neg e.2.1, if_neg e.2.2.1, if_neg e.2.2.2]
  · rw [if_neg q]
section SB
variable {h : GH} {T s : Nat}
theorem gFn_th (I : mI h T s) {u : Nat} (hu : u < 40) : 0 < gFn h s 0 u ↔ (gZ h u ∨ h 9 u = 1) := by
  rw [gFn_o h s (by decide)]; exact gD_th I hu
theorem gFn_Z (I : mI h T s) {u : Nat} (z : gZ h u) : 0 < gFn h s 0 u ∧ gFn h s 1 u = h 1 u ∧ gFn h s 2 u = h 2 u ∧ gFn h s 3 u = h 3 u := by
  have n : ¬ (s ≠ 0 ∧ h 9 u = 1) := fun q => gZ_9 I z q.2
  rw [gFn_n h s n, gFn_n h s n, gFn_n h s n, gFn_n h s n, gDr_o h _ (a := 1) (by decide), gDr_o h _ (a := 2) (by decide), gDr_o h _ (a := 3) (by decide)]
  exact ⟨(gD_th I z.1).mpr (Or.inl z), rfl, rfl, rfl⟩
theorem gFn_S (I : mI h T s) {u : Nat} (hu : u < 40) (z : h 9 u = 1) : s ≠ 0 ∧ 0 < gFn h s 0 u ∧ gFn h s 1 u = s - 1 ∧ gFn h s 2 u = gPc (gDr h (gWt h)) s ∧ gFn h s 3 u = fb_ct (fun w => decide (h 9 w = 1 ∧ h 3 w < h 3 u)) 40 := by
  have hs := (I.2.2.2.2.2.2.1.2.2.1 u hu z).1
  have a := gFn_y h s ⟨hs, z⟩
  exact ⟨hs, (gFn_th I hu).mpr (Or.inr z), a.1, a.2.1, a.2.2.1⟩
/-- those that STAYED: no two have one place -/
theorem gFn_st (I : mI h T s) {a b : Nat} (ha : a < 40) (hb : b < 40) (za : h 9 a = 1) (zb : h 9 b = 1) (e : h 3 a = h 3 b) : a = b := by
  have pa : 0 < h 0 a := by
    by_cases z : h 0 a = 0
    · have := ((I.1 a ha).2.2.2.2 z).2; omega
    · omega
  have pb : 0 < h 0 b := by
    by_cases z : h 0 b = 0
    · have := ((I.1 b hb).2.2.2.2 z).2; omega
    · omega
  have x := (I.2.1.2 a ha pa).2.1 za
  have y := (I.2.1.2 b hb pb).2.1 zb
  exact I.2.2.2.2.1 a b ha hb pa pb (by omega) (by omega) e
theorem ct_mono {p q : Nat → Bool} {n t : Nat} (ht : t < n) (hq : q t = true) (hp : p t = false) (h : ∀ u, u < n → p u = true → q u = true) : fb_ct p n < fb_ct q n := by
  have := fb_ct_less (p := p) (q := q) ht hq (fun u hu x => ⟨fun e => by subst e; rw [hp] at x; exact absurd x (by decide), h u hu x⟩)
  omega
theorem gFn_rk (I : mI h T s) {a b : Nat} (ha : a < 40) (za : h 9 a = 1) (hlt : h 3 a < h 3 b) : fb_ct (fun w => decide (h 9 w = 1 ∧ h 3 w < h 3 a)) 40 < fb_ct (fun w => decide (h 9 w = 1 ∧ h 3 w < h 3 b)) 40 :=
  ct_mono ha (decide_eq_true ⟨za, hlt⟩) (decide_eq_false (fun q => Nat.lt_irrefl _ q.2)) (fun u _ q => by
    have q := of_decide_eq_true q
    exact decide_eq_true ⟨q.1, by omega⟩)
/-- each rank below that of one is of another -/
theorem gFn_rks (I : mI h T s) : ∀ (m b : Nat), b < 40 → h 9 b = 1 → h 3 b ≤ m → ∀ p, p < fb_ct (fun w => decide (h 9 w = 1 ∧ h 3 w < h 3 b)) 40 → ∃ u, u < 40 ∧ h 9 u = 1 ∧ fb_ct (fun w => decide (h 9 w = 1 ∧ h 3 w < h 3 u)) 40 = p := by
  intro m
  induction m with
  | zero =>
    intro b hb zb hm p hp
    have : fb_ct (fun w => decide (h 9 w = 1 ∧ h 3 w < h 3 b)) 40 = 0 := fb_ct_zero.mpr (fun k hk => decide_eq_false (fun q => by omega))
    omega
  | succ m ih =>
    intro b hb zb hm p hp
    obtain ⟨k, hk, ek⟩ := fb_ct_pos.mp (show 0 < fb_ct (fun w => decide (h 9 w = 1 ∧ h 3 w < h 3 b)) 40 by omega)
    -- the last one ahead of b
    obtain ⟨c, hc, qc, ec⟩ := bmx_at (p := fun w => decide (h 9 w = 1 ∧ h 3 w < h 3 b)) (c := h 3) (n := 40) (by have := bmx_lt (p := fun w => decide (h 9 w = 1 ∧ h 3 w < h 3 b)) (c := h 3) hk ek; omega)
    have qc' := of_decide_eq_true qc
    have top : ∀ w, w < 40 → h 9 w = 1 → h 3 w < h 3 b → h 3 w ≤ h 3 c := fun w hw a x => by
      have := bmx_lt (p := fun w => decide (h 9 w = 1 ∧ h 3 w < h 3 b)) (c := h 3) hw (decide_eq_true ⟨a, x⟩)
      omega
    have e : fb_ct (fun w => decide (h 9 w = 1 ∧ h 3 w < h 3 c)) 40 + 1 = fb_ct (fun w => decide (h 9 w = 1 ∧ h 3 w < h 3 b)) 40 := by
      have u := fb_ct_upd (fun w => decide (h 9 w = 1 ∧ h 3 w < h 3 b)) false (i := c) (n := 40) hc
      simp only [qc, if_true, Bool.false_eq_true, if_false] at u
      have : fb_ct (fun k => if k = c then false else decide (h 9 k = 1 ∧ h 3 k < h 3 b)) 40 = fb_ct (fun w => decide (h 9 w = 1 ∧ h 3 w < h 3 c)) 40 := fb_ct_cong (fun w hw => by
        by_cases z : w = c
        · subst z; rw [if_pos rfl, decide_eq_false (fun q => Nat.lt_irrefl _ q.2)]
        · rw [if_neg z, decide_eq_decide]
          constructor
          · rintro ⟨x, y⟩
            refine ⟨x, ?_⟩
            have := top w hw x y
            have : h 3 w ≠ h 3 c := fun q => z (gFn_st I hw hc x qc'.1 q)
            omega
          · rintro ⟨x, y⟩
            exact ⟨x, by omega⟩)
      omega
    by_cases z : p = fb_ct (fun w => decide (h 9 w = 1 ∧ h 3 w < h 3 c)) 40
    · exact ⟨c, hc, qc'.1, z.symm⟩
    · exact ih c hc qc'.1 (by omega) p (by omega)
end SB
