def cRow (M : Nat) (R : Nat → Nat) (met : Int32) (rows : Nat → Int32) : Prop := met = nI M ∧ ∀ j, j < 3 * M → rows j = nI (R j)
/-- the farthest row, to n -/
def gFar (R : Nat → Nat) : Nat → Nat
  | 0 => 0
  | n + 1 => if gFar R n < R (3 * n) then R (3 * n) else gFar R n
theorem gFar_ge (R : Nat → Nat) : ∀ {n i : Nat}, i < n → R (3 * i) ≤ gFar R n := by
  intro n
  induction n with
  | zero => intro i h; omega
  | succ n ih =>
    intro i h
    rw [gFar]
    by_cases e : i = n
    · subst e; split <;> omega
    · have := ih (show i < n by omega)
      split <;> omega
theorem gFar_le {R : Nat → Nat} {B : Nat} : ∀ {n : Nat}, (∀ i, i < n → R (3 * i) ≤ B) → gFar R n ≤ B := by
  intro n
  induction n with
  | zero => intro _; exact Nat.zero_le B
  | succ n ih =>
    intro h
    have a := ih (fun i hi => h i (by omega))
    have b := h n (by omega)
    rw [gFar]
    split <;> omega
section CGU
variable {g : GH} {P : GP} {M : Nat} {R : Nat → Nat} {met : Int32} {rows cn : Nat → Int32} {t D : Nat}
theorem c_at0 {M i : Nat} (hM : M ≤ 16) (hi : i < M) (rows : Nat → Int32) : mX11_at 48 (nI i * 3) rows = rows (3 * i) ∧ mX11_at 48 (nI i * 3 + 1) rows = rows (3 * i + 1) ∧ mX11_at 48 (nI i * 3 + 2) rows = rows (3 * i + 2) := by
  have e : nI i * 3 = nI (3 * i) := by rw [show (3 : Int32) = nI 3 from rfl, pk_mul, Nat.mul_comm]
  rw [e, show nI (3 * i) + 1 = nI (3 * i + 1) from nI_1 _, show nI (3 * i) + 2 = nI (3 * i + 2) from nI_add _ 2]
  exact ⟨s_at 48 _ (by omega) (by decide) rows, s_at 48 _ (by omega) (by decide) rows, s_at 48 _ (by omega) (by decide) rows⟩
theorem c_far2 (hM : gMet M R) (hr : cRow M R met rows) : mX2_farthest met rows = nI (gFar R M) := by
  obtain ⟨h1, h2⟩ := hM
  obtain ⟨rfl, hr⟩ := hr
  unfold mX2_farthest
  have go : ∀ k i, i + k = 16 → i ≤ M → mX2_farthest_4 (nI M) rows k i (nI (gFar R i)) = nI (gFar R M) := by
    intro k
    induction k with
    | zero =>
      intro i hi hm
      have : i = M := by omega
      rw [mX2_farthest_4, ite_self, this]
    | succ k ih =>
      intro i hi hm
      rw [mX2_farthest_4]
      by_cases l : i < M
      · rw [if_pos (nI_lt l (by omega)), (c_at0 h1 l rows).1, hr _ (by omega)]
        have a := (h2 i l).1
        have b := gFar_le (B := 20) (fun k (hk : k < i) => (h2 k (by omega)).1)
        have c : (nI (gFar R i) < nI (R (3 * i))) ↔ gFar R i < R (3 * i) := nI_ltI (by omega) (by omega)
        have e : gFar R (i + 1) = if gFar R i < R (3 * i) then R (3 * i) else gFar R i := rfl
        have ix := ih (i + 1) (by omega) (by omega)
        rw [e] at ix
        by_cases w : gFar R i < R (3 * i)
        · rw [if_pos (c.mpr w)]
          rw [if_pos w] at ix
          exact ix
        · rw [if_neg (fun q => w (c.mp q))]
          rw [if_neg w] at ix
          exact ix
      · have : i = M := by omega
        rw [if_neg (nI_nlt (by omega) (by omega)), this]
  exact go 16 0 rfl (Nat.zero_le _)
theorem c_counted (hM : gMet M R) (T : gT2 P g t D (P.2.2 + 1) cn) (hU2 : P.2.2 ≤ 99) {z m k : Nat} (hz0 : 0 < z) (hz : z ≤ P.2.2) (hm : m ≤ 20) (hk : k < 3) : mX2_counted (nI z) (nI m) (nI k) cn = if m ≤ gMn D g then nI (gQ P g t z m k) else -1 := by
  unfold mX2_counted
  have e0 : nI z * 63 + nI m * 3 + nI k = nI (63 * z + 3 * m + k) := by rw [show (63 : Int32) = nI 63 from rfl, show (3 : Int32) = nI 3 from rfl, pk_mul, pk_mul, nI_add, nI_add, Nat.mul_comm z, Nat.mul_comm m]
  rw [e0, s_at 6300 _ (by omega) (by decide)]
  exact T z hz0 (by omega) m hm k hk
theorem c_fits (W : gW g) (hg : 0 < g 0 t) (hM : gMet M R) (hr : cRow M R met rows) (T : gT2 P g t D (P.2.2 + 1) cn) (hU2 : P.2.2 ≤ 99) (hD : gFar R M ≤ D) {z : Nat} (hz0 : 0 < z) (hz : z ≤ P.2.2) : mX2_fits (nI z) met rows cn = gFits P g t M R z := by
  obtain ⟨rfl, hrr⟩ := id hr
  obtain ⟨h1, h2⟩ := id hM
  have all : gFits P g t M R z = true ↔ ∀ i, i < M → gF1' P g t R z i = true := by
    unfold gFits
    rw [decide_eq_true_eq]
    exact fb_ct_all
  unfold mX2_fits
  have go : ∀ k i (q : Bool), i + k = 16 → i ≤ M → (q = true ↔ ∀ y, y < i → gF1' P g t R z y = true) → mX2_fits_4 (nI z) (nI M) rows cn k i q = gFits P g t M R z := by
    intro k
    induction k with
    | zero =>
      intro i q hi hm hq
      have : i = M := by omega
      subst this
      rw [mX2_fits_4, ite_self, Bool.eq_iff_iff, hq, all]
    | succ k ih =>
      intro i q hi hm hq
      rw [mX2_fits_4]
      by_cases l : i < M
      · obtain ⟨a1, a2, a3⟩ := h2 i l
        obtain ⟨b1, b2, b3⟩ := c_at0 h1 l rows
        rw [if_pos (nI_lt l (by omega)), b1, b2, b3, hrr _ (by omega), hrr _ (by omega), hrr _ (by omega), c_counted hM T hU2 hz0 hz a1 (by omega)]
        have hf := gFar_ge R l
        have hQ := gQ_40 P W hg hz0 (show z ≤ 99 by omega) (R (3 * i)) (R (3 * i + 1))
        have e : (((if R (3 * i) ≤ gMn D g then nI (gQ P g t z (R (3 * i)) (R (3 * i + 1))) else -1) : Int32) = nI (R (3 * i + 2))) ↔ gF1' P g t R z i = true := by
          unfold gF1'
          rw [Bool.and_eq_true, decide_eq_true_eq, decide_eq_true_eq]
          have em : R (3 * i) ≤ gMn D g ↔ R (3 * i) ≤ gR20 g := by
            unfold gMn
            split <;> omega
          by_cases w : R (3 * i) ≤ gMn D g
          · rw [if_pos w, nI_eq (by omega) (by omega)]
            exact ⟨fun q => ⟨em.mp w, q⟩, fun q => q.2⟩
          · rw [if_neg w]
            exact ⟨fun q => absurd q.symm (nI_m1 (by omega)), fun q => absurd (em.mpr q.1) w⟩
        have up : ∀ x : Bool, (x = true ↔ (q = true ∧ gF1' P g t R z i = true)) → (x = true ↔ ∀ y, y < i + 1 → gF1' P g t R z y = true) := by
          intro x hx
          rw [hx, hq]
          constructor
          · rintro ⟨u, v⟩ y hy
            by_cases w : y = i
            · rw [w]; exact v
            · exact u y (by omega)
          · intro u
            exact ⟨fun y hy => u y (by omega), u i (by omega)⟩
        by_cases w : q = true
        · rw [if_pos w]
          by_cases v : gF1' P g t R z i = true
          · rw [if_pos (e.mpr v)]
            exact ih (i + 1) true (by omega) (by omega) (up true ⟨fun _ => ⟨w, v⟩, fun _ => rfl⟩)
          · rw [if_neg (fun x => v (e.mp x))]
            exact ih (i + 1) false (by omega) (by omega) (up false ⟨fun x => absurd x (by decide), fun x => absurd x.2 v⟩)
        · rw [if_neg w]
          have : q = false := Bool.eq_false_iff.mpr w
          subst this
          symm
          refine Bool.eq_false_iff.mpr (fun x => ?_)
          exact absurd (hq.mpr (fun y hy => (all.mp x) y (by omega))) (by decide)
      · have : i = M := by omega
        subst this
        rw [if_neg (nI_nlt (by omega) (by omega)), Bool.eq_iff_iff, hq, all]
  exact go 16 0 true rfl (Nat.zero_le _) ⟨fun _ y hy => absurd hy (Nat.not_lt_zero y), fun _ => rfl⟩
theorem c_left (W : gW g) (hg : 0 < g 0 t) (hM : gMet M R) (hr : cRow M R met rows) (T : gT2 P g t D (P.2.2 + 1) cn) (hU2 : P.2.2 ≤ 99) (hD : gFar R M ≤ D) : mX2_left met (nI P.2.2) rows cn = nI (gLeft P g t M R P.2.2) := by
  unfold mX2_left
  have go : ∀ k i, i + 1 + k = 100 → i ≤ P.2.2 → mX2_left_4 met (nI P.2.2) rows cn k (i + 1) (nI (gLeft P g t M R i)) = nI (gLeft P g t M R P.2.2) := by
    intro k
    induction k with
    | zero =>
      intro i hi hm
      have : i = P.2.2 := by omega
      rw [mX2_left_4, ite_self, this]
    | succ k ih =>
      intro i hi hm
      rw [mX2_left_4]
      by_cases l : P.2.2 < i + 1
      · have : i = P.2.2 := by omega
        rw [if_pos (nI_lt l (by omega)), this]
      · rw [if_neg (nI_nlt (by omega) (by omega)), c_fits W hg hM hr T hU2 hD (by omega) (by omega)]
        have el : gLeft P g t M R (i + 1) = gLeft P g t M R i + if gFits P g t M R (i + 1) = true then 1 else 0 := fb_ct_succ _ _
        have ix := ih (i + 1) (by omega) (by omega)
        by_cases q : gFits P g t M R (i + 1) = true
        · rw [if_pos q, nI_1]
          rw [el, if_pos q] at ix
          exact ix
        · rw [if_neg q, Int32.add_zero]
          rw [el, if_neg q] at ix
          exact ix
  exact go 99 0 rfl (Nat.zero_le _)
theorem c_nth (W : gW g) (hg : 0 < g 0 t) (hM : gMet M R) (hr : cRow M R met rows) (T : gT2 P g t D (P.2.2 + 1) cn) (hU2 : P.2.2 ≤ 99) (hD : gFar R M ≤ D) (K : Int32) : mX2_nthLeft K met (nI P.2.2) rows cn = nthF (gFits P g t M R) K P.2.2 1 0 := by
  unfold mX2_nthLeft
  have go : ∀ k i m c, i + k = 100 → i + m = P.2.2 + 1 → 0 < i → mX2_nthLeft_4 K met (nI P.2.2) rows cn k i (nI c) = nthF (gFits P g t M R) K m i c := by
    intro k
    induction k with
    | zero =>
      intro i m c hi hm h0
      have : m = 0 := by omega
      subst this
      rw [mX2_nthLeft_4, ite_self, nthF]
    | succ k ih =>
      intro i m c hi hm h0
      rw [mX2_nthLeft_4]
      by_cases l : P.2.2 < i
      · have : m = 0 := by omega
        subst this
        rw [if_pos (nI_lt l (by omega)), nthF]
      · obtain ⟨m, rfl⟩ : ∃ q, m = q + 1 := ⟨m - 1, by omega⟩
        rw [if_neg (nI_nlt (by omega) (by omega)), c_fits W hg hM hr T hU2 hD h0 (by omega), nthF]
        by_cases q : gFits P g t M R i = true
        · rw [if_pos q, if_pos q]
          by_cases w : nI c = K
          · rw [if_pos w, if_pos w]
          · rw [if_neg w, if_neg w, nI_1]
            exact ih (i + 1) m (c + 1) (by omega) (by omega) (by omega)
        · rw [if_neg q, if_neg q]
          exact ih (i + 1) m c (by omega) (by omega) (by omega)
  exact go 99 1 P.2.2 0 rfl (Nat.add_comm _ _) (by decide)
theorem c_most (W : gW g) (hg : 0 < g 0 t) (hM : gMet M R) (hr : cRow M R met rows) (T : gT2 P g t 20 (P.2.2 + 1) cn) (hU2 : P.2.2 ≤ 99) {n k : Nat} (hn : n ≤ gR20 g) (hk : k < 3) (ta : Nat → Int32) : ∃ ta', mX2_mostAlike (nI n) (nI k) met (nI P.2.2) rows cn ta = (nI (gMoA P g t M R n k), ta') := by
  have hR := gR20_le g
  have hD : gFar R M ≤ 20 := gFar_le (fun i hi => (hM.2 i hi).1)
  unfold mX2_mostAlike gMoA
  rw [xlet_eq]
  have go : ∀ kk i (tb : Nat → Int32), i + 1 + kk = 100 → i ≤ P.2.2 → (∀ y, y ≤ 40 → tb y = nI (tct (gFits P g t M R) (fun y => gQ P g t y n k) i y)) → ∃ ta', mX2_mostAlike_13 (nI n) (nI k) met (nI P.2.2) rows cn kk (i + 1) (nI (gMo (gFits P g t M R) (fun y => gQ P g t y n k) i)) tb = (nI (gMo (gFits P g t M R) (fun y => gQ P g t y n k) P.2.2), ta') := by
    intro kk
    induction kk with
    | zero =>
      intro i tb hi hm h
      have : i = P.2.2 := by omega
      rw [mX2_mostAlike_13, ite_self, this]
      exact ⟨tb, rfl⟩
    | succ kk ih =>
      intro i tb hi hm h
      rw [mX2_mostAlike_13]
      by_cases l : P.2.2 < i + 1
      · have : i = P.2.2 := by omega
        rw [if_pos (nI_lt l (by omega)), this]
        exact ⟨tb, rfl⟩
      · have hv := gQ_40 P W hg (show 0 < i + 1 by omega) (show i + 1 ≤ 99 by omega) n k
        have et : ∀ y, tct (gFits P g t M R) (fun y => gQ P g t y n k) (i + 1) y = tct (gFits P g t M R) (fun y => gQ P g t y n k) i y + if (gFits P g t M R (i + 1) && decide (gQ P g t (i + 1) n k = y)) = true then 1 else 0 := fun y => fb_ct_succ _ _
        have eg : gMo (gFits P g t M R) (fun y => gQ P g t y n k) (i + 1) = if gFits P g t M R (i + 1) = true then (if gMo (gFits P g t M R) (fun y => gQ P g t y n k) i < tct (gFits P g t M R) (fun y => gQ P g t y n k) (i + 1) (gQ P g t (i + 1) n k) then tct (gFits P g t M R) (fun y => gQ P g t y n k) (i + 1) (gQ P g t (i + 1) n k) else gMo (gFits P g t M R) (fun y => gQ P g t y n k) i) else gMo (gFits P g t M R) (fun y => gQ P g t y n k) i := rfl
        rw [if_neg (nI_nlt (by omega) (by omega)), c_fits W hg hM hr T hU2 hD (by omega) (by omega), c_counted hM T hU2 (by omega) (by omega) (by omega) hk, if_pos (show n ≤ gMn 20 g by unfold gMn; split <;> omega), s_at 42 _ (by omega) (by decide), s_put 42 _ (by omega) (by decide), xlet_eq, h _ hv, nI_1 (tct _ _ _ _)]
        by_cases q : gFits P g t M R (i + 1) = true
        · rw [if_pos q] at eg
          have e1 : tct (gFits P g t M R) (fun y => gQ P g t y n k) (i + 1) (gQ P g t (i + 1) n k) = tct (gFits P g t M R) (fun y => gQ P g t y n k) i (gQ P g t (i + 1) n k) + 1 := by
            rw [et, if_pos (show (gFits P g t M R (i + 1) && decide (gQ P g t (i + 1) n k = gQ P g t (i + 1) n k)) = true by rw [q, decide_eq_true rfl]; rfl)]
          rw [if_pos q, ← e1]
          have H : ∀ y, y ≤ 40 → upd tb (gQ P g t (i + 1) n k) (nI (tct (gFits P g t M R) (fun y => gQ P g t y n k) (i + 1) (gQ P g t (i + 1) n k))) y = nI (tct (gFits P g t M R) (fun y => gQ P g t y n k) (i + 1) y) := by
            intro y hy
            by_cases w : y = gQ P g t (i + 1) n k
            · rw [w, pk_us]
            · rw [pk_un w, h y hy, et, if_neg (fun x => w (of_decide_eq_true ((Bool.and_eq_true _ _).mp x).2).symm)]
              rfl
          have b1 := gMo_le (gFits P g t M R) (fun y => gQ P g t y n k) i
          have b2 := tct_le (gFits P g t M R) (fun y => gQ P g t y n k) (i + 1) (gQ P g t (i + 1) n k)
          have c : (nI (gMo (gFits P g t M R) (fun y => gQ P g t y n k) i) < nI (tct (gFits P g t M R) (fun y => gQ P g t y n k) (i + 1) (gQ P g t (i + 1) n k))) ↔ gMo (gFits P g t M R) (fun y => gQ P g t y n k) i < tct (gFits P g t M R) (fun y => gQ P g t y n k) (i + 1) (gQ P g t (i + 1) n k) := nI_ltI (by omega) (by omega)
          have ix := ih (i + 1) _ (by omega) (by omega) H
          rw [eg] at ix
          by_cases w : gMo (gFits P g t M R) (fun y => gQ P g t y n k) i < tct (gFits P g t M R) (fun y => gQ P g t y n k) (i + 1) (gQ P g t (i + 1) n k)
          · rw [if_pos (c.mpr w)]
            rw [if_pos w] at ix
            exact ix
          · rw [if_neg (fun x => w (c.mp x))]
            rw [if_neg w] at ix
            exact ix
        · rw [if_neg q] at eg
          rw [if_neg q]
          have ix := ih (i + 1) tb (by omega) (by omega) (fun y hy => by rw [h y hy, et, if_neg (fun x => q ((Bool.and_eq_true _ _).mp x).1)]; rfl)
          rw [eg] at ix
          exact ix
  exact go 99 0 _ rfl (Nat.zero_le _) (fun y hy => by rw [s_fill 42 (by decide) 0 ta y (by omega)]; rfl)
end CGU
