/-- how many below n of value y -/
def tct (p : Nat → Bool) (v : Nat → Nat) (n y : Nat) : Nat := fb_ct (fun i => p (i + 1) && decide (v (i + 1) = y)) n
/-- the most alike, to n -/
def gMo (p : Nat → Bool) (v : Nat → Nat) : Nat → Nat
  | 0 => 0
  | n + 1 => if p (n + 1) = true then (if gMo p v n < tct p v (n + 1) (v (n + 1)) then tct p v (n + 1) (v (n + 1)) else gMo p v n) else gMo p v n
theorem tct_le (p : Nat → Bool) (v : Nat → Nat) (n y : Nat) : tct p v n y ≤ n := fb_ct_le _ n
theorem gMo_le (p : Nat → Bool) (v : Nat → Nat) : ∀ n, gMo p v n ≤ n
  | 0 => Nat.le_refl 0
  | n + 1 => by
    have := gMo_le p v n
    have := tct_le p v (n + 1) (v (n + 1))
    rw [gMo]
    split
    · split <;> omega
    · omega
theorem gMo_pos {p : Nat → Bool} {v : Nat → Nat} : ∀ {n : Nat}, 0 < fb_ct (fun i => p (i + 1)) n → 0 < gMo p v n := by
  intro n
  induction n with
  | zero => intro h; exact absurd h (Nat.lt_irrefl 0)
  | succ n ih =>
    intro h
    rw [gMo]
    by_cases q : p (n + 1) = true
    · rw [if_pos q]
      have : 0 < tct p v (n + 1) (v (n + 1)) := fb_ct_pos.mpr ⟨n, by omega, (Bool.and_eq_true _ _).mpr ⟨q, decide_eq_true rfl⟩⟩
      split <;> omega
    · rw [if_neg q]
      rw [fb_ct_succ, if_neg q] at h
      exact ih h
theorem gMo_0 {p : Nat → Bool} {v : Nat → Nat} : ∀ {n : Nat}, fb_ct (fun i => p (i + 1)) n = 0 → gMo p v n = 0 := by
  intro n h
  induction n with
  | zero => rfl
  | succ n ih =>
    have a := fb_ct_zero.mp h
    rw [gMo, if_neg (fun q => by rw [show p (n + 1) = false from a n (by omega)] at q; exact absurd q (by decide))]
    exact ih (fb_ct_zero.mpr (fun k hk => a k (by omega)))
def gMoA (P : GP) (g : GH) (t M : Nat) (R : Nat → Nat) (n k : Nat) : Nat := gMo (gFits P g t M R) (fun y => gQ P g t y n k) P.2.2
/-- what tells most: after j -/
def gTe (P : GP) (g : GH) (t M : Nat) (R : Nat → Nat) : Nat → Nat × Nat
  | 0 => (0, 0)
  | j + 1 => if (gTe P g t M R j).1 = 0 ∨ gMoA P g t M R (j / 3 + 1) (j % 3) < (gTe P g t M R j).2 then (j + 1, gMoA P g t M R (j / 3 + 1) (j % 3)) else gTe P g t M R j
theorem gTe_le (P : GP) (g : GH) (t M : Nat) (R : Nat → Nat) : ∀ j, (gTe P g t M R j).1 ≤ j ∧ (gTe P g t M R j).2 ≤ P.2.2
  | 0 => ⟨Nat.le_refl 0, Nat.zero_le _⟩
  | j + 1 => by
    have := gTe_le P g t M R j
    have : gMoA P g t M R (j / 3 + 1) (j % 3) ≤ P.2.2 := gMo_le _ _ _
    rw [gTe]
    split
    · exact ⟨Nat.le_refl _, this⟩
    · omega
def gTv (s : Nat × Nat) (w : Int32) : Int32 := if s.1 = 0 then -1 else if w = 0 then nI ((s.1 + 2) / 3) else if w = 1 then nI ((s.1 + 2) % 3) else nI s.2
def te4 (s : Nat × Nat) : Int32 := if s.1 = 0 then -1 else nI (s.1 + 2)
def te5 (s : Nat × Nat) : Int32 := if s.1 = 0 then 100000000 else nI s.2
section RTE
variable {b : Nat} {g : GH} {ut : Nat → Int32} {P : GP} {M : Nat} {R : Nat → Nat}
theorem r_most26 (hb : b < 2) {U : Nat} (hU : ut b = nI U) (hU2 : U ≤ 99) (p : Nat → Bool) (v : Nat → Nat) {n kk : Nat} (hn : n ≤ 20) (hk : kk < 3) {il mb : Nat → Int32} (hil : ∀ y, 0 < y → y ≤ U → il y = if p y = true then 1 else 0) (hmb : ∀ y, 0 < y → y ≤ U → mb (63 * y + 3 * n + kk) = nI (v y) ∧ v y ≤ 40) : ∀ k z f (many : Nat → Int32), z + k = U → k + 1 < f → (∀ y, y ≤ 40 → many y = nI (tct p v z y)) →
    ∃ many', mX12_mostBy_26 (nI n) (nI kk) (nI b) ut il mb f (nI (gMo p v z)) (nI (z + 1)) many = some (nI (gMo p v U), many') := by
  intro k
  induction k with
  | zero =>
    intro z f many hz hf h
    obtain ⟨f, rfl⟩ : ∃ q, f = q + 1 := ⟨f - 1, by omega⟩
    have : z = U := by omega
    rw [mX12_mostBy_26, zb b 2 (by omega) (by decide), if_pos rfl, zc b (by omega), hU, if_pos (nI_lt (by omega) (by omega)), this]
    exact ⟨many, rfl⟩
  | succ k ih =>
    intro z f many hz hf h
    obtain ⟨f, rfl⟩ : ∃ q, f = q + 1 := ⟨f - 1, by omega⟩
    obtain ⟨m1, m2⟩ := hmb (z + 1) (by omega) (by omega)
    have e63 : (63 : Int32) * nI (z + 1) = nI (63 * (z + 1)) := by rw [show (63 : Int32) = nI 63 from rfl, pk_mul]
    have e3 : (3 : Int32) * nI n = nI (3 * n) := by rw [show (3 : Int32) = nI 3 from rfl, pk_mul]
    rw [mX12_mostBy_26, zb b 2 (by omega) (by decide), if_pos rfl, zc b (by omega), hU, if_neg (nI_nlt (by omega) (by omega)), zb (z + 1) 100 (by omega) (by decide), if_pos rfl, zc (z + 1) (by omega), hil (z + 1) (by omega) (by omega), nI_1 (z + 1), e63, e3, nI_add, nI_add, zb _ 6300 (by omega) (by decide), zc _ (by omega), m1, zb _ 41 (by omega) (by decide), zc _ (by omega), h _ m2, nI_1 (tct p v z (v (z + 1))), pk_us]
    have et : ∀ y, tct p v (z + 1) y = tct p v z y + if (p (z + 1) && decide (v (z + 1) = y)) = true then 1 else 0 := fun y => fb_ct_succ _ _
    have eg : gMo p v (z + 1) = if p (z + 1) = true then (if gMo p v z < tct p v (z + 1) (v (z + 1)) then tct p v (z + 1) (v (z + 1)) else gMo p v z) else gMo p v z := rfl
    by_cases q : p (z + 1) = true
    · rw [if_pos q] at eg
      have e1 : tct p v (z + 1) (v (z + 1)) = tct p v z (v (z + 1)) + 1 := by
        rw [et, if_pos (show (p (z + 1) && decide (v (z + 1) = v (z + 1))) = true by rw [q, decide_eq_true rfl]; rfl)]
      rw [if_pos q, if_neg (show ¬ (1 : Int32) = 0 by decide), if_pos rfl, if_pos rfl, ← e1]
      have H : ∀ y, y ≤ 40 → upd many (v (z + 1)) (nI (tct p v (z + 1) (v (z + 1)))) y = nI (tct p v (z + 1) y) := by
        intro y hy
        by_cases w : y = v (z + 1)
        · rw [w, pk_us]
        · rw [pk_un w, h y hy, et, if_neg (fun x => w (of_decide_eq_true ((Bool.and_eq_true _ _).mp x).2).symm)]
          rfl
      have b1 := gMo_le p v z
      have b2 := tct_le p v (z + 1) (v (z + 1))
      have c : (nI (gMo p v z) < nI (tct p v (z + 1) (v (z + 1)))) ↔ gMo p v z < tct p v (z + 1) (v (z + 1)) := nI_ltI (by omega) (by omega)
      by_cases w : gMo p v z < tct p v (z + 1) (v (z + 1))
      · rw [if_pos (c.mpr w)]
        rw [if_pos w] at eg
        have ix := ih (z + 1) f _ (by omega) (by omega) H
        rw [eg] at ix
        exact ix
      · rw [if_neg (fun x => w (c.mp x))]
        rw [if_neg w] at eg
        have ix := ih (z + 1) f _ (by omega) (by omega) H
        rw [eg] at ix
        exact ix
    · rw [if_neg q] at eg
      rw [if_neg q, if_pos rfl]
      have ix := ih (z + 1) f many (by omega) (by omega) (fun y hy => by rw [h y hy, et, if_neg (fun x => q ((Bool.and_eq_true _ _).mp x).1)]; rfl)
      rw [eg] at ix
      exact ix
theorem r_most (hb : b < 2) {U : Nat} (hU : ut b = nI U) (hU2 : U ≤ 99) (p : Nat → Bool) (v : Nat → Nat) {n kk : Nat} (hn : n ≤ 20) (hk : kk < 3) {il mb : Nat → Int32} (hil : ∀ y, 0 < y → y ≤ U → il y = if p y = true then 1 else 0) (hmb : ∀ y, 0 < y → y ≤ U → mb (63 * y + 3 * n + kk) = nI (v y) ∧ v y ≤ 40) (many : Nat → Int32) :
    ∃ many', mX12_mostBy (nI n) (nI kk) (nI b) ut il mb many = some (nI (gMo p v U), many') := by
  unfold mX12_mostBy
  have go : ∀ k i (many : Nat → Int32), i + k = 41 → (∀ y, y < i → many y = 0) → ∃ many1, (∀ y, y ≤ 40 → many1 y = 0) ∧ mX12_mostBy_2 (nI n) (nI kk) (nI b) ut il mb k i many = mX12_mostBy_26 (nI n) (nI kk) (nI b) ut il mb xfuel 0 1 many1 := by
    intro k
    induction k with
    | zero =>
      intro i many hi h
      exact ⟨many, fun y hy => h y (by omega), by rw [mX12_mostBy_2]⟩
    | succ k ih =>
      intro i many hi h
      rw [mX12_mostBy_2, zc i (by omega)]
      refine ih (i + 1) _ (by omega) (fun y hy => ?_)
      by_cases w : y = i
      · rw [w, pk_us]
      · rw [pk_un w]; exact h y (by omega)
  obtain ⟨many1, h1, e⟩ := go 41 0 many rfl (fun y hy => absurd hy (Nat.not_lt_zero y))
  rw [e]
  have := r_most26 hb hU hU2 p v hn hk hil hmb U 0 xfuel many1 (Nat.zero_add _) (Nat.lt_of_le_of_lt (Nat.succ_le_succ hU2) (by decide)) (fun y hy => by rw [h1 y hy]; rfl)
  exact this
theorem r_tells55 (hb : b < 2) (hU : ut b = nI P.2.2) (hU2 : P.2.2 ≤ 99) (W : gW g) {t : Nat} (hg : 0 < g 0 t) {il mb : Nat → Int32} (L : lT P g t M R (P.2.2 + 1) il mb) {n : Nat} (hn0 : 0 < n) (hn : n ≤ gR20 g) (ag ask ca im st km kr lk mk np pl rt sz : Nat → Int32) (sk : Nat → Int64) (sT so tr : Nat → Int32) (co fe : Int32) (fu : Bool) (rn we x3 x6 : Int32) (hx : x6 = nI n) (K36) : ∀ k i (many : Nat → Int32), i + k = 3 →
    ∃ many', mX12_tells_55 (nI b) ut ag ask ca il im st km kr lk mb mk np pl rt sz sk sT so tr co fe fu rn we x3 x6 K36 k i (te4 (gTe P g t M R (3 * (n - 1) + i))) (te5 (gTe P g t M R (3 * (n - 1) + i))) many = K36 x3 (te4 (gTe P g t M R (3 * n))) (te5 (gTe P g t M R (3 * n))) (x6 + 1) rn fe we co fu so sz tr ca pl ag mk lk rt km kr sk ask np im st sT il mb many' := by
  have hR := gR20_le g
  subst hx
  intro k
  induction k with
  | zero =>
    intro i many hi
    have e : 3 * (n - 1) + i = 3 * n := by omega
    rw [mX12_tells_55, e]
    exact ⟨many, rfl⟩
  | succ k ih =>
    intro i many hi
    obtain ⟨many1, e⟩ := r_most hb hU hU2 (gFits P g t M R) (fun y => gQ P g t y n i) (n := n) (kk := i) (by omega) (by omega) (il := il) (mb := mb) (fun y h0 h1 => (L y h0 (by omega)).1) (fun y h0 h1 => ⟨(L y h0 (by omega)).2 n (by omega) i (by omega), gQ_40 P W hg h0 (by omega) n i⟩) many
    have e3 : (3 : Int32) * nI n + nI i = nI (3 * n + i) := by rw [show (3 : Int32) = nI 3 from rfl, pk_mul, nI_add]
    rw [mX12_tells_55, e, obind, xu_q, e3]
    obtain ⟨b1, b2⟩ := gTe_le P g t M R (3 * (n - 1) + i)
    have b3 := gMo_le (gFits P g t M R) (fun y => gQ P g t y n i) P.2.2
    have ej : gTe P g t M R (3 * (n - 1) + (i + 1)) = if (gTe P g t M R (3 * (n - 1) + i)).1 = 0 ∨ gMoA P g t M R n i < (gTe P g t M R (3 * (n - 1) + i)).2 then (3 * (n - 1) + i + 1, gMoA P g t M R n i) else gTe P g t M R (3 * (n - 1) + i) := by
      rw [show 3 * (n - 1) + (i + 1) = (3 * (n - 1) + i) + 1 by omega, gTe, show (3 * (n - 1) + i) / 3 + 1 = n by omega, show (3 * (n - 1) + i) % 3 = i by omega]
    have c : (nI (gMo (gFits P g t M R) (fun y => gQ P g t y n i) P.2.2) < te5 (gTe P g t M R (3 * (n - 1) + i))) ↔ ((gTe P g t M R (3 * (n - 1) + i)).1 = 0 ∨ gMoA P g t M R n i < (gTe P g t M R (3 * (n - 1) + i)).2) := by
      unfold te5 gMoA
      by_cases z : (gTe P g t M R (3 * (n - 1) + i)).1 = 0
      · rw [if_pos z]
        exact ⟨fun _ => Or.inl z, fun _ => nI_lt (b := 100000000) (by omega) (by decide)⟩
      · rw [if_neg z, nI_ltI (by omega) (by omega)]
        exact ⟨fun q => Or.inr q, fun q => q.resolve_left z⟩
    have ix := ih (i + 1) many1 (by omega)
    rw [ej] at ix
    by_cases z : (gTe P g t M R (3 * (n - 1) + i)).1 = 0 ∨ gMoA P g t M R n i < (gTe P g t M R (3 * (n - 1) + i)).2
    · rw [if_pos (c.mpr z)]
      rw [if_pos z] at ix
      have a4 : te4 (3 * (n - 1) + i + 1, gMoA P g t M R n i) = nI (3 * n + i) := by
        unfold te4
        rw [if_neg (by omega)]
        congr 1
        show 3 * (n - 1) + i + 1 + 2 = 3 * n + i
        omega
      have a5 : te5 (3 * (n - 1) + i + 1, gMoA P g t M R n i) = nI (gMo (gFits P g t M R) (fun y => gQ P g t y n i) P.2.2) := by
        unfold te5
        rw [if_neg (by omega)]; rfl
      rw [a4, a5] at ix
      exact ix
    · rw [if_neg (fun q => z (c.mp q))]
      rw [if_neg z] at ix
      exact ix
end RTE
