/-- how many ride in TRAIN w, car c, place p -/
def gRs (g : GH) (w c p : Nat) : Nat := fb_ct (fun t => decide (0 < g 0 t ∧ g 1 t = w ∧ g 2 t = c ∧ g 3 t = p)) 40
/-- does the thing ride in order -/
def gOb (g : GH) (t : Nat) : Bool := decide (gRs g (g 1 t) (g 2 t) (g 3 t) = 1) && (decide (g 3 t = 0) || decide (gRs g (g 1 t) (g 2 t) (g 3 t - 1) = 1)) && (decide (g 2 t = 0) || decide (gRs g (g 1 t) (g 2 t - 1) 0 = 1)) && (decide (g 1 t = 0) || decide (gRs g (g 1 t - 1) 0 0 = 1))
def gOrd (g : GH) : Prop := ∀ t, t < 40 → 0 < g 0 t → gOb g t = true
/-- bytes of an image -/
def gByt (g : GH) : Prop := ∀ t, t < 40 → g 0 t < 256 ∧ g 1 t < 256 ∧ g 2 t < 256 ∧ g 3 t < 256
section CO
variable {g : GH} {csz ctr cca cpl : Nat → Int32} {cth : Int64}
/-- the class's rows while an image is read -/
def cIm (g : GH) (csz ctr cca cpl : Nat → Int32) : Prop := (∀ t, t < 40 → csz t = nI (g 0 t)) ∧ ∀ t, t < 40 → 0 < g 0 t → ctr t = nI (g 1 t) ∧ cca t = nI (g 2 t) ∧ cpl t = nI (g 3 t)
theorem ci_riders (B : gByt g) (Y : cIm g csz ctr cca cpl) {w c p : Nat} (hw : w < 256) (hc : c < 256) (hp : p < 256) : mX6_ridersAt (nI w) (nI c) (nI p) csz ctr cca cpl = nI (gRs g w c p) := by
  obtain ⟨y1, y2⟩ := Y
  have go : ∀ k i, i + k = 40 → mX6_ridersAt_6 (nI w) (nI c) (nI p) csz ctr cca cpl k i (nI (fb_ct (fun t => decide (0 < g 0 t ∧ g 1 t = w ∧ g 2 t = c ∧ g 3 t = p)) i)) = nI (gRs g w c p) := by
    intro k
    induction k with
    | zero =>
      intro i hi
      have : i = 40 := by omega
      subst this
      rw [mX6_ridersAt_6]
      rfl
    | succ k ih =>
      intro i hi
      have hi40 : i < 40 := by omega
      have nx := ih (i + 1) (by omega)
      rw [fb_ct_succ] at nx
      obtain ⟨b0, b1, b2, b3⟩ := B i hi40
      have z0 : ∀ x, nI x + 0 = nI x := fun x => by rw [show (0 : Int32) = nI 0 from rfl, nI_add, Nat.add_zero]
      have no : ¬ (0 < g 0 i ∧ g 1 i = w ∧ g 2 i = c ∧ g 3 i = p) → ∀ X, (if decide (0 < g 0 i ∧ g 1 i = w ∧ g 2 i = c ∧ g 3 i = p) = true then X + 1 else X) = X := fun h X => if_neg (fun q => h (of_decide_eq_true q))
      rw [mX6_ridersAt_6, zc i (by omega), y1 i hi40]
      unfold mX6_ridersAt_49 mX6_ridersAt_50
      rw [if_neg (show ¬ (1 : Int32) = 0 by decide), zc i (by omega), z0]
      simp only [if_true]
      by_cases p0 : 0 < g 0 i
      · obtain ⟨e1, e2, e3⟩ := y2 i hi40 p0
        rw [if_pos ((nIp (by omega)).mpr p0), e1, e2, e3]
        by_cases p1 : g 1 i = w
        · rw [if_pos (show nI (g 1 i) = nI w by rw [p1])]
          by_cases p2 : g 2 i = c
          · rw [if_pos (show nI (g 2 i) = nI c by rw [p2])]
            by_cases p3 : g 3 i = p
            · rw [if_pos (show nI (g 3 i) = nI p by rw [p3]), nI_1]
              rw [if_pos (decide_eq_true ⟨p0, p1, p2, p3⟩)] at nx
              exact nx
            · rw [if_neg (fun q => p3 ((nI_eq (by omega) (by omega)).mp q))]
              rw [no (fun q => p3 q.2.2.2)] at nx
              exact nx
          · rw [if_neg (fun q => p2 ((nI_eq (by omega) (by omega)).mp q))]
            rw [no (fun q => p2 q.2.2.1)] at nx
            exact nx
        · rw [if_neg (fun q => p1 ((nI_eq (by omega) (by omega)).mp q))]
          rw [no (fun q => p1 q.2.1)] at nx
          exact nx
      · rw [if_neg (fun q => p0 ((nIp (by omega)).mp q))]
        rw [no (fun q => p0 q.1)] at nx
        exact nx
  exact go 40 0 rfl
/-- how many TRAINS and cars, up to thing i -/
def cCn (g : GH) (i : Nat) (tn : Int32) (cs : Nat → Int32) : Prop := tn = nI (bmx (fun t => decide (0 < g 0 t)) (g 1) i) ∧ ∀ w, w < 42 → cs w = nI (bmx (fun t => decide (0 < g 0 t ∧ g 1 t = w)) (g 2) i)
theorem max_nI {a b : Nat} (ha : a < 1000) (hb : b < 1000) : mJ9_max_7cf53 (nI a) (nI b) = nI (if a < b then b else a) := by
  unfold mJ9_max_7cf53
  by_cases h : a < b
  · rw [if_pos (nI_lt h (by omega)), if_pos h]
  · rw [if_neg (nI_nlt (by omega) (by omega)), if_neg h]
theorem c_c125 (B : gByt g) (Y : cIm g csz ctr cca cpl) {i : Nat} (hi : i < 40) (p0 : 0 < g 0 i) {tn : Int32} {cs : Nat → Int32} (C : cCn g i tn cs) (F : Bool → Int32 → (Nat → Int32) → Bool × Int32 × (Nat → Int32)) (b : Bool) : ∃ tn' cs', mX6_countCars_125 ctr cca i cs tn F b = F b tn' cs' ∧ cCn g (i + 1) tn' cs' := by
  obtain ⟨c1, c2⟩ := C
  obtain ⟨b0, b1, b2, b3⟩ := B i hi
  obtain ⟨e1, e2, e3⟩ := Y.2 i hi p0
  have m1 : bmx (fun t => decide (0 < g 0 t)) (g 1) i ≤ 256 := bmx_le (fun t ht _ => (B t (by omega)).2.1)
  have m2 : ∀ w, bmx (fun t => decide (0 < g 0 t ∧ g 1 t = w)) (g 2) i ≤ 256 := fun w => bmx_le (fun t ht _ => (B t (by omega)).2.2.1)
  unfold mX6_countCars_125
  rw [s_at 40 i hi (by decide), s_at 40 i hi (by decide), e1, e2, nI_1, nI_1, c1, max_nI (by omega) (by omega), xlet_eq]
  refine ⟨_, _, rfl, ?_, fun w hw => ?_⟩
  · rw [bmx_succ, if_pos (decide_eq_true p0)]
    congr 1
    split <;> split <;> omega
  · rw [bmx_succ]
    by_cases w1 : g 1 i = w
    · subst w1
      rw [s_put 42 _ hw (by decide), pk_us, s_at 42 _ hw (by decide), c2 _ hw, max_nI (by have := m2 (g 1 i); omega) (by omega), if_pos (decide_eq_true ⟨p0, rfl⟩)]
      congr 1
      split <;> split <;> omega
    · rw [if_neg (fun q => w1 (of_decide_eq_true q).2)]
      by_cases w2 : g 1 i < 42
      · rw [s_put 42 _ w2 (by decide), pk_un (fun q => w1 q.symm)]; exact c2 w hw
      · rw [s_put_out 42 _ (Or.inr (nI_nlt (by omega) (by omega)))]; exact c2 w hw
theorem ci_count (B : gByt g) (Y : cIm g csz ctr cca cpl) (hth : zh cth (gTh g)) : ∀ k i (tn : Int32) (cs : Nat → Int32), i + k = 40 → cCn g i tn cs → ((∀ t, i ≤ t → t < 40 → 0 < g 0 t → gOb g t = true) ∧ ∃ tn' cs', mX6_countCars_4 cth csz ctr cca cpl k i true tn cs = (true, tn', cs') ∧ cCn g 40 tn' cs') ∨ (¬ (∀ t, i ≤ t → t < 40 → 0 < g 0 t → gOb g t = true) ∧ ∃ tn' cs', mX6_countCars_4 cth csz ctr cca cpl k i true tn cs = (false, tn', cs')) := by
  have off : ∀ k i (tn : Int32) (cs : Nat → Int32), mX6_countCars_4 cth csz ctr cca cpl k i false tn cs = (false, tn, cs) := by
    intro k i tn cs
    cases k with
    | zero => rw [mX6_countCars_4]
    | succ k => rw [mX6_countCars_4, if_neg (by decide)]
  intro k
  induction k with
  | zero =>
    intro i tn cs hi C
    have : i = 40 := by omega
    subst this
    exact Or.inl ⟨fun t h1 h2 => absurd h2 (by omega), tn, cs, by rw [mX6_countCars_4], C⟩
  | succ k ih =>
    intro i tn cs hi C
    have hi40 : i < 40 := by omega
    obtain ⟨b0, b1, b2, b3⟩ := B i hi40
    have more : (0 < g 0 i → gOb g i = true) → ((∀ t, i + 1 ≤ t → t < 40 → 0 < g 0 t → gOb g t = true) ↔ (∀ t, i ≤ t → t < 40 → 0 < g 0 t → gOb g t = true)) := fun h => ⟨fun q t h1 h2 h3 => by
        by_cases e : t = i
        · subst e; exact h h3
        · exact q t (by omega) h2 h3, fun q t h1 h2 h3 => q t (by omega) h2 h3⟩
    rw [mX6_countCars_4, if_pos rfl]
    have there : mX10_isThere (nI i) cth = decide (0 < g 0 i) := by
      unfold mX10_isThere
      rw [zh_in hth hi40]; rfl
    rw [there]
    by_cases p0 : 0 < g 0 i
    · rw [decide_eq_true p0, if_pos rfl]
      obtain ⟨e1, e2, e3⟩ := Y.2 i hi40 p0
      have fin : ∀ b : Bool, gOb g i = b → (((∀ t, i ≤ t → t < 40 → 0 < g 0 t → gOb g t = true) ∧ ∃ tn' cs', mX6_countCars_125 ctr cca i cs tn (fun zx1_4 zy_f_trains_4 zy_a_cars_4 => mX6_countCars_4 cth csz ctr cca cpl k (i + 1) zx1_4 zy_f_trains_4 zy_a_cars_4) b = (true, tn', cs') ∧ cCn g 40 tn' cs') ∨ (¬ (∀ t, i ≤ t → t < 40 → 0 < g 0 t → gOb g t = true) ∧ ∃ tn' cs', mX6_countCars_125 ctr cca i cs tn (fun zx1_4 zy_f_trains_4 zy_a_cars_4 => mX6_countCars_4 cth csz ctr cca cpl k (i + 1) zx1_4 zy_f_trains_4 zy_a_cars_4) b = (false, tn', cs'))) := by
        intro b hb
        obtain ⟨tn1, cs1, a1, a2⟩ := c_c125 B Y hi40 p0 C (fun zx1_4 zy_f_trains_4 zy_a_cars_4 => mX6_countCars_4 cth csz ctr cca cpl k (i + 1) zx1_4 zy_f_trains_4 zy_a_cars_4) b
        rw [a1]
        cases b with
        | true =>
          rw [← more (fun _ => hb)]
          exact ih (i + 1) tn1 cs1 (by omega) a2
        | false =>
          refine Or.inr ⟨fun q => ?_, tn1, cs1, off _ _ _ _⟩
          rw [q i (Nat.le_refl _) hi40 p0] at hb
          exact absurd hb (by decide)
      rw [s_at 40 i hi40 (by decide), s_at 40 i hi40 (by decide), s_at 40 i hi40 (by decide)]
      unfold mX6_countCars_84 mX6_countCars_103 mX6_countCars_124 mX6_countCars_120
      rw [s_at 40 i hi40 (by decide), s_at 40 i hi40 (by decide), e1, e2, e3, ci_riders B Y b1 b2 b3]
      have one : ∀ x, x < 1000 → (nI x = 1 ↔ x = 1) := fun x hx => nI_eq (b := 1) (by omega) (by decide)
      have zer : ∀ x, x < 1000 → (nI x = 0 ↔ x = 0) := fun x hx => nI_eq (b := 0) (by omega) (by decide)
      have r40 : ∀ w c p, gRs g w c p < 1000 := fun w c p => by have := fb_ct_le (fun t => decide (0 < g 0 t ∧ g 1 t = w ∧ g 2 t = c ∧ g 3 t = p)) 40; unfold gRs; omega
      unfold gOb at fin
      by_cases h1 : gRs g (g 1 i) (g 2 i) (g 3 i) = 1
      · rw [if_pos ((one _ (r40 _ _ _)).mpr h1)]
        rw [decide_eq_true h1, Bool.true_and] at fin
        have rest : (g 3 i = 0 ∨ gRs g (g 1 i) (g 2 i) (g 3 i - 1) = 1) → (((∀ t, i ≤ t → t < 40 → 0 < g 0 t → gOb g t = true) ∧ ∃ tn' cs', (if nI (g 2 i) = 0 then (if nI (g 1 i) = 0 then mX6_countCars_125 ctr cca i cs tn (fun zx1_4 zy_f_trains_4 zy_a_cars_4 => mX6_countCars_4 cth csz ctr cca cpl k (i + 1) zx1_4 zy_f_trains_4 zy_a_cars_4) true else if mX6_ridersAt (nI (g 1 i) - 1) (0 : Int32) (0 : Int32) csz ctr cca cpl = 1 then mX6_countCars_125 ctr cca i cs tn (fun zx1_4 zy_f_trains_4 zy_a_cars_4 => mX6_countCars_4 cth csz ctr cca cpl k (i + 1) zx1_4 zy_f_trains_4 zy_a_cars_4) true else mX6_countCars_125 ctr cca i cs tn (fun zx1_4 zy_f_trains_4 zy_a_cars_4 => mX6_countCars_4 cth csz ctr cca cpl k (i + 1) zx1_4 zy_f_trains_4 zy_a_cars_4) false) else if mX6_ridersAt (nI (g 1 i)) (nI (g 2 i) - 1) (0 : Int32) csz ctr cca cpl = 1 then (if nI (g 1 i) = 0 then mX6_countCars_125 ctr cca i cs tn (fun zx1_4 zy_f_trains_4 zy_a_cars_4 => mX6_countCars_4 cth csz ctr cca cpl k (i + 1) zx1_4 zy_f_trains_4 zy_a_cars_4) true else if mX6_ridersAt (nI (g 1 i) - 1) (0 : Int32) (0 : Int32) csz ctr cca cpl = 1 then mX6_countCars_125 ctr cca i cs tn (fun zx1_4 zy_f_trains_4 zy_a_cars_4 => mX6_countCars_4 cth csz ctr cca cpl k (i + 1) zx1_4 zy_f_trains_4 zy_a_cars_4) true else mX6_countCars_125 ctr cca i cs tn (fun zx1_4 zy_f_trains_4 zy_a_cars_4 => mX6_countCars_4 cth csz ctr cca cpl k (i + 1) zx1_4 zy_f_trains_4 zy_a_cars_4) false) else mX6_countCars_125 ctr cca i cs tn (fun zx1_4 zy_f_trains_4 zy_a_cars_4 => mX6_countCars_4 cth csz ctr cca cpl k (i + 1) zx1_4 zy_f_trains_4 zy_a_cars_4) false) = (true, tn', cs') ∧ cCn g 40 tn' cs') ∨ (¬ (∀ t, i ≤ t → t < 40 → 0 < g 0 t → gOb g t = true) ∧ ∃ tn' cs', (if nI (g 2 i) = 0 then (if nI (g 1 i) = 0 then mX6_countCars_125 ctr cca i cs tn (fun zx1_4 zy_f_trains_4 zy_a_cars_4 => mX6_countCars_4 cth csz ctr cca cpl k (i + 1) zx1_4 zy_f_trains_4 zy_a_cars_4) true else if mX6_ridersAt (nI (g 1 i) - 1) (0 : Int32) (0 : Int32) csz ctr cca cpl = 1 then mX6_countCars_125 ctr cca i cs tn (fun zx1_4 zy_f_trains_4 zy_a_cars_4 => mX6_countCars_4 cth csz ctr cca cpl k (i + 1) zx1_4 zy_f_trains_4 zy_a_cars_4) true else mX6_countCars_125 ctr cca i cs tn (fun zx1_4 zy_f_trains_4 zy_a_cars_4 => mX6_countCars_4 cth csz ctr cca cpl k (i + 1) zx1_4 zy_f_trains_4 zy_a_cars_4) false) else if mX6_ridersAt (nI (g 1 i)) (nI (g 2 i) - 1) (0 : Int32) csz ctr cca cpl = 1 then (if nI (g 1 i) = 0 then mX6_countCars_125 ctr cca i cs tn (fun zx1_4 zy_f_trains_4 zy_a_cars_4 => mX6_countCars_4 cth csz ctr cca cpl k (i + 1) zx1_4 zy_f_trains_4 zy_a_cars_4) true else if mX6_ridersAt (nI (g 1 i) - 1) (0 : Int32) (0 : Int32) csz ctr cca cpl = 1 then mX6_countCars_125 ctr cca i cs tn (fun zx1_4 zy_f_trains_4 zy_a_cars_4 => mX6_countCars_4 cth csz ctr cca cpl k (i + 1) zx1_4 zy_f_trains_4 zy_a_cars_4) true else mX6_countCars_125 ctr cca i cs tn (fun zx1_4 zy_f_trains_4 zy_a_cars_4 => mX6_countCars_4 cth csz ctr cca cpl k (i + 1) zx1_4 zy_f_trains_4 zy_a_cars_4) false) else mX6_countCars_125 ctr cca i cs tn (fun zx1_4 zy_f_trains_4 zy_a_cars_4 => mX6_countCars_4 cth csz ctr cca cpl k (i + 1) zx1_4 zy_f_trains_4 zy_a_cars_4) false) = (false, tn', cs'))) := by
          intro hp
          rw [show (decide (g 3 i = 0) || decide (gRs g (g 1 i) (g 2 i) (g 3 i - 1) = 1)) = true by rw [Bool.or_eq_true, decide_eq_true_eq, decide_eq_true_eq]; exact hp, Bool.true_and] at fin
          have last : (g 2 i = 0 ∨ gRs g (g 1 i) (g 2 i - 1) 0 = 1) → (((∀ t, i ≤ t → t < 40 → 0 < g 0 t → gOb g t = true) ∧ ∃ tn' cs', (if nI (g 1 i) = 0 then mX6_countCars_125 ctr cca i cs tn (fun zx1_4 zy_f_trains_4 zy_a_cars_4 => mX6_countCars_4 cth csz ctr cca cpl k (i + 1) zx1_4 zy_f_trains_4 zy_a_cars_4) true else if mX6_ridersAt (nI (g 1 i) - 1) (0 : Int32) (0 : Int32) csz ctr cca cpl = 1 then mX6_countCars_125 ctr cca i cs tn (fun zx1_4 zy_f_trains_4 zy_a_cars_4 => mX6_countCars_4 cth csz ctr cca cpl k (i + 1) zx1_4 zy_f_trains_4 zy_a_cars_4) true else mX6_countCars_125 ctr cca i cs tn (fun zx1_4 zy_f_trains_4 zy_a_cars_4 => mX6_countCars_4 cth csz ctr cca cpl k (i + 1) zx1_4 zy_f_trains_4 zy_a_cars_4) false) = (true, tn', cs') ∧ cCn g 40 tn' cs') ∨ (¬ (∀ t, i ≤ t → t < 40 → 0 < g 0 t → gOb g t = true) ∧ ∃ tn' cs', (if nI (g 1 i) = 0 then mX6_countCars_125 ctr cca i cs tn (fun zx1_4 zy_f_trains_4 zy_a_cars_4 => mX6_countCars_4 cth csz ctr cca cpl k (i + 1) zx1_4 zy_f_trains_4 zy_a_cars_4) true else if mX6_ridersAt (nI (g 1 i) - 1) (0 : Int32) (0 : Int32) csz ctr cca cpl = 1 then mX6_countCars_125 ctr cca i cs tn (fun zx1_4 zy_f_trains_4 zy_a_cars_4 => mX6_countCars_4 cth csz ctr cca cpl k (i + 1) zx1_4 zy_f_trains_4 zy_a_cars_4) true else mX6_countCars_125 ctr cca i cs tn (fun zx1_4 zy_f_trains_4 zy_a_cars_4 => mX6_countCars_4 cth csz ctr cca cpl k (i + 1) zx1_4 zy_f_trains_4 zy_a_cars_4) false) = (false, tn', cs'))) := by
            intro hc
            rw [show (decide (g 2 i = 0) || decide (gRs g (g 1 i) (g 2 i - 1) 0 = 1)) = true by rw [Bool.or_eq_true, decide_eq_true_eq, decide_eq_true_eq]; exact hc, Bool.true_and] at fin
            by_cases t0 : g 1 i = 0
            · rw [if_pos ((zer _ (by omega)).mpr t0)]
              exact fin true (by rw [decide_eq_true t0, Bool.true_or])
            · have k0 := ci_riders B Y (w := g 1 i - 1) (c := 0) (p := 0) (by omega) (by decide) (by decide)
              rw [if_neg (fun q => t0 ((zer _ (by omega)).mp q)), show nI (g 1 i) - 1 = nI (g 1 i - 1) from pk_sub (b := 1) (by omega), show (0 : Int32) = nI 0 from rfl, k0]
              by_cases t1 : gRs g (g 1 i - 1) 0 0 = 1
              · rw [if_pos ((one _ (r40 _ _ _)).mpr t1)]
                exact fin true (by rw [decide_eq_true t1, Bool.or_true])
              · rw [if_neg (fun q => t1 ((one _ (r40 _ _ _)).mp q))]
                exact fin false (by rw [decide_eq_false t1, decide_eq_false t0]; rfl)
          by_cases c0 : g 2 i = 0
          · rw [if_pos ((zer _ (by omega)).mpr c0)]
            exact last (Or.inl c0)
          · have k0 := ci_riders B Y (w := g 1 i) (c := g 2 i - 1) (p := 0) (by omega) (by omega) (by decide)
            rw [if_neg (fun q => c0 ((zer _ (by omega)).mp q)), show mX6_ridersAt (nI (g 1 i)) (nI (g 2 i) - 1) (0 : Int32) csz ctr cca cpl = nI (gRs g (g 1 i) (g 2 i - 1) 0) by rw [show nI (g 2 i) - 1 = nI (g 2 i - 1) from pk_sub (b := 1) (by omega)]; exact k0]
            by_cases t1 : gRs g (g 1 i) (g 2 i - 1) 0 = 1
            · rw [if_pos ((one _ (r40 _ _ _)).mpr t1)]
              exact last (Or.inr t1)
            · rw [if_neg (fun q => t1 ((one _ (r40 _ _ _)).mp q))]
              exact fin false (by rw [decide_eq_false t1, decide_eq_false c0]; rfl)
        by_cases q0 : g 3 i = 0
        · rw [if_pos ((zer _ (by omega)).mpr q0)]
          exact rest (Or.inl q0)
        · have k0 := ci_riders B Y (w := g 1 i) (c := g 2 i) (p := g 3 i - 1) (by omega) (by omega) (by omega)
          rw [if_neg (fun q => q0 ((zer _ (by omega)).mp q)), show nI (g 3 i) - 1 = nI (g 3 i - 1) from pk_sub (b := 1) (by omega), k0]
          by_cases t1 : gRs g (g 1 i) (g 2 i) (g 3 i - 1) = 1
          · rw [if_pos ((one _ (r40 _ _ _)).mpr t1)]
            exact rest (Or.inr t1)
          · rw [if_neg (fun q => t1 ((one _ (r40 _ _ _)).mp q))]
            exact fin false (by rw [decide_eq_false t1, decide_eq_false q0]; rfl)
      · rw [if_neg (fun q => h1 ((one _ (r40 _ _ _)).mp q))]
        exact fin false (by rw [decide_eq_false h1]; rfl)
    · rw [decide_eq_false p0, if_neg (by decide), ← more (fun q => absurd q p0)]
      refine ih (i + 1) tn cs (by omega) ⟨?_, fun w hw => ?_⟩
      · rw [bmx_succ, if_neg (fun q => p0 (of_decide_eq_true q))]; exact C.1
      · rw [bmx_succ, if_neg (fun q => p0 (of_decide_eq_true q).1)]; exact C.2 w hw
end CO
