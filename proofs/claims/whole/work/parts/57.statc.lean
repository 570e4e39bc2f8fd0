def cPl (P : NP) (L : List (Nat × Nat)) (un ch sm th rn cd : Int32) (nm sz bg lc ln rr co cf cl : Nat → Int32) (du : Bool) : Prop :=
  un = nI (P 0 0) ∧ ch = nI (P 0 1) ∧ sm = nI (P 0 2) ∧ th = nI (P 0 3) ∧ rn = nI (P 0 4) ∧ cd = nI L.length ∧ (∀ t, t < P 0 3 → nm t = nI (P 1 t) ∧ sz t = nI (P 2 t)) ∧ (∀ t, t < 24 → bg t = nI (P 3 t)) ∧ (∀ t, t < 24 → lc t = nI (P 4 t)) ∧ (∀ j, j < 96 → ln j = bno (P 5 j)) ∧ (∀ k, k < 8 → rr k = bno (P 7 k)) ∧ (∀ w, w < 3 → cf w = nI (P 8 w) ∧ cl w = nI (P 9 w)) ∧ (∃ A0, co = gput A0 0 L) ∧ (du = true ↔ P 0 5 = 1)
def nOkP (P : NP) (L : List (Nat × Nat)) : Prop :=
  P 0 0 ≤ 99 ∧ P 0 1 ≤ 100 ∧ P 0 2 ≤ 80 ∧ P 0 3 ≤ 24 ∧ P 0 4 ≤ 8 ∧ P 0 5 ≤ 1 ∧ (∀ t, P 1 t < 1000000000) ∧ (∀ t, P 2 t ≤ 99) ∧ (∀ t, P 3 t ≤ 1) ∧ (∀ t, P 4 t ≤ 4) ∧ (∀ w, w < 3 → P 8 w ≤ 1600 ∧ P 9 w ≤ 1600)
section SD
variable (tok : Int32) (ks ss vs : Nat → Int32)
theorem e_number (lo hi F P now kd st v : Int32) (h : ¬ F = 0) : ∃ s x, mX8_number lo hi F P tok now kd st v ks ss vs = (x, F, P, s) := by
  unfold mX8_number mX8_number_35
  rcases mX8_next tok now st ks ss vs with ⟨q1, q2, q3, q4⟩
  rw [s_fail0 _ _ F P h, s_fail0 _ _ F P h]
  split
  · split
    · exact ⟨_, _, rfl⟩
    · split
      · exact ⟨_, _, rfl⟩
      · exact ⟨_, _, rfl⟩
  · exact ⟨_, _, rfl⟩
theorem e_name (F P kd st v : Int32) (h : ¬ F = 0) : ∃ x, mX8_name F P kd st v = (x, F, P) := by
  unfold mX8_name
  rw [s_fail0 _ _ F P h]
  split
  · exact ⟨_, rfl⟩
  · exact ⟨_, rfl⟩
theorem e_known (F P kd st v th : Int32) (nm : Nat → Int32) (h : ¬ F = 0) : ∃ x, mX8_thingNamed F P kd st v th nm = (x, F, P) := by
  unfold mX8_thingNamed
  obtain ⟨x, e⟩ := e_name F P kd st v h
  rw [e, xlet_eq]
  simp only [xu]
  rw [s_fail0 _ _ F P h]
  split
  · exact ⟨_, rfl⟩
  · exact ⟨_, rfl⟩
theorem e_own (w F P now kd st v : Int32) (h : ¬ F = 0) : ∃ s, mX8_own w F P tok now kd st v ks ss vs = (F, P, s) := by
  unfold mX8_own
  rcases mX8_next tok now st ks ss vs with ⟨q1, q2, q3, q4⟩
  rw [s_fail0 _ _ F P h]
  split
  · exact ⟨_, rfl⟩
  · exact ⟨_, rfl⟩
theorem e_thing49 (due : Bool) (un th : Int32) (nm sz bg : Nat → Int32) (x F P now kd st v : Int32) (h : ¬ F = 0) : ∃ s, mX8_thingTold_49 tok due ks ss vs un th nm sz bg x F P now kd st v = (F, P, s) := by
  unfold mX8_thingTold_49
  rcases mX8_next tok now st ks ss vs with ⟨q1, q2, q3, q4⟩
  rw [xlet_eq]
  simp only [xu]
  obtain ⟨⟨a1, a2, a3, a4⟩, e⟩ := e_own tok ks ss vs 2 F P q1 q2 q3 q4 h
  rw [e, xlet_eq]
  simp only [xu]
  obtain ⟨⟨b1, b2, b3, b4⟩, y, e⟩ := e_number tok ks ss vs 1 un F P a1 a2 a3 a4 h
  rw [e, xlet_eq]
  simp only [xu]
  rw [xlet_eq, xlet_eq]
  unfold mX8_thingTold_133
  split
  · exact ⟨_, rfl⟩
  · exact ⟨_, rfl⟩
theorem e_thing19 (now st : Int32) (due : Bool) (un th : Int32) (nm sz bg : Nat → Int32) (F P : Int32) (h : ¬ F = 0) : ∃ s, mX8_thingTold_19 tok now st due ks ss vs un th nm sz bg F P = (F, P, s) := by
  unfold mX8_thingTold_19
  rcases mX8_next tok now st ks ss vs with ⟨q1, q2, q3, q4⟩
  rw [xlet_eq]
  simp only [xu]
  obtain ⟨x, e⟩ := e_name F P q2 q3 q4 h
  rw [e, xlet_eq]
  simp only [xu]
  rw [s_fail0 _ _ F P h]
  split
  · exact e_thing49 tok ks ss vs due un th nm sz bg x F P q1 q2 q3 q4 h
  · rw [xlet_eq]
    simp only [xu]
    exact e_thing49 tok ks ss vs due un th nm sz bg x F P q1 q2 q3 q4 h
theorem e_link33 (th : Int32) (nm lc ln : Nat → Int32) (x y F P now kd st v : Int32) (h : ¬ F = 0) : ∃ s, mX8_linkTold_33 tok ks ss vs th nm lc ln x y F P now kd st v = (F, P, s) := by
  unfold mX8_linkTold_33
  rcases mX8_next tok now st ks ss vs with ⟨q1, q2, q3, q4⟩
  rw [xlet_eq]
  simp only [xu]
  obtain ⟨⟨a1, a2, a3, a4⟩, e⟩ := e_own tok ks ss vs 5 F P q1 q2 q3 q4 h
  rw [e, xlet_eq]
  simp only [xu]
  obtain ⟨z, e⟩ := e_known F P a2 a3 a4 th nm h
  rw [e, xlet_eq]
  simp only [xu]
  rcases mX8_next tok a1 a3 ks ss vs with ⟨p1, p2, p3, p4⟩
  rw [xlet_eq]
  simp only [xu]
  split
  · exact ⟨_, rfl⟩
  · split
    · exact ⟨_, rfl⟩
    · split
      · exact ⟨_, rfl⟩
      · exact ⟨_, rfl⟩
theorem e_root19 (now st th rn : Int32) (nm rr : Nat → Int32) (F P : Int32) (h : ¬ F = 0) : ∃ s, mX8_rootTold_19 tok now st ks ss vs th rn nm rr F P = (F, P, s) := by
  unfold mX8_rootTold_19
  rcases mX8_next tok now st ks ss vs with ⟨q1, q2, q3, q4⟩
  rw [xlet_eq]
  simp only [xu]
  obtain ⟨z, e⟩ := e_known F P q2 q3 q4 th nm h
  rw [e, xlet_eq]
  simp only [xu]
  rw [xlet_eq]
  rcases mX8_next tok q1 q3 ks ss vs with ⟨p1, p2, p3, p4⟩
  exact ⟨_, rfl⟩
theorem e_form21 (w now st op cd : Int32) (co cf cl : Nat → Int32) (F P : Int32) (h : ¬ F = 0) : ∃ s, mX8_formula_21 w tok now st op ks ss vs cd co cf cl F P = some (F, P, s) := by
  unfold mX8_formula_21
  rcases mX8_next tok now st ks ss vs with ⟨q1, q2, q3, q4⟩
  rw [xlet_eq]
  simp only [xu]
  unfold mX8_formula_54 mtX8_sum mtX8_test
  split
  · obtain ⟨⟨a1, a2, a3, a4, a5, a6, a7⟩, e⟩ := (d_rec tok w ks ss vs 57).2.2 2 0 F P q1 q2 q3 q4 op cd co h
    rw [e, obind]
    exact ⟨_, rfl⟩
  · obtain ⟨⟨a1, a2, a3, a4, a5, a6, a7⟩, e⟩ := (d_rec tok w ks ss vs 57).2.2 1 0 F P q1 q2 q3 q4 op cd co h
    rw [e, obind]
    exact ⟨_, rfl⟩
end SD
