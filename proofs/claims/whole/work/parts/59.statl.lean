theorem nz (f : Nat) (h : f ≠ 0) (h2 : f < 10) : ¬ nI f = 0 := nI_ne0 (by omega) (by omega)
section SL
variable (K V St : Nat → Nat) (B T' : Nat) (ks ss vs : Nat → Int32)
abbrev SO : Type := Option (Int32 × Int32 × Int32 × Int32 × Int32 × Int32 × Int32 × Int32 × Bool × Int32 × Int32 × Int32 × Int32 × Int32 × Int32 × (Nat → Int32) × (Nat → Int32) × (Nat → Int32) × (Nat → Int32) × (Nat → Int32) × (Nat → Int32) × (Nat → Int32) × (Nat → Int32) × (Nat → Int32))
/-- a statement told: its end is read next -/
def cJ (r : NS) (p sm : Int32) (k : Nat) (res : SO) : Prop :=
  (r.1 = 0 ∧ k < r.2.2.1 ∧ r.2.2.1 ≤ B ∧ r.2.2.2.2.length ≤ r.2.2.1 ∧ nOkP r.2.2.2.1 r.2.2.2.2 ∧ ∃ (tp : Int32) (du : Bool) (un ch th rn cd : Int32) (nm sz bg lc ln rr co cf cl : Nat → Int32), cPl r.2.2.2.1 r.2.2.2.2 un ch sm th rn cd nm sz bg lc ln rr co cf cl du ∧
    res = mX8_statement_221 (nI T') ks ss vs sm 0 p (nI r.2.2.1) (nI (K r.2.2.1)) (nI (St r.2.2.1)) (nI (V r.2.2.1)) 0 tp du un ch th rn cd nm sz bg lc ln rr co cf cl) ∨
  (r.1 ≠ 0 ∧ r.1 < 10 ∧ ∃ s, res = some (nI r.1, nI r.2.1, s))
variable {K V St B T' ks ss vs}
theorem cJ_bad {p sm : Int32} {k f q : Nat} {P : NP} (hf : f ≠ 0) (hf2 : f < 10) {res : SO} (h : ∃ s, res = some (nI f, nI q, s)) : cJ K V St B T' ks ss vs (sBad f q P) p sm k res := Or.inr ⟨hf, hf2, h⟩
theorem c_num (h : gTok K V St B T' ks ss vs) {k : Nat} (hk : k ≤ B) (lo hi : Nat) (hlo : lo < 1000000) (hhi : hi < 1000000) {r : Nat → NS} {p sm : Int32} {k0 : Nat} {P : NP} {C : (Int32 × Int32 × Int32 × Int32 × Int32 × Int32 × Int32) → SO}
    (hok : k < B → lo ≤ V k → V k ≤ hi → cJ K V St B T' ks ss vs (r (V k)) p sm k0 (C (nI (V k), 0, p, nI (k + 1), nI (K (k + 1)), nI (St (k + 1)), nI (V (k + 1)))))
    (hbad : ∀ (y F Q : Int32) s, ¬ F = 0 → ∃ s', C (y, F, Q, s) = some (F, Q, s')) : cJ K V St B T' ks ss vs (nNum K V St k lo hi r P) p sm k0 (xlet (mX8_number (nI lo) (nI hi) 0 p (nI T') (nI k) (nI (K k)) (nI (St k)) (nI (V k)) ks ss vs) C) := by
  obtain ⟨_, _, _, b1, b2, _⟩ := h.2.2.2.1 k hk
  unfold mX8_number nNum mX8_number_35
  by_cases e : K k = 2
  · have hkB := t_lt h hk (by omega)
    rw [if_pos (show nI (K k) = 2 by rw [e]; rfl), if_pos e, t_next h hkB, show (4 : Int32) = nI 4 from rfl, t_fail]
    by_cases h1 : V k < lo
    · rw [if_pos (nI_lt h1 (by omega)), if_pos (Or.inl h1), xlet_eq, xlet_eq]
      exact cJ_bad (by decide) (by decide) (hbad _ _ _ _ (nz _ (by decide) (by decide)))
    · rw [if_neg (nI_nlt (by omega) (by omega))]
      by_cases h2 : hi < V k
      · rw [if_pos (nI_lt h2 (by omega)), if_pos (Or.inr h2), xlet_eq, xlet_eq]
        exact cJ_bad (by decide) (by decide) (hbad _ _ _ _ (nz _ (by decide) (by decide)))
      · rw [if_neg (nI_nlt (by omega) (by omega)), if_neg (by omega), xlet_eq]
        exact hok hkB (by omega) (by omega)
  · rw [if_neg (show ¬ nI (K k) = 2 from fun q => e ((nI_eq (b := 2) (by omega) (by decide)).mp q)), if_neg e, t_where h hk, show (1 : Int32) = nI 1 from rfl, t_fail]
    rcases mX8_next (nI T') (nI k) (nI (St k)) ks ss vs with ⟨q1, q2, q3, q4⟩
    rw [xlet_eq]
    exact cJ_bad (by decide) (by decide) (hbad _ _ _ _ (nz _ (by decide) (by decide)))
theorem c_own (h : gTok K V St B T' ks ss vs) {k : Nat} (hk : k ≤ B) (w : Nat) (hw : w < 1000) {r : NS} {p sm : Int32} {k0 : Nat} {P : NP} {C : (Int32 × Int32 × Int32 × Int32 × Int32 × Int32) → SO}
    (hok : k < B → cJ K V St B T' ks ss vs r p sm k0 (C (0, p, nI (k + 1), nI (K (k + 1)), nI (St (k + 1)), nI (V (k + 1)))))
    (hbad : ∀ (F Q : Int32) s, ¬ F = 0 → ∃ s', C (F, Q, s) = some (F, Q, s')) : cJ K V St B T' ks ss vs (nOwn K V St k w r P) p sm k0 (xlet (mX8_own (nI w) 0 p (nI T') (nI k) (nI (K k)) (nI (St k)) (nI (V k)) ks ss vs) C) := by
  unfold mX8_own nOwn
  by_cases e : gOw K V k w = true
  · have hkB := t_owlt h hk e
    rw [if_pos ((t_own h hk w hw).mpr e), if_pos e, t_next h hkB, xlet_eq]
    exact hok hkB
  · rw [if_neg (fun q => e ((t_own h hk w hw).mp q)), if_neg e, t_where h hk, show (1 : Int32) = nI 1 from rfl, t_fail]
    rcases mX8_next (nI T') (nI k) (nI (St k)) ks ss vs with ⟨q1, q2, q3, q4⟩
    rw [xlet_eq]
    exact cJ_bad (by decide) (by decide) (hbad _ _ _ (nz _ (by decide) (by decide)))
theorem nNam_le (P : NP) (v : Nat) : ∀ f t, nNam P v f t ≤ t + f ∧ (nNam P v f t ≠ 0 → t < nNam P v f t ∧ nNam P v f t ≤ P 0 3) := by
  intro f
  induction f with
  | zero => intro t; exact ⟨Nat.zero_le _, fun q => absurd rfl q⟩
  | succ f ih =>
    intro t
    rw [nNam]
    obtain ⟨a, b⟩ := ih (t + 1)
    split
    · split
      · exact ⟨by omega, fun _ => ⟨by omega, by omega⟩⟩
      · exact ⟨by omega, fun q => ⟨by have := (b q).1; omega, (b q).2⟩⟩
    · exact ⟨Nat.zero_le _, fun q => absurd rfl q⟩
theorem t_named {P : NP} (h3 : P 0 3 ≤ 24) (hP : ∀ t, P 1 t < 1000000000) {nm : Nat → Int32} (hn : ∀ t, t < P 0 3 → nm t = nI (P 1 t)) {v : Nat} (hv : v < 1000000000) : ∀ f t, t + f = 24 → mX7_named_2 (nI v) (nI (P 0 3)) nm f t = bno (nNam P v f t) := by
  intro f
  induction f with
  | zero => intro t _; rw [mX7_named_2, nNam]; split <;> rfl
  | succ f ih =>
    intro t ht
    rw [mX7_named_2, nNam]
    by_cases h1 : t < P 0 3
    · have := hP t
      rw [if_pos (nI_lt h1 (by omega)), if_pos h1, zc t (by omega), hn t h1]
      by_cases h2 : P 1 t = v
      · rw [if_pos (by rw [h2]), if_pos h2, bnoS]
      · rw [if_neg (fun q => h2 ((nI_eq (by omega) (by omega)).mp q)), if_neg h2]
        exact ih (t + 1) (by omega)
    · rw [if_neg (nI_nlt (by omega) (by omega)), if_neg h1]; rfl
theorem c_known (h : gTok K V St B T' ks ss vs) {k : Nat} (hk : k ≤ B) {P : NP} (h3 : P 0 3 ≤ 24) (hP : ∀ t, P 1 t < 1000000000) {nm : Nat → Int32} (hn : ∀ t, t < P 0 3 → nm t = nI (P 1 t)) {r : Nat → NS} {p sm : Int32} {k0 : Nat} {C : (Int32 × Int32 × Int32) → SO}
    (hok : k < B → ∀ a, a < P 0 3 → nNamed P (V k) = a + 1 → cJ K V St B T' ks ss vs (r a) p sm k0 (C (nI a, 0, p)))
    (hbad : ∀ (y F Q : Int32), ¬ F = 0 → ∃ s', C (y, F, Q) = some (F, Q, s')) : cJ K V St B T' ks ss vs (nKnown K V St k P r) p sm k0 (xlet (mX8_thingNamed 0 p (nI (K k)) (nI (St k)) (nI (V k)) (nI (P 0 3)) nm) C) := by
  obtain ⟨_, _, _, b1, b2, _⟩ := h.2.2.2.1 k hk
  unfold mX8_thingNamed mX8_name nKnown
  by_cases e : K k = 3
  · have hkB := t_lt h hk (by omega)
    rw [if_pos (show nI (K k) = 3 by rw [e]; rfl), if_pos e]
    simp only [xlet_eq, xu]
    have hnn : mX7_named (nI (V k)) (nI (P 0 3)) nm = bno (nNamed P (V k)) := t_named h3 hP hn b2 24 0 rfl
    rw [hnn]
    cases ha : nNamed P (V k) with
    | zero =>
      rw [bno0, if_pos rfl, if_pos rfl, show (3 : Int32) = nI 3 from rfl, t_fail]
      exact cJ_bad (by decide) (by decide) (hbad _ _ _ (nz _ (by decide) (by decide)))
    | succ a =>
      have hle := (nNam_le P (V k) 24 0).2 (by unfold nNamed at ha; omega)
      have ha2 : a < P 0 3 := by unfold nNamed at ha; omega
      rw [bnoS, if_neg (nI_m1 (by omega)), if_neg (by omega)]
      exact hok hkB a ha2 ha
  · rw [if_neg (show ¬ nI (K k) = 3 from fun q => e ((nI_eq (b := 3) (by omega) (by decide)).mp q)), if_neg e, t_where h hk, show (1 : Int32) = nI 1 from rfl, t_fail]
    simp only [xlet_eq, xu]
    have s1 : ∀ x : Int32, mX8_fail 3 x (nI 1) (nI (gWh K V St k)) = (nI 1, nI (gWh K V St k)) := fun x => s_fail0 _ _ _ _ (nz 1 (by decide) (by decide))
    rw [s1]
    split
    · exact cJ_bad (by decide) (by decide) (hbad _ _ _ (nz _ (by decide) (by decide)))
    · exact cJ_bad (by decide) (by decide) (hbad _ _ _ (nz _ (by decide) (by decide)))
end SL
