def cS' (s : Nat × Nat) (found : Bool) (tel : Nat → Int32) : Prop := found = decide (s.1 ≠ 0) ∧ (s.1 ≠ 0 → tel 0 = nI ((s.1 + 2) / 3) ∧ tel 1 = nI ((s.1 + 2) % 3) ∧ tel 2 = nI s.2)
def gTe0 (P : GP) (g : GH) (t M : Nat) (R : Nat → Nat) (j : Nat) : Nat × Nat := if gLeft P g t M R P.2.2 = 0 then (0, 0) else gTe P g t M R j
theorem c_tellV {s : Nat × Nat} {found : Bool} {tel : Nat → Int32} (h : cS' s found tel) {w : Nat} (hw : w ≤ 2) : (if found = true then mX11_at 3 (nI w) tel else -1) = gTv s (nI w) := by
  obtain ⟨h1, h2⟩ := h
  unfold gTv
  by_cases z : s.1 = 0
  · rw [if_neg (show ¬ found = true by rw [h1, decide_eq_false (fun q => q z)]; decide), if_pos z]
  · obtain ⟨a, b, c⟩ := h2 z
    rw [if_pos (show found = true by rw [h1, decide_eq_true z]), if_neg z, s_at 3 w (by omega) (by decide)]
    rcases (by omega : w = 0 ∨ w = 1 ∨ w = 2) with rfl | rfl | rfl
    · rw [if_pos (show nI 0 = 0 from rfl)]; exact a
    · rw [if_neg (show ¬ nI 1 = 0 by decide), if_pos (show nI 1 = 1 from rfl)]; exact b
    · rw [if_neg (show ¬ nI 2 = 0 by decide), if_neg (show ¬ nI 2 = 1 by decide)]; exact c
section CTE
variable {g : GH} {P : GP} {M : Nat} {R : Nat → Nat} {met : Int32} {rows cn : Nat → Int32} {t : Nat}
theorem c_tell18 (W : gW g) (hg : 0 < g 0 t) (hM : gMet M R) (hr : cRow M R met rows) (T : gT2 P g t 20 (P.2.2 + 1) cn) (hU2 : P.2.2 ≤ 99) {n : Nat} (hn0 : 0 < n) (hn : n ≤ gR20 g) (K4) : ∀ k i (found : Bool) (tel tal : Nat → Int32), i + k = 3 → cS' (gTe0 P g t M R (3 * (n - 1) + i)) found tel →
    ∃ found' tel' tal', mX2_findTelling_18 met (nI P.2.2) rows cn n K4 k i found tel tal = K4 found' tel' tal' ∧ cS' (gTe0 P g t M R (3 * n)) found' tel' := by
  intro k
  induction k with
  | zero =>
    intro i found tel tal hi h
    have e : 3 * (n - 1) + i = 3 * n := by omega
    rw [e] at h
    rw [mX2_findTelling_18]
    exact ⟨found, tel, tal, rfl, h⟩
  | succ k ih =>
    intro i found tel tal hi h
    have hR := gR20_le g
    obtain ⟨ta', e⟩ := c_most W hg hM hr T hU2 hn (show i < 3 by omega) tal
    have hm : gMoA P g t M R n i ≤ P.2.2 := gMo_le _ _ _
    have eT : gTe P g t M R (3 * (n - 1) + (i + 1)) = if (gTe P g t M R (3 * (n - 1) + i)).1 = 0 ∨ gMoA P g t M R n i < (gTe P g t M R (3 * (n - 1) + i)).2 then (3 * (n - 1) + i + 1, gMoA P g t M R n i) else gTe P g t M R (3 * (n - 1) + i) := by
      rw [show 3 * (n - 1) + (i + 1) = (3 * (n - 1) + i) + 1 by omega, gTe, show (3 * (n - 1) + i) / 3 + 1 = n by omega, show (3 * (n - 1) + i) % 3 = i by omega]
    have bT := gTe_le P g t M R (3 * (n - 1) + i)
    rw [mX2_findTelling_18, e, xlet_eq, xu_q]
    have z0 : (0 : Int32).toNatClampNeg = 0 := rfl
    have z1 : (1 : Int32).toNatClampNeg = 1 := rfl
    have z2 : (2 : Int32).toNatClampNeg = 2 := rfl
    have c0 : (0 < nI (gMoA P g t M R n i)) ↔ 0 < gMoA P g t M R n i := nIp (by omega)
    by_cases hL : gLeft P g t M R P.2.2 = 0
    · have : gMoA P g t M R n i = 0 := gMo_0 hL
      rw [if_neg (fun q => by have := c0.mp q; omega)]
      refine ih (i + 1) found tel ta' (by omega) ?_
      have a : ∀ j, gTe0 P g t M R j = (0, 0) := fun j => by unfold gTe0; rw [if_pos hL]
      rw [a] at h ⊢
      exact h
    · have : 0 < gMoA P g t M R n i := gMo_pos (Nat.pos_of_ne_zero hL)
      have a : ∀ j, gTe0 P g t M R j = gTe P g t M R j := fun j => by unfold gTe0; rw [if_neg hL]
      rw [if_pos (c0.mpr this)]
      rw [a] at h
      have set : ∃ found' tel' tal', mX2_findTelling_53 tel i n (fun zx2_18 za_telling_18 za_tally_18 => mX2_findTelling_18 met (nI P.2.2) rows cn n K4 k (i + 1) zx2_18 za_telling_18 za_tally_18) (nI (gMoA P g t M R n i)) ta' = K4 found' tel' tal' ∧ cS' (gTe0 P g t M R (3 * n)) found' tel' ∨ ¬ ((gTe P g t M R (3 * (n - 1) + i)).1 = 0 ∨ gMoA P g t M R n i < (gTe P g t M R (3 * (n - 1) + i)).2) := by
        by_cases z : (gTe P g t M R (3 * (n - 1) + i)).1 = 0 ∨ gMoA P g t M R n i < (gTe P g t M R (3 * (n - 1) + i)).2
        · unfold mX2_findTelling_53
          rw [z0, z1, z2]
          obtain ⟨f1, t1, u1, p, q⟩ := ih (i + 1) true (upd (upd (upd tel 0 (nI n)) 1 (nI i)) 2 (nI (gMoA P g t M R n i))) ta' (by omega) (by
            rw [a, eT, if_pos z]
            refine ⟨rfl, fun _ => ⟨?_, ?_, ?_⟩⟩
            · rw [pk_un (by omega), pk_un (by omega), pk_us]
              congr 1
              show n = (3 * (n - 1) + i + 1 + 2) / 3
              omega
            · rw [pk_un (by omega), pk_us]
              congr 1
              show i = (3 * (n - 1) + i + 1 + 2) % 3
              omega
            · rw [pk_us])
          exact ⟨f1, t1, u1, Or.inl ⟨p, q⟩⟩
        · exact ⟨found, tel, tal, Or.inr z⟩
      have keep : ¬ ((gTe P g t M R (3 * (n - 1) + i)).1 = 0 ∨ gMoA P g t M R n i < (gTe P g t M R (3 * (n - 1) + i)).2) → ∃ found' tel' tal', mX2_findTelling_18 met (nI P.2.2) rows cn n K4 k (i + 1) found tel ta' = K4 found' tel' tal' ∧ cS' (gTe0 P g t M R (3 * n)) found' tel' := fun z => ih (i + 1) found tel ta' (by omega) (by rw [a, eT, if_neg z]; exact h)
      obtain ⟨h1, h2⟩ := h
      by_cases y : (gTe P g t M R (3 * (n - 1) + i)).1 = 0
      · rw [if_neg (show ¬ found = true by rw [h1, decide_eq_false (fun q => q y)]; decide)]
        obtain ⟨f1, t1, u1, o⟩ := set
        exact ⟨f1, t1, u1, o.resolve_right (fun q => q (Or.inl y))⟩
      · rw [if_pos (show found = true by rw [h1, decide_eq_true y]), z2, (h2 y).2.2]
        have c : (nI (gMoA P g t M R n i) < nI (gTe P g t M R (3 * (n - 1) + i)).2) ↔ gMoA P g t M R n i < (gTe P g t M R (3 * (n - 1) + i)).2 := nI_ltI (by omega) (by omega)
        by_cases w : gMoA P g t M R n i < (gTe P g t M R (3 * (n - 1) + i)).2
        · rw [if_pos (c.mpr w)]
          obtain ⟨f1, t1, u1, o⟩ := set
          exact ⟨f1, t1, u1, o.resolve_right (fun q => q (Or.inr w))⟩
        · rw [if_neg (fun q => w (c.mp q))]
          exact keep (fun q => q.elim y w)
theorem c_tell (W : gW g) (h8 : g 8 0 ≤ 999) (hg : 0 < g 0 t) (hM : gMet M R) (hr : cRow M R met rows) (T : gT2 P g t 20 (P.2.2 + 1) cn) (hU2 : P.2.2 ≤ 99) (tel tal : Nat → Int32) :
    ∃ found' tel' tal', mX2_findTelling (999 - nI (g 8 0)) met (nI P.2.2) tel rows cn tal = (found', tel', tal') ∧ cS' (gTe0 P g t M R (3 * gR20 g)) found' tel' := by
  have hR := gR20_le g
  unfold mX2_findTelling
  rw [show (999 : Int32) - nI (g 8 0) = nI (999 - g 8 0) from pk_sub (a := 999) h8]
  have go : ∀ k n (found : Bool) (tel tal : Nat → Int32), n + k = 20 → n ≤ gR20 g → cS' (gTe0 P g t M R (3 * n)) found tel → ∃ found' tel' tal', mX2_findTelling_4 (nI (999 - g 8 0)) met (nI P.2.2) rows cn k (n + 1) found tel tal = (found', tel', tal') ∧ cS' (gTe0 P g t M R (3 * gR20 g)) found' tel' := by
    intro k
    induction k with
    | zero =>
      intro n found tel tal hn hm h
      have : n = gR20 g := by omega
      rw [← this, mX2_findTelling_4, ite_self]
      exact ⟨found, tel, tal, rfl, h⟩
    | succ k ih =>
      intro n found tel tal hn hm h
      rw [mX2_findTelling_4]
      by_cases l : 999 - g 8 0 < n + 1
      · have : n = gR20 g := by
          have := hR.2 h8
          unfold gR20 at hm ⊢
          split <;> split at hm <;> omega
        rw [if_pos (nI_lt l (by omega)), ← this]
        exact ⟨found, tel, tal, rfl, h⟩
      · rw [if_neg (nI_nlt (by omega) (by omega))]
        have hn1 : n + 1 ≤ gR20 g := by
          unfold gR20
          split <;> omega
        obtain ⟨f1, t1, u1, e, h1⟩ := c_tell18 W hg hM hr T hU2 (show 0 < n + 1 by omega) hn1 (fun zx2_4 za_telling_4 za_tally_4 => mX2_findTelling_4 (nI (999 - g 8 0)) met (nI P.2.2) rows cn k (n + 1 + 1) zx2_4 za_telling_4 za_tally_4) 3 0 found tel tal rfl (by rw [Nat.add_sub_cancel]; exact h)
        rw [e]
        exact ih (n + 1) f1 t1 u1 (by omega) hn1 h1
  refine go 20 0 false tel tal rfl (Nat.zero_le _) ?_
  have : gTe0 P g t M R (3 * 0) = (0, 0) := by
    unfold gTe0
    split <;> rfl
  rw [this]
  exact ⟨rfl, fun q => absurd rfl q⟩
theorem gTe0_v (w : Int32) (j : Nat) : gTv (gTe0 P g t M R j) w = if gLeft P g t M R P.2.2 = 0 then -1 else gTv (gTe P g t M R j) w := by
  unfold gTe0
  by_cases h : gLeft P g t M R P.2.2 = 0
  · rw [if_pos h, if_pos h]; rfl
  · rw [if_neg h, if_neg h]
end CTE
