/-- letter i of a name: 1 to 26, 0 behind it -/
def lDd (f : Nat → Nat) (L i : Nat) : Nat := if i < L then f i - 96 else 0
theorem lQ_eq {f g : Nat → Nat} {L M : Nat} (hf : ∀ i, i < L → f i ≤ 122) (hg : ∀ i, i < M → g i ≤ 122) : ∀ k, lQ f L k = lQ g M k → ∀ i, i < k → lDd f L i = lDd g M i := by
  intro k
  induction k with
  | zero => intro _ i hi; omega
  | succ k ih =>
    intro h i hi
    rw [lQ, lQ] at h
    have a : lDd f L k ≤ 26 := by unfold lDd; split
                                  · have := hf k (by assumption); omega
                                  · omega
    have b : lDd g M k ≤ 26 := by unfold lDd; split
                                  · have := hg k (by assumption); omega
                                  · omega
    have h' : lQ f L k * 27 + lDd f L k = lQ g M k * 27 + lDd g M k := h
    have e1 : lQ f L k = lQ g M k := by omega
    by_cases q : i = k
    · subst q; omega
    · exact ih e1 i (by omega)
theorem lQ_cong {f g : Nat → Nat} {L : Nat} (h : ∀ i, i < L → f i = g i) : ∀ k, lQ f L k = lQ g L k := by
  intro k
  induction k with
  | zero => rfl
  | succ k ih =>
    rw [lQ, lQ, ih]
    congr 1
    by_cases q : k < L
    · rw [if_pos q, if_pos q, h k q]
    · rw [if_neg q, if_neg q]
/-- two names are one by 27 where they are by 256 -/
theorem names_iff {f g : Nat → Nat} {L M : Nat} (hL : L ≤ 6) (hM : M ≤ 6) (hf : ∀ i, i < L → 97 ≤ f i ∧ f i ≤ 122) (hg : ∀ i, i < M → 97 ≤ g i ∧ g i ≤ 122) : lQ f L 6 = lQ g M 6 ↔ lPk f L = lPk g M := by
  constructor
  · intro h
    have d := lQ_eq (fun i hi => (hf i hi).2) (fun i hi => (hg i hi).2) 6 h
    have hlen : L = M := by
      rcases Nat.lt_trichotomy L M with q | q | q
      · exfalso
        have a := d L (by omega)
        have b := hg L q
        unfold lDd at a
        rw [if_neg (by omega), if_pos q] at a
        omega
      · exact q
      · exfalso
        have a := d M (by omega)
        have b := hf M q
        unfold lDd at a
        rw [if_pos q, if_neg (Nat.lt_irrefl M)] at a
        omega
    subst hlen
    refine lPk_cong (fun i hi => ?_)
    have a := d i (by omega)
    have b := hf i hi
    have c := hg i hi
    unfold lDd at a
    rw [if_pos hi, if_pos hi] at a
    omega
  · intro h
    obtain ⟨a, b⟩ := lPk_inj L M f g (fun i hi => by have := hf i hi; omega) (fun i hi => by have := hg i hi; omega) h
    subst a
    exact lQ_cong b 6
theorem isOwn_yes : ∀ w, w < 24 → mX12_isOwn (lN (oNum w)) = true := by decide +kernel
theorem isOwn_no {v : Int64} (no : ∀ w, w < 24 → ¬ v = lN (oNum w)) : mX12_isOwn v = false := by
  unfold mX12_isOwn
  rw [if_neg (show ¬ v = (504363578483 : Int64) from no 0 (by decide))]
  rw [if_neg (show ¬ v = (499967946343 : Int64) from no 1 (by decide))]
  rw [if_neg (show ¬ v = (1936292453 : Int64) from no 2 (by decide))]
  rw [if_neg (show ¬ v = (1852143732 : Int64) from no 3 (by decide))]
  rw [if_neg (show ¬ v = (1818848875 : Int64) from no 4 (by decide))]
  rw [if_neg (show ¬ v = (29807 : Int64) from no 5 (by decide))]
  rw [if_neg (show ¬ v = (1919905652 : Int64) from no 6 (by decide))]
  rw [if_neg (show ¬ v = (426954289774 : Int64) from no 7 (by decide))]
  rw [if_neg (show ¬ v = (1886351475 : Int64) from no 8 (by decide))]
  rw [if_neg (show ¬ v = (440005915496 : Int64) from no 9 (by decide))]
  rw [if_neg (show ¬ v = (427071599731 : Int64) from no 10 (by decide))]
  rw [if_neg (show ¬ v = (1937007984 : Int64) from no 11 (by decide))]
  rw [if_neg (show ¬ v = (1919247987 : Int64) from no 12 (by decide))]
  rw [if_neg (show ¬ v = (6383461 : Int64) from no 13 (by decide))]
  rw [if_neg (show ¬ v = (128034609393267 : Int64) from no 14 (by decide))]
  rw [if_neg (show ¬ v = (1667330675 : Int64) from no 15 (by decide))]
  rw [if_neg (show ¬ v = (1819238756 : Int64) from no 16 (by decide))]
  rw [if_neg (show ¬ v = (26982 : Int64) from no 17 (by decide))]
  rw [if_neg (show ¬ v = (28530 : Int64) from no 18 (by decide))]
  rw [if_neg (show ¬ v = (6385252 : Int64) from no 19 (by decide))]
  rw [if_neg (show ¬ v = (7237492 : Int64) from no 20 (by decide))]
  rw [if_neg (show ¬ v = (6384748 : Int64) from no 21 (by decide))]
  rw [if_neg (show ¬ v = (7170414 : Int64) from no 22 (by decide))]
  rw [if_neg (show ¬ v = (7168376 : Int64) from no 23 (by decide))]
theorem r_isOwn {f : Nat → Nat} {L : Nat} (hL : L ≤ 6) (hf : ∀ i, i < L → 97 ≤ f i ∧ f i ≤ 122) : mX12_isOwn (lN (lPk f L)) = !decide (lOwn f L 24 0 = 0) := by
  have lt : lPk f L < 2 ^ 63 := by
    have : ∀ (f : Nat → Nat) (k : Nat), (∀ i, i < k → f i < 256) → lPk f k < 256 ^ k := by
      intro f k
      induction k with
      | zero => intro _; exact Nat.one_pos
      | succ k ih =>
        intro h
        have a := ih (fun i hi => h i (by omega))
        have b := h k (by omega)
        rw [lPk, Nat.pow_succ]
        omega
    have a := this f L (fun i hi => by have := hf i hi; omega)
    have b : 256 ^ L ≤ 256 ^ 6 := Nat.pow_le_pow_right (by decide) hL
    omega
  by_cases h : lOwn f L 24 0 = 0
  · rw [decide_eq_true h]
    refine isOwn_no (fun w hw q => ?_)
    have := (oNum_all w hw).2.1
    exact (own_none hL hf).mp h w hw ((fb_lN_inj lt (by omega)).mp q)
  · rw [decide_eq_false h]
    obtain ⟨v, hv⟩ : ∃ v, lOwn f L 24 0 = v + 1 := ⟨lOwn f L 24 0 - 1, by omega⟩
    obtain ⟨a, b, c⟩ := lOwn_some f L 24 0 v hv
    rw [(same_iff hL hf (show v < 24 by omega)).mp a]
    exact isOwn_yes v (by omega)
section SX
variable (tx : Nat → Nat) (n : Nat)
/-- a sign is a name -/
theorem r_name {j : Nat} (hj : j ≤ n) (hb : lBad tx n j = 0) (w0 : Int64) : lKd tx n j = 3 ↔ nI (lSn tx n j) = (1 : Int32) ∧ mX12_isOwn (if j < n then lN (lWd tx n j) else w0) = false := by
  by_cases hj2 : j < n
  · by_cases hl : lLt (tx j) = true
    · obtain ⟨h1, h2, h3, h4⟩ := lWordAt tx n hj2 hb hl
      have hwd : lWd tx n j = lPk (fun i => tx (j + i)) (lEnd tx n j - j) := by unfold lWd; rw [if_pos h4, h3]
      rw [if_pos hj2, hwd, r_isOwn h1 h2, h4]
      have hk : lKd tx n j = if lOn tx n j = 0 then 3 else 4 := by unfold lKd; rw [if_pos hj2, if_pos hb, if_pos hl]
      rw [hk]
      by_cases z : lOn tx n j = 0
      · rw [if_pos z]
        have z' : lOwn (fun i => tx (j + i)) (lEnd tx n j - j) 24 0 = 0 := z
        rw [decide_eq_true z']
        exact ⟨fun _ => ⟨rfl, rfl⟩, fun _ => rfl⟩
      · rw [if_neg z]
        have z' : ¬ lOwn (fun i => tx (j + i)) (lEnd tx n j - j) 24 0 = 0 := z
        rw [decide_eq_false z']
        exact ⟨fun q => absurd q (by decide), fun q => absurd q.2 (by decide)⟩
    · have h1 : lSn tx n j = 2 ∨ lSn tx n j = 3 := by
        unfold lSn; rw [if_pos hj2, if_neg hl]; split
        · exact Or.inl rfl
        · exact Or.inr rfl
      have h2 : ¬ lKd tx n j = 3 := by
        unfold lKd; rw [if_pos hj2, if_pos hb, if_neg hl]; split <;> decide
      refine ⟨fun q => absurd q h2, fun q => ?_⟩
      have := q.1
      rcases h1 with z | z <;> rw [z] at this <;> exact absurd this (by decide)
  · have h1 : lSn tx n j = 0 := by unfold lSn; rw [if_neg hj2]
    have h2 : ¬ lKd tx n j = 3 := by unfold lKd; rw [if_neg hj2]; decide
    refine ⟨fun q => absurd q h2, fun q => ?_⟩
    have := q.1
    rw [h1] at this
    exact absurd this (by decide)
/-- what a name is: by 27 and by 256 -/
theorem r_nameV {j : Nat} (hk : lKd tx n j = 3) : j < n ∧ lEnd tx n j - j ≤ 6 ∧ (∀ i, i < lEnd tx n j - j → 97 ≤ tx (j + i) ∧ tx (j + i) ≤ 122) ∧ lVl tx n j = lQ (fun i => tx (j + i)) (lEnd tx n j - j) 6 ∧ lWd tx n j = lPk (fun i => tx (j + i)) (lEnd tx n j - j) := by
  have hj2 : j < n := by
    refine Classical.byContradiction (fun q => ?_)
    unfold lKd at hk; rw [if_neg q] at hk; exact absurd hk (by decide)
  have hb : lBad tx n j = 0 := by
    refine Classical.byContradiction (fun q => ?_)
    unfold lKd at hk; rw [if_pos hj2, if_neg q] at hk; exact absurd hk (by decide)
  have hl : lLt (tx j) = true := by
    refine Classical.byContradiction (fun q => ?_)
    unfold lKd at hk; rw [if_pos hj2, if_pos hb, if_neg q] at hk
    split at hk <;> exact absurd hk (by decide)
  have ho : lOn tx n j = 0 := by
    refine Classical.byContradiction (fun q => ?_)
    unfold lKd at hk; rw [if_pos hj2, if_pos hb, if_pos hl, if_neg q] at hk; exact absurd hk (by decide)
  obtain ⟨h1, h2, h3, h4⟩ := lWordAt tx n hj2 hb hl
  refine ⟨hj2, h1, h2, ?_, ?_⟩
  · unfold lVl; rw [if_pos hj2, if_pos hb, if_pos hl, if_pos ho]
  · unfold lWd; rw [if_pos h4, h3]
end SX
