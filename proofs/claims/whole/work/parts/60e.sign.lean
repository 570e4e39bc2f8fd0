/-- letters of an own word -/
def oLen (w : Nat) : Nat := ((List.range 6).filter (fun i => decide (lOw w i ≠ 32))).length
/-- an own word as the reference holds it -/
def oNum (w : Nat) : Nat := [504363578483, 499967946343, 1936292453, 1852143732, 1818848875, 29807, 1919905652, 426954289774, 1886351475, 440005915496, 427071599731, 1937007984, 1919247987, 6383461, 128034609393267, 1667330675, 1819238756, 26982, 28530, 6385252, 7237492, 6384748, 7170414, 7168376].getD w 0
theorem oNum_all : ∀ w, w < 24 → oNum w = lPk (lOw w) (oLen w) ∧ oNum w < 281474976710656 ∧ oLen w ≤ 6 ∧ ∀ i, i < 6 → (i < oLen w → 97 ≤ lOw w i ∧ lOw w i ≤ 122) ∧ (oLen w ≤ i → lOw w i = 32) := by decide +kernel
theorem oNum_inj : ∀ v, v < 24 → ∀ w, w < 24 → oNum v = oNum w → v = w := by decide +kernel
theorem same_iff {f : Nat → Nat} {L w : Nat} (hL : L ≤ 6) (hf : ∀ i, i < L → 97 ≤ f i ∧ f i ≤ 122) (hw : w < 24) : lSame f L w = true ↔ lPk f L = oNum w := by
  obtain ⟨e, _, h6, hl⟩ := oNum_all w hw
  rw [lSame_iff, e]
  constructor
  · intro h
    have hlen : L = oLen w := by
      rcases Nat.lt_trichotomy L (oLen w) with q | q | q
      · exfalso
        have a := (hl L (by omega)).1 q
        have b := h L (by omega)
        unfold lPd at b
        rw [if_neg (by omega)] at b
        omega
      · exact q
      · exfalso
        have a := (hl (oLen w) (by omega)).2 (Nat.le_refl _)
        have b := h (oLen w) (by omega)
        have c := hf (oLen w) q
        unfold lPd at b
        rw [if_pos q] at b
        omega
    rw [← hlen]
    refine lPk_cong (fun i hi => ?_)
    have b := h i (by omega)
    unfold lPd at b
    rw [if_pos hi] at b
    exact b.symm
  · intro h i hi
    obtain ⟨a, b⟩ := lPk_inj L (oLen w) f (lOw w) (fun i hi => by have := hf i hi; omega) (fun i hi => by have := (hl i (by omega)).1 hi; omega) h
    unfold lPd
    by_cases q : i < L
    · rw [if_pos q]; exact (b i q).symm
    · rw [if_neg q]; exact (hl i hi).2 (by omega)
theorem lOwn_some (f : Nat → Nat) (L : Nat) : ∀ k w v, lOwn f L k w = v + 1 → lSame f L v = true ∧ w ≤ v ∧ v < w + k := by
  intro k
  induction k with
  | zero => intro w v h; rw [lOwn] at h; exact absurd h (by omega)
  | succ k ih =>
    intro w v h
    rw [lOwn] at h
    by_cases q : lSame f L w = true
    · rw [if_pos q] at h
      have : w = v := by omega
      subst this
      exact ⟨q, Nat.le_refl _, by omega⟩
    · rw [if_neg q] at h
      obtain ⟨a, b, c⟩ := ih (w + 1) v h
      exact ⟨a, by omega, by omega⟩
theorem lOwn_ne (f : Nat → Nat) (L : Nat) : ∀ k w v, w ≤ v → v < w + k → lSame f L v = true → lOwn f L k w ≠ 0 := by
  intro k
  induction k with
  | zero => intro w v a b; omega
  | succ k ih =>
    intro w v a b h
    rw [lOwn]
    by_cases q : lSame f L w = true
    · rw [if_pos q]; omega
    · rw [if_neg q]
      have : w ≠ v := fun e => by rw [e] at q; exact q h
      exact ih (w + 1) v (by omega) (by omega) h
theorem own_iff {f : Nat → Nat} {L w : Nat} (hL : L ≤ 6) (hf : ∀ i, i < L → 97 ≤ f i ∧ f i ≤ 122) (hw : w < 24) : lOwn f L 24 0 = w + 1 ↔ lPk f L = oNum w := by
  constructor
  · intro h
    exact (same_iff hL hf hw).mp (lOwn_some f L 24 0 w h).1
  · intro h
    have s := (same_iff hL hf hw).mpr h
    have n0 := lOwn_ne f L 24 0 w (Nat.zero_le _) (by omega) s
    obtain ⟨v, hv⟩ : ∃ v, lOwn f L 24 0 = v + 1 := ⟨lOwn f L 24 0 - 1, by omega⟩
    obtain ⟨a, b, c⟩ := lOwn_some f L 24 0 v hv
    have e := (same_iff hL hf (show v < 24 by omega)).mp a
    rw [hv, oNum_inj v (by omega) w hw (by rw [← e, h])]
theorem own_none {f : Nat → Nat} {L : Nat} (hL : L ≤ 6) (hf : ∀ i, i < L → 97 ≤ f i ∧ f i ≤ 122) : lOwn f L 24 0 = 0 ↔ ∀ w, w < 24 → lPk f L ≠ oNum w := by
  constructor
  · intro h w hw q
    rw [(own_iff hL hf hw).mpr q] at h
    omega
  · intro h
    refine Classical.byContradiction (fun q => ?_)
    obtain ⟨v, hv⟩ : ∃ v, lOwn f L 24 0 = v + 1 := ⟨lOwn f L 24 0 - 1, by omega⟩
    obtain ⟨a, b, c⟩ := lOwn_some f L 24 0 v hv
    exact h v (by omega) ((same_iff hL hf (show v < 24 by omega)).mp a)
section SR
variable (tx : Nat → Nat) (n : Nat)
/-- a word's letters -/
theorem lWordAt {j : Nat} (hj : j < n) (hb : lBad tx n j = 0) (hl : lLt (tx j) = true) : lEnd tx n j - j ≤ 6 ∧ (∀ i, i < lEnd tx n j - j → 97 ≤ tx (j + i) ∧ tx (j + i) ≤ 122) ∧ lCnt tx n j = lEnd tx n j - j ∧ lSn tx n j = 1 := by
  have hw : (lLt (tx j) || lDg (tx j)) = true := by rw [hl]; rfl
  have he := lEnd_run tx n j hj hw
  have hp : lPr tx j = lLt := by unfold lPr; rw [if_pos hl]
  have hm : lMost tx j = 6 := by unfold lMost; rw [if_pos hl]
  have hle : lEnd tx n j - j ≤ 6 := by
    have q2 : ¬ j + lMost tx j < lEnd tx n j := by
      intro q
      unfold lBad at hb
      rw [if_pos hj, if_pos (show (lLt (tx j) || lDg (tx j)) = true ∧ j + lMost tx j < lEnd tx n j from ⟨hw, q⟩)] at hb
      split at hb <;> omega
    omega
  refine ⟨hle, fun i hi => ?_, ?_, ?_⟩
  · have hi2 : j + i < lRun tx (lPr tx j) (n - j) j := by rw [← he]; omega
    have a := lRun_in tx (lPr tx j) (n - j) j (j + i) (by omega) hi2
    rw [hp] at a
    exact of_decide_eq_true a
  · unfold lCnt
    rw [hm]
    split <;> omega
  · unfold lSn
    rw [if_pos hj, if_pos hl]
/-- the reference asks for an own word -/
theorem r_isWord {j w : Nat} (hj : j ≤ n) (hb : lBad tx n j = 0) (hw : w < 24) (w0 : Int64) : mX12_isWord (lN (oNum w)) (nI (lSn tx n j)) (if j < n then lN (lWd tx n j) else w0) = (decide (lKd tx n j = 4) && decide (lVl tx n j = w)) := by
  by_cases hj2 : j < n
  · by_cases hl : lLt (tx j) = true
    · obtain ⟨h1, h2, h3, h4⟩ := lWordAt tx n hj2 hb hl
      have on := own_iff (w := w) h1 h2 hw
      have lt : lPk (fun i => tx (j + i)) (lEnd tx n j - j) < 2 ^ 63 := by
        refine Nat.lt_of_le_of_lt ?_ (show 281474976710656 < 2 ^ 63 by decide)
        have : ∀ (f : Nat → Nat) (k : Nat), (∀ i, i < k → f i < 256) → lPk f k < 256 ^ k := by
          intro f k
          induction k with
          | zero => intro _; exact Nat.one_pos
          | succ k ih =>
            intro h
            have a := ih (fun i hi => h i (by omega))
            have b := h k (by omega)
            rw [lPk, Nat.pow_succ]
            omega
        have a := this (fun i => tx (j + i)) (lEnd tx n j - j) (fun i hi => by have := h2 i hi; omega)
        have b : 256 ^ (lEnd tx n j - j) ≤ 256 ^ 6 := Nat.pow_le_pow_right (by decide) h1
        omega
      have hv := (oNum_all w hw).2.1
      unfold mX12_isWord
      have hwd : lWd tx n j = lPk (fun i => tx (j + i)) (lEnd tx n j - j) := by unfold lWd; rw [if_pos h4, h3]
      rw [h4, if_pos (show nI 1 = (1 : Int32) from rfl), if_pos hj2, hwd]
      have key : (lN (lPk (fun i => tx (j + i)) (lEnd tx n j - j)) = lN (oNum w)) ↔ lOn tx n j = w + 1 := by
        rw [fb_lN_inj lt (by omega)]
        exact on.symm
      have hk : lKd tx n j = if lOn tx n j = 0 then 3 else 4 := by unfold lKd; rw [if_pos hj2, if_pos hb, if_pos hl]
      have hvl : lOn tx n j ≠ 0 → lVl tx n j = lOn tx n j - 1 := fun q => by unfold lVl; rw [if_pos hj2, if_pos hb, if_pos hl, if_neg q]
      by_cases e : lOn tx n j = w + 1
      · rw [if_pos (key.mpr e), hk, if_neg (by omega), hvl (by omega), e]
        simp
      · rw [if_neg (fun q => e (key.mp q)), hk]
        by_cases z : lOn tx n j = 0
        · rw [if_pos z]; rfl
        · rw [if_neg z, hvl z, decide_eq_false (show ¬ lOn tx n j - 1 = w by omega)]; rfl
    · have h1 : lSn tx n j = 2 ∨ lSn tx n j = 3 := by
        unfold lSn; rw [if_pos hj2, if_neg hl]; split
        · exact Or.inl rfl
        · exact Or.inr rfl
      have h2 : ¬ lKd tx n j = 4 := by
        unfold lKd; rw [if_pos hj2, if_pos hb, if_neg hl]; split <;> decide
      unfold mX12_isWord
      rw [decide_eq_false h2, if_neg (by rcases h1 with q | q <;> rw [q] <;> decide)]
      rfl
  · have h1 : lSn tx n j = 0 := by unfold lSn; rw [if_neg hj2]
    have h2 : ¬ lKd tx n j = 4 := by unfold lKd; rw [if_neg hj2]; decide
    unfold mX12_isWord
    rw [decide_eq_false h2, h1, if_neg (by decide)]
    rfl
theorem r_isSign {j c : Nat} (hj : j ≤ n) (hx : ∀ i, i < n → tx i < 256) (hb : lBad tx n j = 0) (hc : c < 1000) (v0 : Int32) : mX12_isSign (nI c) (nI (lSn tx n j)) (if j < n then nI (lVal tx n j) else v0) = (decide (lKd tx n j = 5) && decide (lVl tx n j = c)) := by
  unfold mX12_isSign
  by_cases hj2 : j < n
  · by_cases hl : lLt (tx j) = true
    · have h1 : lSn tx n j = 1 := by unfold lSn; rw [if_pos hj2, if_pos hl]
      have h2 : ¬ lKd tx n j = 5 := by unfold lKd; rw [if_pos hj2, if_pos hb, if_pos hl]; split <;> decide
      rw [decide_eq_false h2, h1, if_neg (by decide)]; rfl
    · by_cases hd : lDg (tx j) = true
      · have h1 : lSn tx n j = 2 := by unfold lSn; rw [if_pos hj2, if_neg hl, if_pos hd]
        have h2 : ¬ lKd tx n j = 5 := by unfold lKd; rw [if_pos hj2, if_pos hb, if_neg hl, if_pos hd]; decide
        rw [decide_eq_false h2, h1, if_neg (by decide)]; rfl
      · have h1 : lSn tx n j = 3 := by unfold lSn; rw [if_pos hj2, if_neg hl, if_neg hd]
        have h2 : lKd tx n j = 5 := by unfold lKd; rw [if_pos hj2, if_pos hb, if_neg hl, if_neg hd]
        have h3 : lVl tx n j = tx j := by unfold lVl; rw [if_pos hj2, if_pos hb, if_neg hl, if_neg hd]
        have h4 : lVal tx n j = tx j := by unfold lVal; rw [h1]; rfl
        have hv := hx j hj2
        rw [decide_eq_true h2, h1, if_pos (show nI 3 = (3 : Int32) from rfl), if_pos hj2, h3, h4]
        by_cases e : tx j = c
        · rw [if_pos (by rw [e]), decide_eq_true e]; rfl
        · rw [if_neg (fun q => e ((nI_eq (by omega) (by omega)).mp q)), decide_eq_false e]; rfl
  · have h1 : lSn tx n j = 0 := by unfold lSn; rw [if_neg hj2]
    have h2 : ¬ lKd tx n j = 5 := by unfold lKd; rw [if_neg hj2]; decide
    rw [decide_eq_false h2, h1, if_neg (by decide)]; rfl
theorem lKd_bad {j : Nat} (hj : j ≤ n) : lKd tx n j = 1 ↔ lBad tx n j ≠ 0 := by
  by_cases hj2 : j < n
  · unfold lKd
    rw [if_pos hj2]
    by_cases hb : lBad tx n j = 0
    · rw [if_pos hb]
      refine ⟨fun q => ?_, fun q => absurd hb q⟩
      split at q
      · split at q <;> omega
      · split at q <;> omega
    · rw [if_neg hb]; exact ⟨fun _ => hb, fun _ => rfl⟩
  · have hb : lBad tx n j = 0 := by unfold lBad; rw [if_neg hj2]
    rw [hb]
    unfold lKd
    rw [if_neg hj2]
    exact ⟨fun q => absurd q (by decide), fun q => absurd rfl q⟩
/-- the sign itself is wrong: its place -/
theorem r_lex {j : Nat} (hn : n ≤ 1600) (hj : j ≤ n) (F P : Int32) : mX12_lex F P (bno (lBad tx n j)) = if lKd tx n j = 1 then mX12_blame 1 (nI (lVl tx n j)) F P else (F, P) := by
  unfold mX12_lex
  by_cases hk : lKd tx n j = 1
  · have hb := (lKd_bad tx n hj).mp hk
    have hj2 : j < n := by
      refine Classical.byContradiction (fun q => hb ?_)
      unfold lBad; rw [if_neg q]
    obtain ⟨b, hbe⟩ : ∃ b, lBad tx n j = b + 1 := ⟨lBad tx n j - 1, by omega⟩
    have hv : lVl tx n j = b := by unfold lVl; rw [if_pos hj2, if_neg hb, hbe]; rfl
    have hlt : b < 100000 := by
      have hle := (lEnd_le tx n j hj2).2
      have h2 : lBad tx n j ≤ n + 1 := by
        unfold lBad
        rw [if_pos hj2]
        split
        · omega
        · split
          · rename_i q; have := q.2; omega
          · omega
      omega
    rw [if_pos hk, hbe, bnoS, if_neg (nI_m1 (by omega)), hv, xlet_eq]
    rfl
  · have hb : lBad tx n j = 0 := by
      refine Classical.byContradiction (fun q => hk ((lKd_bad tx n hj).mpr q))
    rw [if_neg hk, hb, bno0, if_pos rfl]
theorem r_num {j : Nat} (hj : j ≤ n) (hb : lBad tx n j = 0) : (nI (lSn tx n j) = (2 : Int32) ↔ lKd tx n j = 2) ∧ (lKd tx n j = 2 → ∀ v0 : Int32, (if j < n then nI (lVal tx n j) else v0) = nI (lVl tx n j)) := by
  by_cases hj2 : j < n
  · by_cases hl : lLt (tx j) = true
    · have h1 : lSn tx n j = 1 := by unfold lSn; rw [if_pos hj2, if_pos hl]
      have h2 : ¬ lKd tx n j = 2 := by unfold lKd; rw [if_pos hj2, if_pos hb, if_pos hl]; split <;> decide
      exact ⟨⟨fun q => by rw [h1] at q; exact absurd q (by decide), fun q => absurd q h2⟩, fun q => absurd q h2⟩
    · by_cases hd : lDg (tx j) = true
      · have h1 : lSn tx n j = 2 := by unfold lSn; rw [if_pos hj2, if_neg hl, if_pos hd]
        have h2 : lKd tx n j = 2 := by unfold lKd; rw [if_pos hj2, if_pos hb, if_neg hl, if_pos hd]
        refine ⟨⟨fun _ => h2, fun _ => by rw [h1]; rfl⟩, fun _ v0 => ?_⟩
        rw [if_pos hj2]
        have hw : (lLt (tx j) || lDg (tx j)) = true := by rw [hd]; exact Bool.or_true _
        have hm : lMost tx j = 4 := by unfold lMost; rw [if_neg hl]
        have hle : lEnd tx n j - j ≤ 4 := by
          have q2 : ¬ j + lMost tx j < lEnd tx n j := by
            intro q
            unfold lBad at hb
            rw [if_pos hj2, if_pos (show (lLt (tx j) || lDg (tx j)) = true ∧ j + lMost tx j < lEnd tx n j from ⟨hw, q⟩)] at hb
            split at hb <;> omega
          omega
        have h3 : lCnt tx n j = lEnd tx n j - j := by unfold lCnt; rw [hm]; split <;> omega
        unfold lVal lVl
        rw [h1, if_pos rfl, if_pos hj2, if_pos hb, if_neg hl, if_pos hd, h3]
      · have h1 : lSn tx n j = 3 := by unfold lSn; rw [if_pos hj2, if_neg hl, if_neg hd]
        have h2 : ¬ lKd tx n j = 2 := by unfold lKd; rw [if_pos hj2, if_pos hb, if_neg hl, if_neg hd]; decide
        exact ⟨⟨fun q => by rw [h1] at q; exact absurd q (by decide), fun q => absurd q h2⟩, fun q => absurd q h2⟩
  · have h1 : lSn tx n j = 0 := by unfold lSn; rw [if_neg hj2]
    have h2 : ¬ lKd tx n j = 2 := by unfold lKd; rw [if_neg hj2]; decide
    exact ⟨⟨fun q => by rw [h1] at q; exact absurd q (by decide), fun q => absurd q h2⟩, fun q => absurd q h2⟩
end SR
