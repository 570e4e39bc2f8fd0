theorem s_isLetter8 (c : Nat) (hc : c < 1000) : mX8_isLetter (nI c) = lLt c := s_isLetter c hc
theorem s_isDigit8 (c : Nat) (hc : c < 1000) : mX8_isDigit (nI c) = lDg c := s_isDigit c hc
theorem s_isBlank8 (c : Nat) (hc : c < 1000) : mX8_isBlank (nI c) = lBl c := by
  unfold mX8_isBlank lBl
  by_cases h1 : c = 10
  · subst h1; rfl
  · have n1 : ¬ nI c = 10 := fun q => h1 ((nI_eq (b := 10) (by omega) (by decide)).mp q)
    by_cases h2 : c = 32
    · subst h2; rfl
    · have n2 : ¬ nI c = 32 := fun q => h2 ((nI_eq (b := 32) (by omega) (by decide)).mp q)
      rw [decide_eq_false (by omega)]
      simp [n1, n2]
/-- six letters packed by 27, with none behind the L-th -/
def lQ (f : Nat → Nat) (L : Nat) : Nat → Nat
  | 0 => 0
  | k + 1 => lQ f L k * 27 + (if k < L then f k - 96 else 0)
def lOw (w i : Nat) : Nat := (xow (nI (6 * w + i))).toNatClampNeg
theorem lOw_all : ∀ k, k < 144 → xow (nI k) = nI ((xow (nI k)).toNatClampNeg) ∧ (xow (nI k)).toNatClampNeg < 128 := by decide +kernel
theorem lOw_eq (w i : Nat) (hw : w < 24) (hi : i < 6) : xow (nI (6 * w + i)) = nI (lOw w i) ∧ lOw w i < 128 := lOw_all _ (by omega)
/-- letter i of a word of L letters, a blank behind -/
def lPd (f : Nat → Nat) (L i : Nat) : Nat := if i < L then f i else 32
def lSame (f : Nat → Nat) (L w : Nat) : Bool := !bex (fun i => !decide (lOw w i = lPd f L i)) 6 0
theorem lSame_iff (f : Nat → Nat) (L w : Nat) : lSame f L w = true ↔ ∀ i, i < 6 → lOw w i = lPd f L i := by
  unfold lSame
  rw [Bool.not_eq_true', Bool.eq_false_iff]
  constructor
  · intro h i hi
    refine Classical.byContradiction (fun q => h ((bexI _ _).mpr ⟨i, hi, ?_⟩))
    rw [decide_eq_false q]; rfl
  · intro h q
    obtain ⟨i, hi, e⟩ := (bexI _ _).mp q
    rw [decide_eq_true (h i hi)] at e
    exact absurd e (by decide)
/-- the own word of these letters, one more; 0 if none -/
def lOwn (f : Nat → Nat) (L : Nat) : Nat → Nat → Nat
  | 0, _ => 0
  | k + 1, w => if lSame f L w = true then w + 1 else lOwn f L k (w + 1)
section LB
variable (tx : Nat → Nat) (n : Nat) (tp : Nat → Int32)
theorem s_own_16 (hn : n ≤ 1600) (ht : ∀ i, i < n → tp i = nI (tx i)) (hb : ∀ i, i < n → tx i < 256) (j L w : Nat) (hL : j + L ≤ n) (hw : w < 24) (K3 : Int32) : ∀ (k i : Nat) (x : Int32), i + k = 6 → ((x = 1 ∧ ∀ y, y < i → lOw w y = lPd (fun i => tx (j + i)) L y) ∨ (x = 0 ∧ ∃ y, y < i ∧ lOw w y ≠ lPd (fun i => tx (j + i)) L y)) →
    mX8_ownWord_16 1600 (nI j) (nI (j + L)) tp w K3 k i x = if lSame (fun i => tx (j + i)) L w = true then nI w else K3 := by
  intro k
  induction k with
  | zero =>
    intro i x hi hx
    have : i = 6 := by omega
    subst this
    rw [mX8_ownWord_16]
    rcases hx with ⟨h1, h2⟩ | ⟨h1, y, h2, h3⟩
    · rw [if_neg (by rw [h1]; decide), if_pos ((lSame_iff _ _ _).mpr h2)]
    · rw [if_pos h1, if_neg (fun q => h3 ((lSame_iff _ _ _).mp q y h2))]
  | succ k ih =>
    intro i x hi hx
    rw [mX8_ownWord_16]
    rcases hx with ⟨h1, h2⟩ | ⟨h1, y, h2, h3⟩
    · obtain ⟨o1, o2⟩ := lOw_eq w i hw (by omega)
      have e6 : nI w * 6 + nI i = nI (6 * w + i) := by rw [show (6 : Int32) = nI 6 from rfl, pk_mul, nI_add, Nat.mul_comm]
      have body : ∀ c, c < 256 → lPd (fun i => tx (j + i)) L i = c → mX8_ownWord_49 i w (fun zx5_16 => mX8_ownWord_16 1600 (nI j) (nI (j + L)) tp w K3 k (i + 1) zx5_16) (nI c) = if lSame (fun i => tx (j + i)) L w = true then nI w else K3 := by
        intro c hc hp
        unfold mX8_ownWord_49
        rw [e6, if_pos (show nI (6 * w + i) < 144 from nI_lt (b := 144) (by omega) (by decide)), o1]
        by_cases q : lOw w i = c
        · rw [if_pos (by rw [q])]
          refine ih (i + 1) 1 (by omega) (Or.inl ⟨rfl, fun y hy => ?_⟩)
          by_cases e : y = i
          · subst e; rw [q, hp]
          · exact h2 y (by omega)
        · rw [if_neg (fun z => q ((nI_eq (by omega) (by omega)).mp z))]
          exact ih (i + 1) 0 (by omega) (Or.inr ⟨rfl, i, by omega, by rw [hp]; exact q⟩)
      rw [if_neg (by rw [h1]; decide), nI_add]
      by_cases hl : i < L
      · rw [if_pos (nI_lt (by omega) (by omega)), s_at 1600 (j + i) (by omega) (by decide), ht _ (by omega)]
        exact body _ (hb _ (by omega)) (by unfold lPd; rw [if_pos hl])
      · rw [if_neg (nI_nlt (by omega) (by omega))]
        exact body 32 (by decide) (by unfold lPd; rw [if_neg hl])
    · rw [if_pos h1, if_neg (fun q => h3 ((lSame_iff _ _ _).mp q y (by omega)))]
theorem s_own_3 (hn : n ≤ 1600) (ht : ∀ i, i < n → tp i = nI (tx i)) (hb : ∀ i, i < n → tx i < 256) (j L : Nat) (hL : j + L ≤ n) : ∀ (k w : Nat), w + k = 24 → mX8_ownWord_3 1600 (nI j) (nI (j + L)) tp k w = bno (lOwn (fun i => tx (j + i)) L k w) := by
  intro k
  induction k with
  | zero => intro w _; rfl
  | succ k ih =>
    intro w hw
    rw [mX8_ownWord_3, ih (w + 1) (by omega), s_own_16 tx n tp hn ht hb j L w hL (by omega) _ 6 0 1 rfl (Or.inl ⟨rfl, fun y hy => by omega⟩), lOwn]
    by_cases q : lSame (fun i => tx (j + i)) L w = true
    · rw [if_pos q, if_pos q, bnoS]
    · rw [if_neg q, if_neg q]
/-- kind and worth of the sign at j, for the class -/
def lOn (j : Nat) : Nat := lOwn (fun i => tx (j + i)) (lEnd tx n j - j) 24 0
def lKd (j : Nat) : Nat := if j < n then (if lBad tx n j = 0 then (if lLt (tx j) = true then (if lOn tx n j = 0 then 3 else 4) else if lDg (tx j) = true then 2 else 5) else 1) else 0
def lVl (j : Nat) : Nat := if j < n then (if lBad tx n j = 0 then (if lLt (tx j) = true then (if lOn tx n j = 0 then lQ (fun i => tx (j + i)) (lEnd tx n j - j) 6 else lOn tx n j - 1) else if lDg (tx j) = true then lNm (fun i => tx (j + i)) (lEnd tx n j - j) else tx j) else lBad tx n j - 1) else 0
theorem s_addToken (k : Nat) (hk : k < 1601) (a b c : Int32) (ks ss vs : Nat → Int32) : mX8_addToken a b c (nI k) ks ss vs = (nI (k + 1), upd ks k a, upd ss k b, upd vs k c) := by
  unfold mX8_addToken
  rw [s_put 1601 k hk (by decide), s_put 1601 k hk (by decide), s_put 1601 k hk (by decide), xlet_eq, xlet_eq, xlet_eq, nI_1]
theorem lEnd_run (j : Nat) (hj : j < n) (hw : (lLt (tx j) || lDg (tx j)) = true) : lEnd tx n j = lRun tx (lPr tx j) (n - j) j := by
  unfold lEnd; rw [if_pos hj, if_pos hw]
theorem lEnd_le (j : Nat) (hj : j < n) : j + 1 ≤ lEnd tx n j ∧ lEnd tx n j ≤ n := by
  unfold lEnd
  rw [if_pos hj]
  split
  · rename_i hw
    have h := lRun_le tx (lPr tx j) (n - j) j
    refine ⟨?_, by omega⟩
    obtain ⟨m, hm⟩ : ∃ m, n - j = m + 1 := ⟨n - j - 1, by omega⟩
    rw [hm, lRun]
    have hp : lPr tx j (tx j) = true := by
      unfold lPr
      by_cases q : lLt (tx j) = true
      · rw [if_pos q]; exact q
      · rw [if_neg q]; rw [Bool.eq_false_iff.mpr q, Bool.false_or] at hw; exact hw
    rw [if_pos hp]
    exact (lRun_le tx (lPr tx j) m (j + 1)).1
  · omega
theorem s_cutWord_9 (hn : n ≤ 1600) (ht : ∀ i, i < n → tp i = nI (tx i)) (hb : ∀ i, i < n → tx i < 256) (j T : Nat) (hT : T < 1601) (hj : j < n) (hl : lLt (tx j) = true) (hadj : lAdj tx j = false) (ks ss vs : Nat → Int32) : ∀ (k i : Nat), i + k = 6 →
    mX8_cutWord_9 1600 (nI n) (nI j) (nI T) ks ss vs tp k i (nI (j + (if i < lEnd tx n j - j then i else lEnd tx n j - j))) (nI (lQ (fun i => tx (j + i)) (lEnd tx n j - j) i)) =
      (nI (if lBad tx n j = 0 then lEnd tx n j else n), nI (T + 1), upd ks T (nI (lKd tx n j)), upd ss T (nI j), upd vs T (nI (lVl tx n j))) := by
  have hw : (lLt (tx j) || lDg (tx j)) = true := by rw [hl]; rfl
  have hE := lEnd_run tx n j hj hw
  have hP : lPr tx j = lLt := by unfold lPr; rw [if_pos hl]
  rw [hP] at hE
  obtain ⟨hE1, hE2⟩ := lEnd_le tx n j hj
  have hin : ∀ x, j ≤ x → x < lEnd tx n j → lLt (tx x) = true := fun x h1 h2 => lRun_in tx lLt (n - j) j x h1 (by rw [← hE]; exact h2)
  have hout : lEnd tx n j < n → lLt (tx (lEnd tx n j)) = false := by
    intro h
    rw [hE] at h ⊢
    exact lRun_end tx lLt (n - j) j (by omega)
  have hbad : lBad tx n j = if j + 6 < lEnd tx n j then j + 6 + 1 else 0 := by
    have hm : lMost tx j = 6 := by unfold lMost; rw [if_pos hl]
    unfold lBad
    rw [if_pos hj, hadj, if_neg (by decide), hm]
    by_cases h : j + 6 < lEnd tx n j
    · rw [if_pos ⟨hw, h⟩, if_pos h]
    · rw [if_neg (fun q => h q.2), if_neg h]
  intro k
  induction k with
  | zero =>
    intro i hi
    have : i = 6 := by omega
    subst this
    have good : ¬ j + 6 < lEnd tx n j → mX8_cutWord_118 1600 (nI j) (nI T) ks ss vs tp (nI (lEnd tx n j)) (nI (lQ (fun i => tx (j + i)) (lEnd tx n j - j) 6)) = (nI (if lBad tx n j = 0 then lEnd tx n j else n), nI (T + 1), upd ks T (nI (lKd tx n j)), upd ss T (nI j), upd vs T (nI (lVl tx n j))) := by
      intro hg
      rw [if_neg hg] at hbad
      have eo : mX8_ownWord 1600 (nI j) (nI (lEnd tx n j)) tp = bno (lOn tx n j) := by
        unfold mX8_ownWord lOn
        have := s_own_3 tx n tp hn ht hb j (lEnd tx n j - j) (by omega) 24 0 rfl
        rw [show j + (lEnd tx n j - j) = lEnd tx n j by omega] at this
        exact this
      unfold mX8_cutWord_118 mX8_cutWord_140
      rw [eo, if_pos hbad]
      have e1 : lKd tx n j = if lOn tx n j = 0 then 3 else 4 := by unfold lKd; rw [if_pos hj, if_pos hbad, if_pos hl]
      have e2 : lVl tx n j = if lOn tx n j = 0 then lQ (fun i => tx (j + i)) (lEnd tx n j - j) 6 else lOn tx n j - 1 := by unfold lVl; rw [if_pos hj, if_pos hbad, if_pos hl]
      rw [e1, e2]
      cases hO : lOn tx n j with
      | zero =>
        rw [bno0, if_pos rfl, if_pos rfl, s_addToken T hT, xlet_eq, if_pos rfl, if_pos rfl]
        rfl
      | succ o =>
        have o24 : o < 24 := by
          have : ∀ k w, lOwn (fun i => tx (j + i)) (lEnd tx n j - j) k w ≤ w + k := by
            intro k
            induction k with
            | zero => intro w; exact Nat.zero_le _
            | succ k ih => intro w; rw [lOwn]; split
                           · omega
                           · have := ih (w + 1); omega
          have := this 24 0
          unfold lOn at hO
          omega
        rw [bnoS, if_neg (nI_m1 (by omega)), if_neg (nI_m1 (by omega)), s_addToken T hT, xlet_eq, if_neg (by omega), if_neg (by omega)]
        rfl
    rw [mX8_cutWord_9]
    by_cases h6 : j + 6 < lEnd tx n j
    · have hx : (if 6 < lEnd tx n j - j then 6 else lEnd tx n j - j) = 6 := by rw [if_pos (by omega)]
      rw [hx, if_pos (nI_lt (by omega) (by omega)), s_at 1600 (j + 6) (by omega) (by decide), ht _ (by omega), s_isLetter8 _ (by have := hb (j + 6) (by omega); omega), if_pos (hin _ (by omega) h6), s_addToken T hT, xlet_eq]
      rw [if_pos h6] at hbad
      have e1 : lKd tx n j = 1 := by unfold lKd; rw [if_pos hj, hbad, if_neg (by omega)]
      have e2 : lVl tx n j = j + 6 := by unfold lVl; rw [if_pos hj, hbad, if_neg (by omega)]; omega
      rw [e1, e2, hbad, if_neg (by omega)]
      rfl
    · have hx : (if 6 < lEnd tx n j - j then 6 else lEnd tx n j - j) = lEnd tx n j - j := by
        split <;> omega
      rw [hx, show j + (lEnd tx n j - j) = lEnd tx n j by omega]
      by_cases hlt : lEnd tx n j < n
      · rw [if_pos (nI_lt hlt (by omega)), s_at 1600 (lEnd tx n j) (by omega) (by decide), ht _ hlt, s_isLetter8 _ (by have := hb _ hlt; omega), hout hlt, if_neg (by decide)]
        exact good h6
      · rw [if_neg (nI_nlt (by omega) (by omega))]
        exact good h6
  | succ k ih =>
    intro i hi
    have next := ih (i + 1) (by omega)
    rw [lQ] at next
    rw [mX8_cutWord_9]
    by_cases hiL : i < lEnd tx n j - j
    · rw [if_pos hiL] at next ⊢
      rw [if_pos (nI_lt (by omega) (by omega)), s_at 1600 (j + i) (by omega) (by decide), ht _ (by omega), s_isLetter8 _ (by have := hb (j + i) (by omega); omega), if_pos (hin _ (by omega) (by omega))]
      unfold mX8_cutWord_39 mX8_cutWord_66
      have hr := of_decide_eq_true (hin (j + i) (by omega) (by omega))
      rw [if_neg (by decide), if_neg (by decide), s_at 1600 (j + i) (by omega) (by decide), ht _ (by omega)]
      have e1 : nI (j + i) + 1 = nI (j + (if i + 1 < lEnd tx n j - j then i + 1 else lEnd tx n j - j)) := by
        rw [nI_1]; congr 1
        split <;> omega
      have e2 : nI (lQ (fun i => tx (j + i)) (lEnd tx n j - j) i) * 27 + (nI (tx (j + i)) - 97 + 1) = nI (lQ (fun i => tx (j + i)) (lEnd tx n j - j) i * 27 + (tx (j + i) - 96)) := by
        rw [show (27 : Int32) = nI 27 from rfl, show (97 : Int32) = nI 97 from rfl, pk_mul, pk_sub (by omega), nI_1, nI_add]
        congr 1
        omega
      rw [e1, e2]
      exact next
    · rw [if_neg hiL] at next ⊢
      have e1 : (if i + 1 < lEnd tx n j - j then i + 1 else lEnd tx n j - j) = lEnd tx n j - j := by rw [if_neg (by omega)]
      rw [e1] at next
      rw [show j + (lEnd tx n j - j) = lEnd tx n j by omega] at next ⊢
      have fin : mX8_cutWord_38 1600 tp (nI (lEnd tx n j)) (nI (lQ (fun i => tx (j + i)) (lEnd tx n j - j) i)) (fun zx4_9 zx5_9 => mX8_cutWord_9 1600 (nI n) (nI j) (nI T) ks ss vs tp k (i + 1) zx4_9 zx5_9) = (nI (if lBad tx n j = 0 then lEnd tx n j else n), nI (T + 1), upd ks T (nI (lKd tx n j)), upd ss T (nI j), upd vs T (nI (lVl tx n j))) := by
        unfold mX8_cutWord_38 mX8_cutWord_39 mX8_cutWord_66
        rw [if_pos rfl, if_pos rfl, Int32.add_zero]
        have e2 : nI (lQ (fun i => tx (j + i)) (lEnd tx n j - j) i) * 27 + 0 = nI (lQ (fun i => tx (j + i)) (lEnd tx n j - j) i * 27 + 0) := by
          rw [show (27 : Int32) = nI 27 from rfl, pk_mul, Int32.add_zero, Nat.add_zero]
        rw [e2]
        exact next
      by_cases hlt : lEnd tx n j < n
      · rw [if_pos (nI_lt hlt (by omega)), s_at 1600 (lEnd tx n j) (by omega) (by decide), ht _ hlt, s_isLetter8 _ (by have := hb _ hlt; omega), hout hlt, if_neg (by decide)]
        exact fin
      · rw [if_neg (nI_nlt (by omega) (by omega))]
        exact fin
end LB
