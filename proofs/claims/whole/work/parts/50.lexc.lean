section LC
variable (tx : Nat → Nat) (n : Nat) (tp : Nat → Int32)
theorem s_cutNumber (hn : n ≤ 1600) (ht : ∀ i, i < n → tp i = nI (tx i)) (hb : ∀ i, i < n → tx i < 256) (j T : Nat) (hT : T < 1601) (hj : j < n) (hl : lLt (tx j) = false) (hd : lDg (tx j) = true) (hadj : lAdj tx j = false) (ks ss vs : Nat → Int32) : ∀ (k i : Nat), i + k = 4 → i ≤ lEnd tx n j - j →
    mX8_cutNumber_9 1600 (nI n) (nI j) (nI T) ks ss vs tp k i (nI (j + i)) (nI (lNm (fun i => tx (j + i)) i)) =
      (nI (if lBad tx n j = 0 then lEnd tx n j else n), nI (T + 1), upd ks T (nI (lKd tx n j)), upd ss T (nI j), upd vs T (nI (lVl tx n j))) := by
  have hw : (lLt (tx j) || lDg (tx j)) = true := by rw [hd, Bool.or_true]
  have hE := lEnd_run tx n j hj hw
  have hP : lPr tx j = lDg := by unfold lPr; rw [hl, if_neg (by decide)]
  rw [hP] at hE
  obtain ⟨hE1, hE2⟩ := lEnd_le tx n j hj
  have hin : ∀ x, j ≤ x → x < lEnd tx n j → lDg (tx x) = true := fun x h1 h2 => lRun_in tx lDg (n - j) j x h1 (by rw [← hE]; exact h2)
  have hout : lEnd tx n j < n → lDg (tx (lEnd tx n j)) = false := by
    intro h
    rw [hE] at h ⊢
    exact lRun_end tx lDg (n - j) j (by omega)
  have hbad : lBad tx n j = if j + 4 < lEnd tx n j then j + 4 + 1 else 0 := by
    have hm : lMost tx j = 4 := by unfold lMost; rw [hl, if_neg (by decide)]
    unfold lBad
    rw [if_pos hj, hadj, if_neg (by decide), hm]
    by_cases h : j + 4 < lEnd tx n j
    · rw [if_pos ⟨hw, h⟩, if_pos h]
    · rw [if_neg (fun q => h q.2), if_neg h]
  -- the end
  have good : ¬ j + 4 < lEnd tx n j → mX8_cutNumber_87 (nI j) (nI T) ks ss vs (nI (lEnd tx n j)) (nI (lNm (fun i => tx (j + i)) (lEnd tx n j - j))) = (nI (if lBad tx n j = 0 then lEnd tx n j else n), nI (T + 1), upd ks T (nI (lKd tx n j)), upd ss T (nI j), upd vs T (nI (lVl tx n j))) := by
    intro hg
    rw [if_neg hg] at hbad
    unfold mX8_cutNumber_87
    have e1 : lKd tx n j = 2 := by unfold lKd; rw [if_pos hj, if_pos hbad, hl, if_neg (by decide), if_pos hd]
    have e2 : lVl tx n j = lNm (fun i => tx (j + i)) (lEnd tx n j - j) := by unfold lVl; rw [if_pos hj, if_pos hbad, hl, if_neg (by decide), if_pos hd]
    rw [s_addToken T hT, xlet_eq, e1, e2, hbad, if_pos rfl]
    rfl
  have atEnd : ∀ i, i ≤ lEnd tx n j - j → (i = 4 ∨ i = lEnd tx n j - j) → i ≤ 4 → mX8_cutNumber_59 1600 (nI n) (nI j) (nI T) ks ss vs tp (nI (j + i)) (nI (lNm (fun i => tx (j + i)) i)) = (nI (if lBad tx n j = 0 then lEnd tx n j else n), nI (T + 1), upd ks T (nI (lKd tx n j)), upd ss T (nI j), upd vs T (nI (lVl tx n j))) := by
    intro i hiL h4 hi4
    unfold mX8_cutNumber_59
    by_cases h6 : j + 4 < lEnd tx n j
    · have : i = 4 := by omega
      subst this
      rw [if_pos (nI_lt (by omega) (by omega)), s_at 1600 (j + 4) (by omega) (by decide), ht _ (by omega), s_isDigit8 _ (by have := hb (j + 4) (by omega); omega), if_pos (hin _ (by omega) h6), s_addToken T hT, xlet_eq]
      rw [if_pos h6] at hbad
      have e1 : lKd tx n j = 1 := by unfold lKd; rw [if_pos hj, hbad, if_neg (by omega)]
      have e2 : lVl tx n j = j + 4 := by unfold lVl; rw [if_pos hj, hbad, if_neg (by omega)]; omega
      rw [e1, e2, hbad, if_neg (by omega)]
      rfl
    · have : i = lEnd tx n j - j := by omega
      subst this
      rw [show j + (lEnd tx n j - j) = lEnd tx n j by omega]
      by_cases hlt : lEnd tx n j < n
      · rw [if_pos (nI_lt hlt (by omega)), s_at 1600 (lEnd tx n j) (by omega) (by decide), ht _ hlt, s_isDigit8 _ (by have := hb _ hlt; omega), hout hlt, if_neg (by decide)]
        exact good h6
      · rw [if_neg (nI_nlt (by omega) (by omega))]
        exact good h6
  intro k
  induction k with
  | zero =>
    intro i hi hiL
    rw [mX8_cutNumber_9]
    exact atEnd i hiL (Or.inl (by omega)) (by omega)
  | succ k ih =>
    intro i hi hiL
    rw [mX8_cutNumber_9]
    by_cases hiE : i < lEnd tx n j - j
    · have hr := of_decide_eq_true (hin (j + i) (by omega) (by omega))
      rw [if_pos (nI_lt (by omega) (by omega)), s_at 1600 (j + i) (by omega) (by decide), ht _ (by omega), s_isDigit8 _ (by have := hb (j + i) (by omega); omega), if_pos (hin _ (by omega) (by omega))]
      have e2 : nI (lNm (fun i => tx (j + i)) i) * 10 + nI (tx (j + i)) - 48 = nI (lNm (fun i => tx (j + i)) (i + 1)) := by
        rw [show (10 : Int32) = nI 10 from rfl, show (48 : Int32) = nI 48 from rfl, pk_mul, nI_add, pk_sub (by omega), lNm]
        congr 1
        omega
      rw [e2, nI_1]
      exact ih (i + 1) (by omega) (by omega)
    · have fin := atEnd i hiL (Or.inr (by omega)) (by omega)
      have ei : j + i = lEnd tx n j := by omega
      by_cases hlt : j + i < n
      · rw [if_pos (nI_lt hlt (by omega)), s_at 1600 (j + i) (by omega) (by decide), ht _ hlt, s_isDigit8 _ (by have := hb _ hlt; omega), show lDg (tx (j + i)) = false by rw [ei] at hlt ⊢; exact hout hlt, if_neg (by decide)]
        exact fin
      · rw [if_neg (nI_nlt (by omega) (by omega))]
        exact fin
/-- where a sign may begin: none of its kind just ahead -/
def lPre (j : Nat) : Prop := 0 < j → ¬ (lLt (tx j) = true ∧ lLt (tx (j - 1)) = true) ∧ ¬ (lDg (tx j) = true ∧ lDg (tx (j - 1)) = true)
theorem s_cutToken (hn : n ≤ 1600) (ht : ∀ i, i < n → tp i = nI (tx i)) (hb : ∀ i, i < n → tx i < 256) (j T : Nat) (hT : T < 1601) (hj : j < n) (hp : lPre tx j) (ks ss vs : Nat → Int32) :
    mX8_cutToken 1600 (nI n) (nI j) (nI T) ks ss vs tp = (nI (if lBad tx n j = 0 then lEnd tx n j else n), nI (T + 1), upd ks T (nI (lKd tx n j)), upd ss T (nI j), upd vs T (nI (lVl tx n j))) := by
  have hbj := hb j hj
  have eL : mX8_isLetter (mX11_at 1600 (nI j) tp) = lLt (tx j) := by rw [s_at 1600 j (by omega) (by decide), ht j hj, s_isLetter8 _ (by omega)]
  have eD : mX8_isDigit (mX11_at 1600 (nI j) tp) = lDg (tx j) := by rw [s_at 1600 j (by omega) (by decide), ht j hj, s_isDigit8 _ (by omega)]
  have ld : lLt (tx j) = true → lDg (tx j) = false := fun h => by
    have := of_decide_eq_true h
    exact decide_eq_false (by omega)
  have eB : (mX8_isLetter (mX11_at 1600 (nI j - 1) tp) = true ↔ 0 < j ∧ lLt (tx (j - 1)) = true) ∧ (mX8_isDigit (mX11_at 1600 (nI j - 1) tp) = true ↔ 0 < j ∧ lDg (tx (j - 1)) = true) := by
    rcases Nat.eq_zero_or_pos j with h | h
    · subst h
      have : mX11_at 1600 (nI 0 - 1) tp = -1 := s_at_out 1600 _ (Or.inl (by decide)) tp
      rw [this]
      exact ⟨iff_of_false (by decide) (fun q => by omega), iff_of_false (by decide) (fun q => by omega)⟩
    · have a1 : nI j - 1 = nI (j - 1) := by
        obtain ⟨i, rfl⟩ : ∃ i, j = i + 1 := ⟨j - 1, by omega⟩
        exact nI_pred i
      have hb1 := hb (j - 1) (by omega)
      rw [a1, s_at 1600 (j - 1) (by omega) (by decide), ht _ (by omega), s_isLetter8 _ (by omega), s_isDigit8 _ (by omega)]
      exact ⟨⟨fun q => ⟨h, q⟩, fun q => q.2⟩, ⟨fun q => ⟨h, q⟩, fun q => q.2⟩⟩
  have bad : lAdj tx j = true → mX8_cutToken_48 (nI n) (nI j) (nI T) ks ss vs = (nI (if lBad tx n j = 0 then lEnd tx n j else n), nI (T + 1), upd ks T (nI (lKd tx n j)), upd ss T (nI j), upd vs T (nI (lVl tx n j))) := by
    intro ha
    have hbad : lBad tx n j = j + 1 := by unfold lBad; rw [if_pos hj, if_pos ha]
    have e1 : lKd tx n j = 1 := by unfold lKd; rw [if_pos hj, hbad, if_neg (by omega)]
    have e2 : lVl tx n j = j := by unfold lVl; rw [if_pos hj, hbad, if_neg (by omega)]; omega
    unfold mX8_cutToken_48
    rw [s_addToken T hT, xlet_eq, e1, e2, hbad, if_neg (by omega)]
    rfl
  have good : lAdj tx j = false → mX8_cutToken_57 1600 (nI n) (nI j) (nI T) ks ss vs tp = (nI (if lBad tx n j = 0 then lEnd tx n j else n), nI (T + 1), upd ks T (nI (lKd tx n j)), upd ss T (nI j), upd vs T (nI (lVl tx n j))) := by
    intro ha
    unfold mX8_cutToken_57
    rw [eL, eD]
    by_cases hL : lLt (tx j) = true
    · rw [if_pos hL]
      have k := s_cutWord_9 tx n tp hn ht hb j T hT hj hL ha ks ss vs 6 0 rfl
      have e0 : (if 0 < lEnd tx n j - j then 0 else lEnd tx n j - j) = 0 := by
        have := (lEnd_le tx n j hj).1
        rw [if_pos (by omega)]
      rw [e0] at k
      unfold mX8_cutWord
      rw [show nI (j + 0) = nI j from rfl, show nI (lQ (fun i => tx (j + i)) (lEnd tx n j - j) 0) = 0 from rfl] at k
      rw [k, xlet_eq]
      rfl
    · rw [if_neg hL]
      by_cases hD : lDg (tx j) = true
      · rw [if_pos hD]
        have k := s_cutNumber tx n tp hn ht hb j T hT hj (Bool.eq_false_iff.mpr hL) hD ha ks ss vs 4 0 rfl (Nat.zero_le _)
        unfold mX8_cutNumber
        rw [show nI (j + 0) = nI j from rfl, show nI (lNm (fun i => tx (j + i)) 0) = 0 from rfl] at k
        rw [k, xlet_eq]
        rfl
      · rw [if_neg hD, s_at 1600 j (by omega) (by decide), ht j hj, s_addToken T hT, xlet_eq, nI_1]
        have hf : (lLt (tx j) || lDg (tx j)) = false := by rw [Bool.eq_false_iff.mpr hL, Bool.eq_false_iff.mpr hD]; rfl
        have s4 : lEnd tx n j = j + 1 := by unfold lEnd; rw [if_pos hj, hf]; rfl
        have s5 : lBad tx n j = 0 := by unfold lBad lAdj; rw [if_pos hj, hf, Bool.false_and]; simp
        have e1 : lKd tx n j = 5 := by unfold lKd; rw [if_pos hj, if_pos s5, if_neg hL, if_neg hD]
        have e2 : lVl tx n j = tx j := by unfold lVl; rw [if_pos hj, if_pos s5, if_neg hL, if_neg hD]
        rw [e1, e2, s5, if_pos rfl, s4]
        rfl
  have adj : lAdj tx j = true ↔ (lLt (tx j) = true ∧ 0 < j ∧ lDg (tx (j - 1)) = true) ∨ (lDg (tx j) = true ∧ 0 < j ∧ lLt (tx (j - 1)) = true) := by
    unfold lAdj
    rw [Bool.and_eq_true, Bool.and_eq_true, Bool.or_eq_true, Bool.or_eq_true, decide_eq_true_iff]
    constructor
    · rintro ⟨a, b, c⟩
      have q := hp b
      rcases a with a | a <;> rcases c with c | c
      · exact absurd ⟨a, c⟩ q.1
      · exact Or.inl ⟨a, b, c⟩
      · exact Or.inr ⟨a, b, c⟩
      · exact absurd ⟨a, c⟩ q.2
    · rintro (⟨a, b, c⟩ | ⟨a, b, c⟩)
      · exact ⟨Or.inl a, b, Or.inr c⟩
      · exact ⟨Or.inr a, b, Or.inl c⟩
  unfold mX8_cutToken mX8_cutToken_32
  rw [eL, eD]
  by_cases hL : lLt (tx j) = true
  · rw [if_pos hL]
    by_cases q : 0 < j ∧ lDg (tx (j - 1)) = true
    · rw [if_pos (eB.2.mpr q)]
      exact bad (adj.mpr (Or.inl ⟨hL, q⟩))
    · rw [if_neg (fun z => q (eB.2.mp z)), ld hL, if_neg (by decide)]
      refine good (Bool.eq_false_iff.mpr (fun z => ?_))
      rcases adj.mp z with z | z
      · exact q z.2
      · have := ld hL
        rw [z.1] at this
        exact absurd this (by decide)
  · rw [if_neg hL]
    by_cases hD : lDg (tx j) = true
    · rw [if_pos hD]
      by_cases q : 0 < j ∧ lLt (tx (j - 1)) = true
      · rw [if_pos (eB.1.mpr q)]
        exact bad (adj.mpr (Or.inr ⟨hD, q⟩))
      · rw [if_neg (fun z => q (eB.1.mp z))]
        refine good (Bool.eq_false_iff.mpr (fun z => ?_))
        rcases adj.mp z with z | z
        · exact hL z.1
        · exact q z.2
    · rw [if_neg hD]
      refine good (Bool.eq_false_iff.mpr (fun z => ?_))
      rcases adj.mp z with z | z
      · exact hL z.1
      · exact hD z.1
/-- where the k-th sign begins -/
def lAt : Nat → Nat
  | 0 => lNext tx n 0
  | k + 1 => lNext tx n (lEnd tx n (lAt k))
theorem lNext_le (e : Nat) (he : e ≤ n) : e ≤ lNext tx n e ∧ lNext tx n e ≤ n := by
  have := lRun_le tx lBl (n - e) e
  unfold lNext
  omega
theorem lNext_step (e : Nat) (he : e < n) (hb : lBl (tx e) = true) : lNext tx n (e + 1) = lNext tx n e := by
  unfold lNext
  obtain ⟨m, hm⟩ : ∃ m, n - e = m + 1 := ⟨n - e - 1, by omega⟩
  rw [hm, lRun, if_pos hb, show n - (e + 1) = m by omega]
theorem lNext_here (e : Nat) (he : e < n) (hb : lBl (tx e) = false) : lNext tx n e = e := by
  unfold lNext
  obtain ⟨m, hm⟩ : ∃ m, n - e = m + 1 := ⟨n - e - 1, by omega⟩
  rw [hm, lRun, hb]
  rfl
theorem lEnd_pre (j : Nat) (hj : j < n) (hp : lPre tx j) : lEnd tx n j < n → lPre tx (lEnd tx n j) := by
  intro hE _
  obtain ⟨h1, h2⟩ := lEnd_le tx n j hj
  by_cases hw : (lLt (tx j) || lDg (tx j)) = true
  · have e := lEnd_run tx n j hj hw
    have o := lRun_end tx (lPr tx j) (n - j) j (by omega)
    have i := lRun_in tx (lPr tx j) (n - j) j (lEnd tx n j - 1) (by omega) (by omega)
    rw [← e] at o
    unfold lPr at o i
    by_cases hL : lLt (tx j) = true
    · rw [if_pos hL] at o i
      refine ⟨fun q => by rw [o] at q; exact absurd q.1 (by decide), fun q => ?_⟩
      have a := of_decide_eq_true i
      have b := of_decide_eq_true q.2
      omega
    · rw [if_neg hL] at o i
      refine ⟨fun q => ?_, fun q => by rw [o] at q; exact absurd q.1 (by decide)⟩
      have a := of_decide_eq_true i
      have b := of_decide_eq_true q.2
      omega
  · have e : lEnd tx n j = j + 1 := by unfold lEnd; rw [if_pos hj, if_neg hw]
    rw [e, show j + 1 - 1 = j by omega]
    rw [Bool.or_eq_true] at hw
    exact ⟨fun q => hw (Or.inl q.2), fun q => hw (Or.inr q.2)⟩
/-- what the class has cut: its signs up to the first that is bad, or the end -/
def lCut (B : Nat) (ks ss vs : Nat → Int32) : Prop := B ≤ 1600 ∧ (∀ k, k < B → 2 ≤ lKd tx n (lAt tx n k)) ∧ lKd tx n (lAt tx n B) < 2 ∧ ∀ k, k ≤ B → ks k = nI (lKd tx n (lAt tx n k)) ∧ ss k = nI (lAt tx n k) ∧ vs k = nI (lVl tx n (lAt tx n k))
theorem s_cut_10 (hn : n ≤ 1600) (ht : ∀ i, i < n → tp i = nI (tx i)) (hb : ∀ i, i < n → tx i < 256) : ∀ (f c i T : Nat) (ks ss vs : Nat → Int32), n - i < f → i ≤ n → T ≤ i → (i < n → lPre tx i) → lNext tx n i = lAt tx n T → (∀ k, k < T → 2 ≤ lKd tx n (lAt tx n k)) → (∀ k, k < T → ks k = nI (lKd tx n (lAt tx n k)) ∧ ss k = nI (lAt tx n k) ∧ vs k = nI (lVl tx n (lAt tx n k))) →
    ∃ (B T' : Nat) (ks' ss' vs' : Nat → Int32), mX8_cut_10 1600 (nI n) tp f c (nI i) (nI T) ks ss vs = (nI T', ks', ss', vs') ∧ B < T' ∧ T' ≤ 1602 ∧ lCut tx n B ks' ss' vs' := by
  intro f
  induction f with
  | zero => intro c i T ks ss vs hf; omega
  | succ f ih =>
    intro c i T ks ss vs hf hi hTi hp hA hg hk
    rw [mX8_cut_10]
    by_cases hin : i < n
    · have hbi := hb i hin
      rw [if_pos (nI_lt hin (by omega)), s_at 1600 i (by omega) (by decide), ht i hin, s_isBlank8 _ (by omega)]
      by_cases hB : lBl (tx i) = true
      · rw [if_pos hB, nI_1]
        refine ih (c + 1) (i + 1) T ks ss vs (by omega) (by omega) (by omega) (fun h _ => ?_) ((lNext_step tx n i hin hB).trans hA) hg hk
        rw [show i + 1 - 1 = i by omega]
        have := of_decide_eq_true hB
        refine ⟨fun q => ?_, fun q => ?_⟩
        · have := of_decide_eq_true q.2; omega
        · have := of_decide_eq_true q.2; omega
      · have hAi : lAt tx n T = i := by rw [← hA]; exact lNext_here tx n i hin (Bool.eq_false_iff.mpr hB)
        rw [if_neg hB, s_cutToken tx n tp hn ht hb i T (by omega) hin (hp hin), xlet_eq]
        have hk' : ∀ k, k < T + 1 → upd ks T (nI (lKd tx n i)) k = nI (lKd tx n (lAt tx n k)) ∧ upd ss T (nI i) k = nI (lAt tx n k) ∧ upd vs T (nI (lVl tx n i)) k = nI (lVl tx n (lAt tx n k)) := by
          intro k hk2
          by_cases e : k = T
          · subst e; rw [hAi, pk_us, pk_us, pk_us]; exact ⟨rfl, rfl, rfl⟩
          · rw [pk_un e, pk_un e, pk_un e]; exact hk k (by omega)
        by_cases hbad : lBad tx n i = 0
        · rw [if_pos hbad]
          obtain ⟨h1, h2⟩ := lEnd_le tx n i hin
          have hgood : 2 ≤ lKd tx n i := by
            unfold lKd
            rw [if_pos hin, if_pos hbad]
            split
            · split <;> omega
            · split <;> omega
          refine ih (c + 1) (lEnd tx n i) (T + 1) _ _ _ (by omega) h2 (by omega) (lEnd_pre tx n i hin (hp hin)) (by rw [lAt, hAi]) (fun k hk2 => ?_) hk'
          by_cases e : k = T
          · subst e; rw [hAi]; exact hgood
          · exact hg k (by omega)
        · rw [if_neg hbad]
          have hk1 : lKd tx n i = 1 := by unfold lKd; rw [if_pos hin, if_neg hbad]
          -- the next turn ends the cutting
          have hT2 : ∃ (ks' ss' vs' : Nat → Int32), mX8_cut_10 1600 (nI n) tp f (c + 1) (nI n) (nI (T + 1)) (upd ks T (nI (lKd tx n i))) (upd ss T (nI i)) (upd vs T (nI (lVl tx n i))) = (nI (T + 1) + 1, ks', ss', vs') ∧ ∀ k, k < T + 1 → ks' k = upd ks T (nI (lKd tx n i)) k ∧ ss' k = upd ss T (nI i) k ∧ vs' k = upd vs T (nI (lVl tx n i)) k := by
            have add : ∀ (a b c : Int32) (x y z : Nat → Int32), ∃ ks' ss' vs', mX8_addToken a b c (nI (T + 1)) x y z = (nI (T + 1) + 1, ks', ss', vs') ∧ ∀ k, k < T + 1 → ks' k = x k ∧ ss' k = y k ∧ vs' k = z k := by
              intro a b c x y z
              unfold mX8_addToken
              refine ⟨_, _, _, rfl, fun k hk2 => ?_⟩
              have p : ∀ (v : Int32) (r : Nat → Int32), mX11_put 1601 (nI (T + 1)) v r k = r k := by
                intro v r
                by_cases q : T + 1 < 1601
                · rw [s_put 1601 (T + 1) q (by decide), pk_un (by omega)]
                · rw [s_put_out 1601 (nI (T + 1)) (Or.inr (nI_nlt (by omega) (by omega)))]
              exact ⟨p _ _, p _ _, p _ _⟩
            cases f with
            | zero =>
              rw [mX8_cut_10]
              obtain ⟨k1, k2, k3, e, h⟩ := add 0 (nI n) 0 (upd ks T (nI (lKd tx n i))) (upd ss T (nI i)) (upd vs T (nI (lVl tx n i)))
              rw [e, xlet_eq]
              exact ⟨k1, k2, k3, rfl, h⟩
            | succ f =>
              rw [mX8_cut_10, if_neg (nI_nlt (Nat.le_refl _) (by omega))]
              obtain ⟨k1, k2, k3, e, h⟩ := add 0 (nI n) 0 (upd ks T (nI (lKd tx n i))) (upd ss T (nI i)) (upd vs T (nI (lVl tx n i)))
              rw [e, xlet_eq]
              exact ⟨k1, k2, k3, rfl, h⟩
          obtain ⟨k1, k2, k3, e, h⟩ := hT2
          refine ⟨T, T + 2, k1, k2, k3, ?_, by omega, by omega, by omega, hg, by rw [hAi, hk1]; decide, fun k hk2 => ?_⟩
          · rw [show nI (T + 2) = nI (T + 1) + 1 from nI_succ (T + 1)]
            exact e
          · obtain ⟨a, b, c⟩ := h k (by omega)
            rw [a, b, c]
            exact hk' k (by omega)
    · have hin' : i = n := by omega
      rw [if_neg (nI_nlt (by omega) (by omega)), s_addToken T (by omega), xlet_eq]
      have hAn : lAt tx n T = n := by
        rw [← hA]
        have := lNext_le tx n i hi
        omega
      have hk0 : lKd tx n n = 0 := by unfold lKd; rw [if_neg (by omega)]
      have hv0 : lVl tx n n = 0 := by unfold lVl; rw [if_neg (by omega)]
      refine ⟨T, T + 1, upd ks T 0, upd ss T (nI n), upd vs T 0, rfl, by omega, by omega, by omega, hg, by rw [hAn, hk0]; decide, fun k hk2 => ?_⟩
      by_cases e : k = T
      · subst e; rw [hAn, pk_us, pk_us, pk_us, hk0, hv0]; exact ⟨rfl, rfl, rfl⟩
      · rw [pk_un e, pk_un e, pk_un e]; exact hk k (by omega)
theorem s_cut (hn : n ≤ 1600) (ht : ∀ i, i < n → tp i = nI (tx i)) (hb : ∀ i, i < n → tx i < 256) (ks ss vs : Nat → Int32) :
    ∃ (B T' : Nat) (ks' ss' vs' : Nat → Int32), mX8_cut 1600 (nI n) ks ss vs tp = (nI T', ks', ss', vs') ∧ B < T' ∧ T' ≤ 1602 ∧ lCut tx n B ks' ss' vs' := by
  unfold mX8_cut
  exact s_cut_10 tx n tp hn ht hb 1601 0 0 0 ks ss vs (by omega) (Nat.zero_le _) (Nat.le_refl _) (fun _ h => by omega) rfl (fun k hk => by omega) (fun k hk => by omega)
end LC
