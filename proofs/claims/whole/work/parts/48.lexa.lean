def lBl (c : Nat) : Bool := decide (c = 32 ∨ c = 10)
def lLt (c : Nat) : Bool := decide (97 ≤ c ∧ c ≤ 122)
def lDg (c : Nat) : Bool := decide (48 ≤ c ∧ c ≤ 57)
/-- the first behind those of a kind, of m bytes from i on -/
def lRun (tx : Nat → Nat) (p : Nat → Bool) : Nat → Nat → Nat
  | 0, i => i
  | m + 1, i => if p (tx i) = true then lRun tx p m (i + 1) else i
theorem lRun_le (tx : Nat → Nat) (p : Nat → Bool) : ∀ m i, i ≤ lRun tx p m i ∧ lRun tx p m i ≤ i + m := by
  intro m
  induction m with
  | zero => intro i; exact ⟨Nat.le_refl _, Nat.le_refl _⟩
  | succ m ih =>
    intro i
    rw [lRun]
    split
    · have := ih (i + 1); omega
    · omega
theorem lRun_in (tx : Nat → Nat) (p : Nat → Bool) : ∀ m i x, i ≤ x → x < lRun tx p m i → p (tx x) = true := by
  intro m
  induction m with
  | zero => intro i x h1 h2; rw [lRun] at h2; omega
  | succ m ih =>
    intro i x h1 h2
    rw [lRun] at h2
    split at h2
    · rename_i hp
      by_cases e : x = i
      · subst e; exact hp
      · exact ih (i + 1) x (by omega) h2
    · omega
theorem lRun_end (tx : Nat → Nat) (p : Nat → Bool) : ∀ m i, lRun tx p m i < i + m → p (tx (lRun tx p m i)) = false := by
  intro m
  induction m with
  | zero => intro i h; rw [lRun] at h; omega
  | succ m ih =>
    intro i h
    rw [lRun] at h ⊢
    split
    · rename_i hp
      rw [if_pos hp] at h
      exact ih (i + 1) (by omega)
    · rename_i hp
      exact Bool.eq_false_iff.mpr hp
theorem lRun_add (tx : Nat → Nat) (p : Nat → Bool) : ∀ c m i, (∀ x, i ≤ x → x < i + c → p (tx x) = true) → lRun tx p (c + m) i = lRun tx p m (i + c) := by
  intro c
  induction c with
  | zero => intro m i _; rw [Nat.zero_add, Nat.add_zero]
  | succ c ih =>
    intro m i h
    rw [show c + 1 + m = (c + m) + 1 by omega, lRun, if_pos (h i (by omega) (by omega)), ih m (i + 1) (fun x a b => h x (by omega) (by omega))]
    congr 1
    omega
/-- letters packed by 256, by 27 (six, none behind), digits -/
def lPk (f : Nat → Nat) : Nat → Nat
  | 0 => 0
  | k + 1 => lPk f k * 256 + f k
def lNm (f : Nat → Nat) : Nat → Nat
  | 0 => 0
  | k + 1 => lNm f k * 10 + (f k - 48)
theorem lPk_lt (f : Nat → Nat) (h : ∀ i, f i < 256) : ∀ k, lPk f k < 256 ^ k
  | 0 => Nat.one_pos
  | k + 1 => by
    have a := lPk_lt f h k
    have b := h k
    rw [lPk, Nat.pow_succ]
    omega
theorem lPk_inj : ∀ (L M : Nat) (f g : Nat → Nat), (∀ i, i < L → 0 < f i ∧ f i < 256) → (∀ i, i < M → 0 < g i ∧ g i < 256) → lPk f L = lPk g M → L = M ∧ ∀ i, i < L → f i = g i := by
  intro L
  induction L with
  | zero =>
    intro M f g _ hg e
    cases M with
    | zero => exact ⟨rfl, fun i h => by omega⟩
    | succ M => rw [lPk, lPk] at e; have := hg M (by omega); omega
  | succ L ih =>
    intro M f g hf hg e
    cases M with
    | zero => rw [lPk, lPk] at e; have := hf L (by omega); omega
    | succ M =>
      rw [lPk, lPk] at e
      have a := hf L (by omega)
      have b := hg M (by omega)
      obtain ⟨e1, e2⟩ := ih M f g (fun i h => hf i (by omega)) (fun i h => hg i (by omega)) (by omega)
      subst e1
      refine ⟨rfl, fun i hi => ?_⟩
      by_cases z : i = L
      · subst z; omega
      · exact e2 i (by omega)
theorem lPk_cong {f g : Nat → Nat} : ∀ {k : Nat}, (∀ i, i < k → f i = g i) → lPk f k = lPk g k
  | 0, _ => rfl
  | k + 1, h => by rw [lPk, lPk, lPk_cong (fun i hi => h i (by omega)), h k (by omega)]
theorem lNm_lt (f : Nat → Nat) (h : ∀ i, lDg (f i) = true) : ∀ k, lNm f k < 10 ^ k
  | 0 => Nat.one_pos
  | k + 1 => by
    have a := lNm_lt f h k
    have b := of_decide_eq_true (h k)
    rw [lNm, Nat.pow_succ]
    omega
theorem s_isLetter (c : Nat) (hc : c < 1000) : mX12_isLetter (nI c) = lLt c := by
  unfold mX12_isLetter lLt
  by_cases h1 : c < 97
  · rw [if_pos (show nI c < 97 from nI_lt (b := 97) h1 (by decide)), decide_eq_false (by omega)]
  · rw [if_neg (show ¬ nI c < 97 from nI_nlt (b := 97) (by omega) (by omega))]
    by_cases h2 : 122 < c
    · rw [if_pos (show 122 < nI c from nI_lt (a := 122) h2 (by omega)), decide_eq_false (by omega)]
    · rw [if_neg (show ¬ 122 < nI c from nI_nlt (a := 122) (by omega) (by decide)), decide_eq_true (by omega)]
theorem s_isDigit (c : Nat) (hc : c < 1000) : mX12_isDigit (nI c) = lDg c := by
  unfold mX12_isDigit lDg
  by_cases h1 : c < 48
  · rw [if_pos (show nI c < 48 from nI_lt (b := 48) h1 (by decide)), decide_eq_false (by omega)]
  · rw [if_neg (show ¬ nI c < 48 from nI_nlt (b := 48) (by omega) (by omega))]
    by_cases h2 : 57 < c
    · rw [if_pos (show 57 < nI c from nI_lt (a := 57) h2 (by omega)), decide_eq_false (by omega)]
    · rw [if_neg (show ¬ 57 < nI c from nI_nlt (a := 57) (by omega) (by decide)), decide_eq_true (by omega)]
/-- a sign of the text that begins at j: its kind for the reference, its end, what is wrong with it (1 and more: where), its worth -/
def lAdj (tx : Nat → Nat) (j : Nat) : Bool := (lLt (tx j) || lDg (tx j)) && (decide (0 < j) && (lLt (tx (j - 1)) || lDg (tx (j - 1))))
def lMost (tx : Nat → Nat) (j : Nat) : Nat := if lLt (tx j) = true then 6 else 4
def lPr (tx : Nat → Nat) (j : Nat) : Nat → Bool := if lLt (tx j) = true then lLt else lDg
def lEnd (tx : Nat → Nat) (n j : Nat) : Nat := if j < n then (if (lLt (tx j) || lDg (tx j)) = true then lRun tx (lPr tx j) (n - j) j else j + 1) else j
def lBad (tx : Nat → Nat) (n j : Nat) : Nat := if j < n then (if lAdj tx j = true then j + 1 else if (lLt (tx j) || lDg (tx j)) = true ∧ j + lMost tx j < lEnd tx n j then j + lMost tx j + 1 else 0) else 0
def lCnt (tx : Nat → Nat) (n j : Nat) : Nat := if lEnd tx n j - j < lMost tx j then lEnd tx n j - j else lMost tx j
def lSn (tx : Nat → Nat) (n j : Nat) : Nat := if j < n then (if lLt (tx j) = true then 1 else if lDg (tx j) = true then 2 else 3) else 0
def lVal (tx : Nat → Nat) (n j : Nat) : Nat := if lSn tx n j = 2 then lNm (fun i => tx (j + i)) (lCnt tx n j) else if lSn tx n j = 3 then tx j else 0
def lWd (tx : Nat → Nat) (n j : Nat) : Nat := if lSn tx n j = 1 then lPk (fun i => tx (j + i)) (lCnt tx n j) else 0
section LA
variable (tx : Nat → Nat) (n : Nat) (tp : Nat → Int32)
theorem s_ah_204w (hn : n ≤ 1600) (ht : ∀ i, i < n → tp i = nI (tx i)) (hb : ∀ i, i < n → tx i < 256) (j : Nat) (sg sa se : Int32) (lx0 : Int32) (hl0 : lx0 = -1 ∨ lx0 = nI j) (hj : j < n) (b3 : Bool) (hb3 : b3 = false) :
    ∀ (m c f : Nat) (lx : Int32), j + c + m = n → m < f → (∀ x, j ≤ x → x < j + c → lLt (tx x) = true) → lx = (if lx0 = -1 then (if 6 < c then nI (j + 6) else -1) else lx0) →
      mX12_ahead_204 (nI n) tp f (nI (j + c)) true b3 6 (nI c) sg sa se 0 (lN (lPk (fun i => tx (j + i)) (if c < 6 then c else 6))) lx = some (sg, sa, nI (lRun tx lLt m (j + c)), 0, lN (lPk (fun i => tx (j + i)) (if lRun tx lLt m (j + c) - j < 6 then lRun tx lLt m (j + c) - j else 6)), if lx0 = -1 then (if j + 6 < lRun tx lLt m (j + c) then nI (j + 6) else -1) else lx0) := by
  intro m
  induction m with
  | zero =>
    intro c f lx hm hf hc hlx
    obtain ⟨f, rfl⟩ : ∃ q, f = q + 1 := ⟨f - 1, by omega⟩
    rw [mX12_ahead_204, if_neg (nI_nlt (by omega) (by omega)), lRun, hlx, show j + c - j = c by omega]
    congr 6
    by_cases h : lx0 = -1
    · rw [if_pos h, if_pos h]
      by_cases h6 : 6 < c
      · rw [if_pos h6, if_pos (by omega)]
      · rw [if_neg h6, if_neg (by omega)]
    · rw [if_neg h, if_neg h]
  | succ m ih =>
    intro c f lx hm hf hc hlx
    obtain ⟨f, rfl⟩ : ∃ q, f = q + 1 := ⟨f - 1, by omega⟩
    have hjc : j + c < n := by omega
    have htb := hb (j + c) hjc
    rw [mX12_ahead_204, if_pos (nI_lt hjc (by omega)), if_pos rfl, zb (j + c) 1800 (by omega) (by decide), if_pos rfl, zc (j + c) (by omega), ht _ hjc, s_isLetter _ (by omega), lRun]
    by_cases hL : lLt (tx (j + c)) = true
    · rw [if_pos hL, if_pos hL]
      have next := ih (c + 1) f
      have e1 : nI (j + c) + 1 = nI (j + (c + 1)) := by rw [nI_1]; rfl
      have hword : ∀ K : Int64 → Option (Int32 × Int32 × Int32 × Int32 × Int64 × Int32), (if nI c < 6 then (if (true : Bool) = true then K ((lN (lPk (fun i => tx (j + i)) (if c < 6 then c else 6)) <<< ((8 : Int32).toInt64 &&& 63)) ||| (nI (tx (j + c))).toInt64) else K (lN (lPk (fun i => tx (j + i)) (if c < 6 then c else 6)))) else K (lN (lPk (fun i => tx (j + i)) (if c < 6 then c else 6)))) = K (lN (lPk (fun i => tx (j + i)) (if c + 1 < 6 then c + 1 else 6))) := by
        intro K
        by_cases h6 : c < 6
        · rw [if_pos (show nI c < 6 from nI_lt (b := 6) h6 (by decide)), if_pos rfl, if_pos h6]
          have e8 : lN (lPk (fun i => tx (j + i)) c) <<< ((8 : Int32).toInt64 &&& 63) = lN (lPk (fun i => tx (j + i)) c * 256) := wb_shl _ (k := 8) (by decide)
          rw [e8, nI_l (by omega)]
          have e9 : lN (lPk (fun i => tx (j + i)) c * 256) ||| lN (tx (j + c)) = lN (lPk (fun i => tx (j + i)) c * 256 + tx (j + c)) := by
            have := fb_or_sumL (k := 8) (a := tx (j + c)) (lPk (fun i => tx (j + i)) c) (by omega)
            rw [show (2 : Nat) ^ 8 = 256 from rfl, Nat.mul_comm] at this
            exact this
          rw [e9]
          by_cases h7 : c + 1 < 6
          · rw [if_pos h7]; rfl
          · rw [if_neg h7, show 6 = c + 1 by omega]; rfl
        · rw [if_neg (show ¬ nI c < 6 from nI_nlt (b := 6) (by omega) (by omega)), if_neg h6, if_neg (by omega)]
      have hnum : ∀ K : Int32 → Int64 → Int32 → Option (Int32 × Int32 × Int32 × Int32 × Int64 × Int32), ∀ w l, (if nI c < 6 then (if b3 = true then K (((10 * 0) + nI (tx (j + c))) - 48) w l else K 0 w l) else K 0 w l) = K 0 w l := by
        intro K w l
        rw [hb3]
        by_cases q : nI c < 6
        · rw [if_pos q, if_neg (show ¬ (false = true) by decide)]
        · rw [if_neg q]
      have go : ∀ lx', lx' = (if lx0 = -1 then (if 6 < c + 1 then nI (j + 6) else -1) else lx0) → mX12_ahead_263 tp sa se sg 0 (lN (lPk (fun i => tx (j + i)) (if c < 6 then c else 6))) (nI (j + c)) true b3 6 (nI c) (fun zx1_204 zx2_204 zx3_204 zx4_204 zx5_204 zf_sign_204 zf_signAt_204 zf_signEnd_204 zf_value_204 zf_word_204 zf_lexAt_204 => mX12_ahead_204 (nI n) tp f zx1_204 zx2_204 zx3_204 zx4_204 zx5_204 zf_sign_204 zf_signAt_204 zf_signEnd_204 zf_value_204 zf_word_204 zf_lexAt_204) lx' = mX12_ahead_204 (nI n) tp f (nI (j + (c + 1))) true b3 6 (nI (c + 1)) sg sa se 0 (lN (lPk (fun i => tx (j + i)) (if c + 1 < 6 then c + 1 else 6))) lx' := by
        intro lx' _
        unfold mX12_ahead_263 mX12_ahead_293
        rw [zc (j + c) (by omega), ht _ hjc, e1, nI_1]
        rw [hnum (fun v w l => mX12_ahead_204 (nI n) tp f (nI (j + (c + 1))) true b3 6 (nI (c + 1)) sg sa se v w l), hnum (fun v w l => mX12_ahead_204 (nI n) tp f (nI (j + (c + 1))) true b3 6 (nI (c + 1)) sg sa se v w l)]
        exact hword (fun w => mX12_ahead_204 (nI n) tp f (nI (j + (c + 1))) true b3 6 (nI (c + 1)) sg sa se 0 w lx')
      have fin : ∀ lx', lx' = (if lx0 = -1 then (if 6 < c + 1 then nI (j + 6) else -1) else lx0) → _ := fun lx' h => (go lx' h).trans (next lx' (by omega) (by omega) (fun x h1 h2 => by
        by_cases e : x = j + c
        · subst e; exact hL
        · exact hc x h1 (by omega)) h)
      unfold mX12_ahead_243
      by_cases h6 : c = 6
      · subst h6
        rw [if_pos (show nI 6 = 6 from rfl)]
        by_cases h : lx0 = -1
        · rw [if_pos h, if_neg (by decide)] at hlx
          rw [hlx, if_pos rfl]
          exact fin _ (by rw [if_pos h, if_pos (by decide)])
        · rw [if_neg h] at hlx
          have : ¬ lx = -1 := by rw [hlx]; exact h
          rw [if_neg this]
          exact fin _ (by rw [if_neg h]; exact hlx)
      · rw [if_neg (show ¬ nI c = 6 from fun q => h6 ((nI_eq (b := 6) (by omega) (by decide)).mp q))]
        refine fin _ ?_
        rw [hlx]
        by_cases h : lx0 = -1
        · rw [if_pos h, if_pos h]
          by_cases h7 : 6 < c
          · rw [if_pos h7, if_pos (by omega)]
          · rw [if_neg h7, if_neg (by omega)]
        · rw [if_neg h, if_neg h]
    · rw [if_neg hL, if_neg hL, hlx, show j + c - j = c by omega]
      congr 6
      by_cases h : lx0 = -1
      · rw [if_pos h, if_pos h]
        by_cases h6 : 6 < c
        · rw [if_pos h6, if_pos (by omega)]
        · rw [if_neg h6, if_neg (by omega)]
      · rw [if_neg h, if_neg h]
theorem s_ah_204d (hn : n ≤ 1600) (ht : ∀ i, i < n → tp i = nI (tx i)) (hb : ∀ i, i < n → tx i < 256) (j : Nat) (sg sa se : Int32) (lx0 : Int32) (hl0 : lx0 = -1 ∨ lx0 = nI j) (hj : j < n) :
    ∀ (m c f : Nat) (lx : Int32), j + c + m = n → m < f → (∀ x, j ≤ x → x < j + c → lDg (tx x) = true) → lx = (if lx0 = -1 then (if 4 < c then nI (j + 4) else -1) else lx0) →
      mX12_ahead_204 (nI n) tp f (nI (j + c)) false true 4 (nI c) sg sa se (nI (lNm (fun i => tx (j + i)) (if c < 4 then c else 4))) 0 lx = some (sg, sa, nI (lRun tx lDg m (j + c)), nI (lNm (fun i => tx (j + i)) (if lRun tx lDg m (j + c) - j < 4 then lRun tx lDg m (j + c) - j else 4)), 0, if lx0 = -1 then (if j + 4 < lRun tx lDg m (j + c) then nI (j + 4) else -1) else lx0) := by
  intro m
  induction m with
  | zero =>
    intro c f lx hm hf hc hlx
    obtain ⟨f, rfl⟩ : ∃ q, f = q + 1 := ⟨f - 1, by omega⟩
    rw [mX12_ahead_204, if_neg (nI_nlt (by omega) (by omega)), lRun, hlx, show j + c - j = c by omega]
    congr 6
    by_cases h : lx0 = -1
    · rw [if_pos h, if_pos h]
      by_cases h6 : 4 < c
      · rw [if_pos h6, if_pos (by omega)]
      · rw [if_neg h6, if_neg (by omega)]
    · rw [if_neg h, if_neg h]
  | succ m ih =>
    intro c f lx hm hf hc hlx
    obtain ⟨f, rfl⟩ : ∃ q, f = q + 1 := ⟨f - 1, by omega⟩
    have hjc : j + c < n := by omega
    have htb := hb (j + c) hjc
    rw [mX12_ahead_204, if_pos (nI_lt hjc (by omega)), if_neg (show ¬ (false = true) by decide), zb (j + c) 1800 (by omega) (by decide), if_pos rfl, zc (j + c) (by omega), ht _ hjc, s_isDigit _ (by omega), lRun]
    by_cases hL : lDg (tx (j + c)) = true
    · rw [if_pos hL, if_pos hL]
      have next := ih (c + 1) f
      have e1 : nI (j + c) + 1 = nI (j + (c + 1)) := by rw [nI_1]; rfl
      have hd := of_decide_eq_true hL
      have hnum : ∀ K : Int32 → Option (Int32 × Int32 × Int32 × Int32 × Int64 × Int32), (if nI c < 4 then (if (true : Bool) = true then K (((10 * nI (lNm (fun i => tx (j + i)) (if c < 4 then c else 4))) + nI (tx (j + c))) - 48) else K (nI (lNm (fun i => tx (j + i)) (if c < 4 then c else 4)))) else K (nI (lNm (fun i => tx (j + i)) (if c < 4 then c else 4)))) = K (nI (lNm (fun i => tx (j + i)) (if c + 1 < 4 then c + 1 else 4))) := by
        intro K
        by_cases h6 : c < 4
        · rw [if_pos (show nI c < 4 from nI_lt (b := 4) h6 (by decide)), if_pos rfl, if_pos h6]
          have e9 : (10 : Int32) * nI (lNm (fun i => tx (j + i)) c) + nI (tx (j + c)) - 48 = nI (lNm (fun i => tx (j + i)) (c + 1)) := by
            rw [show (10 : Int32) = nI 10 from rfl, show (48 : Int32) = nI 48 from rfl, pk_mul, nI_add, pk_sub (by omega), lNm]
            congr 1
            omega
          rw [e9]
          by_cases h7 : c + 1 < 4
          · rw [if_pos h7]
          · rw [if_neg h7, show 4 = c + 1 by omega]
        · rw [if_neg (show ¬ nI c < 4 from nI_nlt (b := 4) (by omega) (by omega)), if_neg h6, if_neg (by omega)]
      have go : ∀ lx', mX12_ahead_263 tp sa se sg (nI (lNm (fun i => tx (j + i)) (if c < 4 then c else 4))) 0 (nI (j + c)) false true 4 (nI c) (fun zx1_204 zx2_204 zx3_204 zx4_204 zx5_204 zf_sign_204 zf_signAt_204 zf_signEnd_204 zf_value_204 zf_word_204 zf_lexAt_204 => mX12_ahead_204 (nI n) tp f zx1_204 zx2_204 zx3_204 zx4_204 zx5_204 zf_sign_204 zf_signAt_204 zf_signEnd_204 zf_value_204 zf_word_204 zf_lexAt_204) lx' = mX12_ahead_204 (nI n) tp f (nI (j + (c + 1))) false true 4 (nI (c + 1)) sg sa se (nI (lNm (fun i => tx (j + i)) (if c + 1 < 4 then c + 1 else 4))) 0 lx' := by
        intro lx'
        unfold mX12_ahead_263 mX12_ahead_293
        rw [zc (j + c) (by omega), ht _ hjc, e1, nI_1]
        have k := hnum (fun v => mX12_ahead_204 (nI n) tp f (nI (j + (c + 1))) false true 4 (nI (c + 1)) sg sa se v 0 lx')
        by_cases q : nI c < 4
        · rw [if_pos q, if_neg (show ¬ (false = true) by decide)]
          exact k
        · rw [if_neg q]
          exact k
      have fin : ∀ lx', lx' = (if lx0 = -1 then (if 4 < c + 1 then nI (j + 4) else -1) else lx0) → _ := fun lx' h => (go lx').trans (next lx' (by omega) (by omega) (fun x h1 h2 => by
        by_cases e : x = j + c
        · subst e; exact hL
        · exact hc x h1 (by omega)) h)
      unfold mX12_ahead_243
      by_cases h6 : c = 4
      · subst h6
        rw [if_pos (show nI 4 = 4 from rfl)]
        by_cases h : lx0 = -1
        · rw [if_pos h, if_neg (by decide)] at hlx
          rw [hlx, if_pos rfl]
          exact fin _ (by rw [if_pos h, if_pos (by decide)])
        · rw [if_neg h] at hlx
          have : ¬ lx = -1 := by rw [hlx]; exact h
          rw [if_neg this]
          exact fin _ (by rw [if_neg h]; exact hlx)
      · rw [if_neg (show ¬ nI c = 4 from fun q => h6 ((nI_eq (b := 4) (by omega) (by decide)).mp q))]
        refine fin _ ?_
        rw [hlx]
        by_cases h : lx0 = -1
        · rw [if_pos h, if_pos h]
          by_cases h7 : 4 < c
          · rw [if_pos h7, if_pos (by omega)]
          · rw [if_neg h7, if_neg (by omega)]
        · rw [if_neg h, if_neg h]
    · rw [if_neg hL, if_neg hL, hlx, show j + c - j = c by omega]
      congr 6
      by_cases h : lx0 = -1
      · rw [if_pos h, if_pos h]
        by_cases h6 : 4 < c
        · rw [if_pos h6, if_pos (by omega)]
        · rw [if_neg h6, if_neg (by omega)]
      · rw [if_neg h, if_neg h]
/-- what the reference holds of the sign at j -/
def lRS (v0 : Int32) (w0 : Int64) (j : Nat) : Int32 × Int32 × Int32 × Int32 × Int64 × Int32 :=
  (nI (lSn tx n j), nI j, nI (lEnd tx n j), if j < n then nI (lVal tx n j) else v0, if j < n then lN (lWd tx n j) else w0, bno (lBad tx n j))
theorem lBad_lx (j : Nat) (hj : j < n) (hw : (lLt (tx j) || lDg (tx j)) = true) (e : Nat) (he : lEnd tx n j = e) (lx0 : Int32) (hl0 : lx0 = if lAdj tx j = true then nI j else -1) (hj2 : j < 2147483648) : (if lx0 = -1 then (if j + lMost tx j < e then nI (j + lMost tx j) else -1) else lx0) = bno (lBad tx n j) := by
  unfold lBad
  rw [if_pos hj, he, hl0]
  by_cases ha : lAdj tx j = true
  · rw [if_pos ha, if_pos ha, if_neg (nI_m1 (by omega)), bnoS]
  · rw [if_neg ha, if_neg ha, if_pos rfl]
    by_cases h2 : j + lMost tx j < e
    · rw [if_pos h2, if_pos ⟨hw, h2⟩, bnoS]
    · rw [if_neg h2, if_neg (fun q => h2 q.2), bno0]
theorem s_ah_98 (hn : n ≤ 1600) (ht : ∀ i, i < n → tp i = nI (tx i)) (hb : ∀ i, i < n → tx i < 256) (v0 : Int32) (w0 : Int64) (j : Nat) (hj : j < n) (hw : (lLt (tx j) || lDg (tx j)) = true) : mX12_ahead_98 (nI n) tp (nI j) (lLt (tx j)) (lDg (tx j)) (nI j) (nI j) = some (lRS tx n v0 w0 j) := by
  have key : ∀ lx0, lx0 = (if lAdj tx j = true then nI j else -1) → mX12_ahead_135 (nI n) tp (nI j) (lLt (tx j)) (lDg (tx j)) (nI j) (nI j) lx0 = some (lRS tx n v0 w0 j) := by
    intro lx0 hl0
    have hl1 : lx0 = -1 ∨ lx0 = nI j := by
      rw [hl0]; split
      · exact Or.inr rfl
      · exact Or.inl rfl
    have e5 : (lRS tx n v0 w0 j).2.2.2.2.2 = bno (lBad tx n j) := rfl
    unfold mX12_ahead_135 mX12_ahead_176 mX12_ahead_186
    by_cases hL : lLt (tx j) = true
    · have hD : lDg (tx j) = false := by
        have a := of_decide_eq_true hL
        exact decide_eq_false (by omega)
      have hend : lEnd tx n j = lRun tx lLt (n - j) j := by unfold lEnd lPr; rw [if_pos hj, if_pos hw, if_pos hL]
      have hm : lMost tx j = 6 := by unfold lMost; rw [if_pos hL]
      rw [if_pos hL, if_pos hL, if_pos hL, hL, hD]
      have k := s_ah_204w tx n tp hn ht hb j 1 (nI j) (nI j + 1) lx0 hl1 hj false rfl (n - j) 0 xfuel lx0 (by omega) (by unfold xfuel; omega) (fun x _ _ => by omega) (by
        by_cases h : lx0 = -1
        · rw [if_pos h, if_neg (by decide)]; exact h
        · rw [if_neg h])
      rw [show nI (j + 0) = nI j from rfl, show nI 0 = 0 from rfl, if_pos (show 0 < 6 by decide), show lN (lPk (fun i => tx (j + i)) 0) = 0 from rfl, Nat.add_zero] at k
      rw [k]
      unfold lRS
      have hb6 := lBad_lx tx n j hj hw _ hend lx0 hl0 (by omega)
      rw [hm] at hb6
      have s1 : lSn tx n j = 1 := by unfold lSn; rw [if_pos hj, if_pos hL]
      have s2 : lVal tx n j = 0 := by unfold lVal; rw [s1]; rfl
      have s3 : lWd tx n j = lPk (fun i => tx (j + i)) (lCnt tx n j) := by unfold lWd; rw [s1, if_pos rfl]
      have s4 : lCnt tx n j = if lRun tx lLt (n - j) j - j < 6 then lRun tx lLt (n - j) j - j else 6 := by unfold lCnt; rw [hm, hend]
      rw [if_pos hj, if_pos hj, s1, s2, s3, s4, hend, hb6]
      rfl
    · have hD : lDg (tx j) = true := by
        rw [Bool.eq_false_iff.mpr hL, Bool.false_or] at hw; exact hw
      have hend : lEnd tx n j = lRun tx lDg (n - j) j := by unfold lEnd lPr; rw [if_pos hj, if_pos hw, if_neg hL]
      have hm : lMost tx j = 4 := by unfold lMost; rw [if_neg hL]
      rw [if_neg hL, if_pos hD, if_neg hL, if_neg hL, Bool.eq_false_iff.mpr hL, hD]
      have k := s_ah_204d tx n tp hn ht hb j 2 (nI j) (nI j + 1) lx0 hl1 hj (n - j) 0 xfuel lx0 (by omega) (by unfold xfuel; omega) (fun x _ _ => by omega) (by
        by_cases h : lx0 = -1
        · rw [if_pos h, if_neg (by decide)]; exact h
        · rw [if_neg h])
      rw [show nI (j + 0) = nI j from rfl, show nI 0 = 0 from rfl, if_pos (show 0 < 4 by decide), show nI (lNm (fun i => tx (j + i)) 0) = 0 from rfl, Nat.add_zero] at k
      rw [k]
      unfold lRS
      have hb6 := lBad_lx tx n j hj hw _ hend lx0 hl0 (by omega)
      rw [hm] at hb6
      have s1 : lSn tx n j = 2 := by unfold lSn; rw [if_pos hj, if_neg hL, if_pos hD]
      have s2 : lVal tx n j = lNm (fun i => tx (j + i)) (lCnt tx n j) := by unfold lVal; rw [s1, if_pos rfl]
      have s3 : lWd tx n j = 0 := by unfold lWd; rw [s1]; rfl
      have s4 : lCnt tx n j = if lRun tx lDg (n - j) j - j < 4 then lRun tx lDg (n - j) j - j else 4 := by unfold lCnt; rw [hm, hend]
      rw [if_pos hj, if_pos hj, s1, s2, s3, s4, hend, hb6]
      rfl
  unfold mX12_ahead_98
  by_cases h0 : 0 < j
  · have a1 : nI j - 1 = nI (j - 1) := by
      obtain ⟨i, rfl⟩ : ∃ i, j = i + 1 := ⟨j - 1, by omega⟩
      exact nI_pred i
    have hb1 := hb (j - 1) (by omega)
    rw [if_pos (show 0 < nI j from nI_lt (a := 0) h0 (by omega)), a1, zb (j - 1) 1800 (by omega) (by decide), if_pos rfl, zc (j - 1) (by omega), ht _ (by omega), s_isLetter _ (by omega), s_isDigit _ (by omega)]
    unfold mX12_ahead_130
    by_cases hL : lLt (tx (j - 1)) = true
    · rw [if_pos hL]
      refine key _ ?_
      rw [if_pos]
      unfold lAdj
      rw [hw, decide_eq_true h0, hL]; rfl
    · rw [if_neg hL]
      by_cases hD : lDg (tx (j - 1)) = true
      · rw [if_pos hD]
        refine key _ ?_
        rw [if_pos]
        unfold lAdj
        rw [hw, decide_eq_true h0, hD, Bool.or_true]; rfl
      · rw [if_neg hD]
        refine key _ ?_
        rw [if_neg]
        unfold lAdj
        rw [Bool.eq_false_iff.mpr hL, Bool.eq_false_iff.mpr hD, Bool.or_false, Bool.and_false, Bool.and_false]
        decide
  · rw [if_neg (show ¬ 0 < nI j from nI_nlt (b := j) (a := 0) (by omega) (by decide))]
    refine key _ ?_
    rw [if_neg]
    unfold lAdj
    rw [decide_eq_false h0, Bool.false_and, Bool.and_false]
    decide
theorem s_ah_41 (hn : n ≤ 1600) (ht : ∀ i, i < n → tp i = nI (tx i)) (hb : ∀ i, i < n → tx i < 256) (v0 : Int32) (w0 : Int64) (j : Nat) (hj : j ≤ n) : mX12_ahead_41 (nI n) v0 w0 tp (nI j) = some (lRS tx n v0 w0 j) := by
  unfold mX12_ahead_41
  by_cases h : j < n
  · have hb1 := hb j h
    rw [if_pos (nI_lt h (by omega)), zb j 1800 (by omega) (by decide), if_pos rfl, zc j (by omega), ht j h, s_isLetter _ (by omega), s_isDigit _ (by omega)]
    by_cases hL : lLt (tx j) = true
    · rw [if_pos hL]
      exact s_ah_98 tx n tp hn ht hb v0 w0 j h (by rw [hL]; rfl)
    · rw [if_neg hL]
      by_cases hD : lDg (tx j) = true
      · rw [if_pos hD]
        exact s_ah_98 tx n tp hn ht hb v0 w0 j h (by rw [hD, Bool.or_true])
      · rw [if_neg hD]
        unfold mX12_ahead_135
        rw [if_neg hL, if_neg hD, zb j 1800 (by omega) (by decide), if_pos rfl, zc j (by omega), ht j h, nI_1]
        have hf : (lLt (tx j) || lDg (tx j)) = false := by rw [Bool.eq_false_iff.mpr hL, Bool.eq_false_iff.mpr hD]; rfl
        have s1 : lSn tx n j = 3 := by unfold lSn; rw [if_pos h, if_neg hL, if_neg hD]
        have s2 : lVal tx n j = tx j := by unfold lVal; rw [s1]; rfl
        have s3 : lWd tx n j = 0 := by unfold lWd; rw [s1]; rfl
        have s4 : lEnd tx n j = j + 1 := by unfold lEnd; rw [if_pos h, hf]; rfl
        have s5 : lBad tx n j = 0 := by unfold lBad lAdj; rw [if_pos h, hf, Bool.false_and]; simp
        unfold lRS
        rw [if_pos h, if_pos h, s1, s2, s3, s4, s5]
        rfl
  · rw [if_neg (nI_nlt (by omega) (by omega))]
    unfold lRS
    have s1 : lSn tx n j = 0 := by unfold lSn; rw [if_neg h]
    have s4 : lEnd tx n j = j := by unfold lEnd; rw [if_neg h]
    have s5 : lBad tx n j = 0 := by unfold lBad; rw [if_neg h]
    rw [if_neg h, if_neg h, s1, s4, s5]
    rfl
theorem s_ah_5 (hn : n ≤ 1600) (ht : ∀ i, i < n → tp i = nI (tx i)) (hb : ∀ i, i < n → tx i < 256) (v0 : Int32) (w0 : Int64) : ∀ (m i f : Nat), i + m = n → m < f → mX12_ahead_5 (nI n) v0 w0 tp f (nI i) = some (lRS tx n v0 w0 (lRun tx lBl m i)) := by
  intro m
  induction m with
  | zero =>
    intro i f hi hf
    obtain ⟨f, rfl⟩ : ∃ q, f = q + 1 := ⟨f - 1, by omega⟩
    rw [mX12_ahead_5, if_neg (nI_nlt (by omega) (by omega)), lRun]
    exact s_ah_41 tx n tp hn ht hb v0 w0 i (by omega)
  | succ m ih =>
    intro i f hi hf
    obtain ⟨f, rfl⟩ : ∃ q, f = q + 1 := ⟨f - 1, by omega⟩
    have hin : i < n := by omega
    have hb1 := hb i hin
    rw [mX12_ahead_5, if_pos (nI_lt hin (by omega)), zb i 1800 (by omega) (by decide), if_pos rfl, zc i (by omega), ht i hin, nI_1, lRun]
    by_cases h1 : tx i = 32
    · rw [if_pos (show nI (tx i) = 32 by rw [h1]; rfl), if_pos (show lBl (tx i) = true from decide_eq_true (Or.inl h1))]
      exact ih (i + 1) f (by omega) (by omega)
    · rw [if_neg (show ¬ nI (tx i) = 32 from fun q => h1 ((nI_eq (b := 32) (by omega) (by decide)).mp q))]
      by_cases h2 : tx i = 10
      · rw [if_pos (show nI (tx i) = 10 by rw [h2]; rfl), if_pos (show lBl (tx i) = true from decide_eq_true (Or.inr h2))]
        exact ih (i + 1) f (by omega) (by omega)
      · rw [if_neg (show ¬ nI (tx i) = 10 from fun q => h2 ((nI_eq (b := 10) (by omega) (by decide)).mp q)), if_neg (by unfold lBl; rw [decide_eq_false (by omega)]; decide)]
        exact s_ah_41 tx n tp hn ht hb v0 w0 i (by omega)
/-- the next sign of the text, from e on -/
def lNext (e : Nat) : Nat := lRun tx lBl (n - e) e
theorem s_ahead (hn : n ≤ 1600) (ht : ∀ i, i < n → tp i = nI (tx i)) (hb : ∀ i, i < n → tx i < 256) (v0 : Int32) (w0 : Int64) (e : Nat) (he : e ≤ n) : mX12_ahead (nI n) (nI e) v0 w0 tp = some (lRS tx n v0 w0 (lNext tx n e)) := by
  unfold mX12_ahead
  exact s_ah_5 tx n tp hn ht hb v0 w0 (n - e) e xfuel (by omega) (by unfold xfuel; omega)
end LA
