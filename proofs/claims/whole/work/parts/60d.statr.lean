theorem fill_5 (v : Int32) : ∀ (k i : Nat) (row : Nat → Int32) (t : Nat), i + k ≤ 2000 → mJ7_fill_53178_5 v k i row t = if i ≤ t ∧ t < i + k then v else row t := by
  intro k
  induction k with
  | zero => intro i row t _; rw [mJ7_fill_53178_5, if_neg (by omega)]
  | succ k ih =>
    intro i row t h
    rw [mJ7_fill_53178_5, ih (i + 1) _ t (by omega), zc i (by omega)]
    by_cases e : t = i
    · subst e; rw [if_neg (by omega), if_pos (by omega), pk_us]
    · by_cases q : i + 1 ≤ t ∧ t < i + 1 + k
      · rw [if_pos q, if_pos (by omega)]
      · rw [if_neg q, if_neg (by omega), pk_un e]
theorem s_fill (N : Nat) (hN : N ≤ 2000) (v : Int32) (row : Nat → Int32) (t : Nat) (ht : t < N) : mJ7_fill_53178 N v row t = v := by
  unfold mJ7_fill_53178
  rw [fill_5 v N 0 row t (by omega), if_pos (by omega)]
theorem lQ_lt (f : Nat → Nat) (L : Nat) (h : ∀ i, i < L → f i ≤ 122) : ∀ k, lQ f L k < 27 ^ k
  | 0 => Nat.one_pos
  | k + 1 => by
    have a := lQ_lt f L h k
    have b : (if k < L then f k - 96 else 0) ≤ 26 := by
      split
      · have := h k (by assumption); omega
      · omega
    rw [lQ, Nat.pow_succ]
    omega
theorem lNm_23 (f : Nat → Nat) : ∀ k, (∀ i, i < k → f i < 256) → lNm f k + 23 ≤ 23 * 10 ^ k
  | 0, _ => by simp [lNm]
  | k + 1, h => by
    have a := lNm_23 f k (fun i hi => h i (by omega))
    have b := h k (by omega)
    rw [lNm, Nat.pow_succ]
    omega
theorem lOwn_le (f : Nat → Nat) (L : Nat) : ∀ k w, lOwn f L k w ≤ w + k := by
  intro k
  induction k with
  | zero => intro w; rw [lOwn]; omega
  | succ k ih =>
    intro w
    rw [lOwn]
    split
    · omega
    · have := ih (w + 1); omega
section LD
variable (tx : Nat → Nat) (n : Nat)
theorem lVl_lt (hn : n ≤ 1600) (hb : ∀ i, i < n → tx i < 256) (j : Nat) : lKd tx n j < 6 ∧ lVl tx n j < 1000000000 := by
  constructor
  · unfold lKd
    split
    · split
      · split
        · split <;> omega
        · split <;> omega
      · omega
    · omega
  · unfold lVl
    split
    · rename_i hj
      split
      · rename_i hbad
        split
        · rename_i hl
          split
          · have hw : (lLt (tx j) || lDg (tx j)) = true := by rw [hl]; rfl
            have he := lEnd_run tx n j hj hw
            have hp : lPr tx j = lLt := by unfold lPr; rw [if_pos hl]
            have := lQ_lt (fun i => tx (j + i)) (lEnd tx n j - j) (fun i hi => by
              have hi2 : j + i < lRun tx (lPr tx j) (n - j) j := by rw [← he]; omega
              have a := lRun_in tx (lPr tx j) (n - j) j (j + i) (by omega) hi2
              rw [hp] at a
              have a2 := of_decide_eq_true a
              exact a2.2) 6
            omega
          · have := lOwn_le (fun i => tx (j + i)) (lEnd tx n j - j) 24 0
            unfold lOn
            omega
        · rename_i hl
          split
          · rename_i hd
            have hw : (lLt (tx j) || lDg (tx j)) = true := by rw [hd]; exact Bool.or_true _
            have hle := (lEnd_le tx n j hj).2
            have h4 : lEnd tx n j - j ≤ 4 := by
              have hm : lMost tx j = 4 := by unfold lMost; rw [if_neg hl]
              unfold lBad at hbad
              rw [if_pos hj] at hbad
              by_cases q : (lLt (tx j) || lDg (tx j)) = true ∧ j + lMost tx j < lEnd tx n j
              · exfalso
                rw [if_pos q] at hbad
                split at hbad <;> omega
              · have q2 : ¬ j + lMost tx j < lEnd tx n j := fun z => q ⟨hw, z⟩
                omega
            have a := lNm_23 (fun i => tx (j + i)) (lEnd tx n j - j) (fun i hi => hb (j + i) (by omega))
            have b : 10 ^ (lEnd tx n j - j) ≤ 10 ^ 4 := Nat.pow_le_pow_right (by decide) h4
            omega
          · have := hb j hj; omega
      · have hle := (lEnd_le tx n j hj).2
        have : lBad tx n j ≤ n + 1 := by
          unfold lBad
          rw [if_pos hj]
          split
          · omega
          · split
            · rename_i q; have := q.2; omega
            · omega
        omega
    · omega
theorem lAt_le : ∀ k, lAt tx n k ≤ n
  | 0 => (lNext_le tx n 0 (Nat.zero_le _)).2
  | k + 1 => by
    have a := lAt_le k
    have b : lEnd tx n (lAt tx n k) ≤ n := by
      by_cases q : lAt tx n k < n
      · exact (lEnd_le tx n _ q).2
      · unfold lEnd; rw [if_neg q]; exact a
    exact (lNext_le tx n _ b).2
/-- the signs of a text: kinds, values, places -/
def tK (k : Nat) : Nat := lKd tx n (lAt tx n k)
def tV (k : Nat) : Nat := lVl tx n (lAt tx n k)
def tS (k : Nat) : Nat := lAt tx n k
theorem gTok_cut (hn : n ≤ 1600) (hb : ∀ i, i < n → tx i < 256) {B T' : Nat} {ks ss vs : Nat → Int32} (h1 : B < T') (h2 : T' ≤ 1602) (hc : lCut tx n B ks ss vs) : gTok (tK tx n) (tV tx n) (tS tx n) B T' ks ss vs := by
  obtain ⟨c1, c2, c3, c4⟩ := hc
  refine ⟨c1, h1, h2, fun k hk => ?_, c2, c3⟩
  obtain ⟨a1, a2, a3⟩ := c4 k hk
  have b := lVl_lt tx n hn hb (lAt tx n k)
  have c := lAt_le tx n k
  exact ⟨a1, a2, a3, b.1, b.2, by show lAt tx n k < 100000; omega⟩
theorem t_first {K V St : Nat → Nat} {B T' : Nat} {ks ss vs : Nat → Int32} (h : gTok K V St B T' ks ss vs) (st : Int32) : mX8_next (nI T') (-1) st ks ss vs = (nI 0, nI (K 0), nI (St 0), nI (V 0)) := by
  obtain ⟨h1, h2, h3, h4, _⟩ := h
  obtain ⟨a, b, c, _⟩ := h4 0 (Nat.zero_le _)
  unfold mX8_next
  rw [show (-1 : Int32) + 1 = nI 0 from rfl, if_neg (show ¬ nI 0 < 0 by decide), if_pos (show nI 0 < nI T' from nI_lt (by omega) (by omega)), if_neg (show ¬ (1600 : Int32) < nI 0 by decide), zc 0 (by decide), a, b, c]
theorem j_all (hn : n ≤ 1600) {tp : Nat → Int32} (ht : ∀ i, i < n → tp i = nI (tx i)) (hb : ∀ i, i < n → tx i < 256) (st to : Int32) (ks ss vs nm sz bg lc ln rr co cf cl : Nat → Int32) :
    ∃ (T' : Nat) (ks' ss' vs' : Nat → Int32), T' ≤ 1602 ∧ cR T' ks' ss' vs' (nAll (tK tx n) (tV tx n) (tS tx n) n) (-1) (mX8_read 1600 (nI n) st to ks ss vs nm sz bg lc ln rr co cf cl tp) := by
  obtain ⟨B, T', ks', ss', vs', e, h1, h2, hc⟩ := s_cut tx n tp hn ht hb ks ss vs
  have g := gTok_cut tx n hn hb h1 h2 hc
  refine ⟨T', ks', ss', vs', h2, ?_⟩
  have clear : mX7_clear bg lc ln rr cf cl = ((0 : Int32), (0 : Int32), (0 : Int32), (0 : Int32), (0 : Int32), (0 : Int32), mJ7_fill_53178 24 0 bg, mJ7_fill_53178 24 0 lc, mJ7_fill_53178 96 (-1) ln, mJ7_fill_53178 8 (-1) rr, mJ7_fill_53178 3 0 cf, mJ7_fill_53178 3 0 cl) := by
    unfold mX7_clear
    simp only [xlet_eq]
  unfold mX8_read
  rw [clear, xlet_eq]
  show cR T' ks' ss' vs' (nAll (tK tx n) (tV tx n) (tS tx n) n) (-1) (xlet (mX8_cut 1600 (nI n) ks ss vs tp) _)
  rw [e, xlet_eq]
  show cR T' ks' ss' vs' (nAll (tK tx n) (tV tx n) (tS tx n) n) (-1) (xlet (mX8_next (nI T') (-1) st ks' ss' vs') _)
  rw [t_first g, xlet_eq]
  refine j_read g n 81 0 0 nP0 [] 0 0 0 0 0 0 to (-1) nm sz _ _ _ _ co _ _ false rfl rfl ?_ (Nat.zero_le _) (Nat.zero_le _) ?_
  · exact ⟨by decide, by decide, by decide, by decide, by decide, by decide, fun t => by show 0 < 1000000000; decide, fun t => Nat.zero_le _, fun t => Nat.zero_le _, fun t => Nat.zero_le _, fun w hw => ⟨Nat.zero_le _, Nat.zero_le _⟩⟩
  · refine ⟨rfl, rfl, rfl, rfl, rfl, rfl, fun t q => absurd q (Nat.not_lt_zero _), fun t q => ?_, fun t q => ?_, fun t q => ?_, fun t q => ?_, fun w q => ⟨?_, ?_⟩, ⟨co, rfl⟩, ⟨fun z => Bool.noConfusion z, fun z => absurd z (by decide)⟩⟩
    · exact (s_fill 24 (by decide) 0 bg t q).trans rfl
    · exact (s_fill 24 (by decide) 0 lc t q).trans rfl
    · exact (s_fill 96 (by decide) (-1) ln t q).trans rfl
    · exact (s_fill 8 (by decide) (-1) rr t q).trans rfl
    · exact (s_fill 3 (by decide) 0 cf w q).trans rfl
    · exact (s_fill 3 (by decide) 0 cl w q).trans rfl
end LD
