def mUp (k : Nat) (z : MS ⊕ NR) : Prop := ∀ Y, z = .inl Y → k + 1 ≤ Y.2.1
theorem mUp_r (k : Nat) (r : NR) : mUp k (.inr r) := fun Y h => nomatch h
theorem mUp_l {k : Nat} {Z : MS} (h : k + 1 ≤ Z.2.1) : mUp k (.inl Z) := fun Y e => by
  injection e with e
  rw [← e]; exact h
theorem mOp_up (K V St : Nat → Nat) (lw k o : Nat) (M : List (Nat × Nat)) (F : Fr) (R : List Fr) (b : Bool) : mUp k (mOp K V St lw (b, k, o, M, F :: R) F R) := by
  have l1 : ∀ (b : Bool) (o : Nat) (M : List (Nat × Nat)) (fs : List Fr), mUp k (.inl (b, k + 1, o, M, fs)) := fun _ _ _ _ => mUp_l (Nat.le_refl _)
  have l2 : ∀ (b : Bool) (o : Nat) (M : List (Nat × Nat)) (fs : List Fr), mUp k (.inl (b, k + 2, o, M, fs)) := fun _ _ _ _ => mUp_l (by show k + 1 ≤ k + 2; omega)
  unfold mOp
  dsimp only
  refine ite_ex (Q := mUp k) (mUp_r _ _) ?_
  refine ite_ex (Q := mUp k) (ite_ex (Q := mUp k) (mUp_r _ _) (l1 _ _ _ _)) ?_
  refine ite_ex (Q := mUp k) (ite_ex (Q := mUp k) (mUp_r _ _) (l1 _ _ _ _)) ?_
  refine ite_ex (Q := mUp k) (l1 _ _ _ _) ?_
  refine ite_ex (Q := mUp k) (ite_ex (Q := mUp k) (mUp_r _ _) (l1 _ _ _ _)) ?_
  refine ite_ex (Q := mUp k) (ite_ex (Q := mUp k) (ite_ex (Q := mUp k) (mUp_r _ _) (l2 _ _ _ _)) (mUp_r _ _)) ?_
  exact ite_ex (Q := mUp k) (l1 _ _ _ _) (ite_ex (Q := mUp k) (l1 _ _ _ _) (mUp_r _ _))
theorem mGo_up (K V St : Nat → Nat) (k o : Nat) (M : List (Nat × Nat)) (F : Fr) (R : List Fr) (b : Bool) : mUp k (mGo K V St (b, k, o, M, F :: R) F R) := by
  have l1 : ∀ (b : Bool) (o : Nat) (M : List (Nat × Nat)) (fs : List Fr), mUp k (.inl (b, k + 1, o, M, fs)) := fun _ _ _ _ => mUp_l (Nat.le_refl _)
  unfold mGo
  dsimp only
  refine ite_ex (Q := mUp k) (mUp_r _ _) ?_
  refine ite_ex (Q := mUp k) (l1 _ _ _ _) ?_
  refine ite_ex (Q := mUp k) (l1 _ _ _ _) ?_
  refine ite_ex (Q := mUp k) (l1 _ _ _ _) ?_
  refine ite_ex (Q := mUp k) (mUp_r _ _) ?_
  refine ite_ex (Q := mUp k) (l1 _ _ _ _) ?_
  refine ite_ex (Q := mUp k) (l1 _ _ _ _) ?_
  refine ite_ex (Q := mUp k) (mUp_r _ _) ?_
  refine ite_ex (Q := mUp k) (ite_ex (Q := mUp k) (l1 _ _ _ _) (mUp_r _ _)) ?_
  refine ite_ex (Q := mUp k) ?_ (mUp_r _ _)
  cases R with
  | nil => exact mUp_r _ _
  | cons G R' => exact l1 _ _ _ _
def mNz (z : MS ⊕ NR) : Prop := ∀ r, z = .inr r → r.1 ≠ 0
theorem mNz_b (f p : Nat) (h : f ≠ 0) : mNz (.inr (nBad f p)) := fun Y e => by
  injection e with e
  rw [← e]; exact h
theorem mNz_l (Z : MS) : mNz (.inl Z) := fun Y h => nomatch h
theorem mOp_nz (K V St : Nat → Nat) (lw : Nat) (X : MS) (F : Fr) (R : List Fr) : mNz (mOp K V St lw X F R) := by
  unfold mOp
  dsimp only
  refine ite_ex (Q := mNz) (mNz_b _ _ (by decide)) ?_
  refine ite_ex (Q := mNz) (ite_ex (Q := mNz) (mNz_b _ _ (by decide)) (mNz_l _)) ?_
  refine ite_ex (Q := mNz) (ite_ex (Q := mNz) (mNz_b _ _ (by decide)) (mNz_l _)) ?_
  refine ite_ex (Q := mNz) (mNz_l _) ?_
  refine ite_ex (Q := mNz) (ite_ex (Q := mNz) (mNz_b _ _ (by decide)) (mNz_l _)) ?_
  refine ite_ex (Q := mNz) (ite_ex (Q := mNz) (ite_ex (Q := mNz) (mNz_b _ _ (by decide)) (mNz_l _)) (mNz_b _ _ (by decide))) ?_
  exact ite_ex (Q := mNz) (mNz_l _) (ite_ex (Q := mNz) (mNz_l _) (mNz_b _ _ (by decide)))
/-- what a whole formula leaves with the reference -/
def oRd (tx : Nat → Nat) (n i c0 B : Nat) (CS0 CV0 : Nat → Int32) (r : NR) (res : Option (Int32 × Int32 × Int32 × Int32 × Int64 × Int32 × Int32 × Int32 × Int32 × Int32 × Int32 × Int32 × Bool × (Nat → Int32) × (Nat → Int32) × (Nat → Int32) × (Nat → Int32) × (Nat → Int32) × (Nat → Int32) × (Nat → Int32) × (Nat → Int32))) : Prop :=
  ∃ (sg sa se v : Int32) (w : Int64) (F P lx c d o q : Int32) (b : Bool) (CS CV fr ph be pa ba op : Nat → Int32), res = some (sg, sa, se, v, w, F, P, lx, c, d, o, q, b, CS, CV, fr, ph, be, pa, ba, op) ∧ oE tx n i c0 B CS0 CV0 (.inr r) b sg sa se v w F P lx c d o q CS CV fr ph be pa ba op
section OZ
variable {tx : Nat → Nat} {n : Nat} {tp : Nat → Int32} {i lw c0 B : Nat} {CS0 CV0 : Nat → Int32}
theorem r_43f (g : Nat) (sg sa se v : Int32) (w : Int64) (F P lx c d o q : Int32) (b : Bool) (CS CV fr ph be pa ba op : Nat → Int32) (hg : 1 ≤ g) (i : Int32) (lw : Int32) (n : Int32) :
    mX12_reads_43 n i lw tp g false sg sa se v w F P lx c d o q b CS CV fr ph be pa ba op = some (sg, sa, se, v, w, F, P, lx, c, d, o, q, b, CS, CV, fr, ph, be, pa, ba, op) := by
  obtain ⟨g, rfl⟩ : ∃ h, g = h + 1 := ⟨g - 1, by omega⟩
  rw [mX12_reads_43, if_neg (by decide)]
theorem r_43e {r : NR} (g : Nat) (hg : 1 ≤ g) (mo b : Bool) (sg sa se v : Int32) (w : Int64) (F P lx c d o q : Int32) (CS CV fr ph be pa ba op : Nat → Int32) (hE : oE tx n i c0 B CS0 CV0 (.inr r) b sg sa se v w F P lx c d o q CS CV fr ph be pa ba op) (hm : r.1 = 0 → mo = false) :
    oRd tx n i c0 B CS0 CV0 r (mX12_reads_70 (fun zx2_43 zf_sign_43 zf_signAt_43 zf_signEnd_43 zf_value_43 zf_word_43 zf_faultKind_43 zf_faultPlace_43 zf_lexAt_43 zf_codes_43 zf_deep_43 zf_open_43 zf_opMany_43 zf_operand_43 za_codeSort_43 za_codeValue_43 za_frame_43 za_phase_43 za_begins_43 za_pair_43 za_base_43 za_ops_43 => mX12_reads_43 (nI n) (nI i) (nI lw) tp g zx2_43 zf_sign_43 zf_signAt_43 zf_signEnd_43 zf_value_43 zf_word_43 zf_faultKind_43 zf_faultPlace_43 zf_lexAt_43 zf_codes_43 zf_deep_43 zf_open_43 zf_opMany_43 zf_operand_43 za_codeSort_43 za_codeValue_43 za_frame_43 za_phase_43 za_begins_43 za_pair_43 za_base_43 za_ops_43) mo sg sa se v w F P lx c d o q b CS CV fr ph be pa ba op) := by
  unfold mX12_reads_70
  refine ⟨sg, sa, se, v, w, F, P, lx, c, d, o, q, b, CS, CV, fr, ph, be, pa, ba, op, ?_, hE⟩
  rcases hE with h | ⟨h1, h2, h3, _⟩
  · rw [hm h.1, if_neg (by decide)]
    exact r_43f g _ _ _ _ _ _ _ _ _ _ _ _ _ _ _ _ _ _ _ _ _ hg _ _ _
  · have nz : ¬ F = 0 := by rw [h3]; exact nI_ne0 (by omega) (by omega)
    rw [if_neg nz, ite_self]
    exact r_43f g _ _ _ _ _ _ _ _ _ _ _ _ _ _ _ _ _ _ _ _ _ hg _ _ _
/-- the reference's loop over a formula is the machine -/
theorem r_43 (hn : n ≤ 1600) (ht : ∀ i, i < n → tp i = nI (tx i)) (hb : ∀ i, i < n → tx i < 256) (hB : mOk (tK tx n) B) (hB2 : B ≤ 1600) (hi : i < 2) (hlw : lw < 3) : ∀ (f k o : Nat) (b : Bool) (M : List (Nat × Nat)) (fs : List Fr) (sg sa se v : Int32) (w : Int64) (lx : Int32) (fr ph be pa ba op : Nat → Int32) (g : Nat),
    B + 2 ≤ f + k → oI c0 B (b, k, o, M, fs) → oG tx n k sg sa se v w lx → oA fr ph be pa ba op fs → f + 2 ≤ g →
    oRd tx n i c0 B CS0 CV0 (mRun (tK tx n) (tV tx n) (tS tx n) lw f (b, k, o, M, fs)) (mX12_reads_43 (nI n) (nI i) (nI lw) tp g true sg sa se v w 0 oP lx (nI (c0 + M.length)) (nI fs.length) (nI o) (nI (oC fs)) b (rput CS0 (1600 * i + c0) (oSo M)) (rput CV0 (1600 * i + c0) (oVa M)) fr ph be pa ba op) := by
  intro f
  induction f with
  | zero =>
    intro k o b M fs sg sa se v w lx fr ph be pa ba op g hf hI hG hA hg
    cases fs with
    | nil => exact absurd hI (fun h => h)
    | cons F R => have := (oI_num hI).2.2.2.1; omega
  | succ f ih =>
    intro k o b M fs sg sa se v w lx fr ph be pa ba op g hf hI hG hA hg
    cases fs with
    | nil => exact absurd hI (fun h => h)
    | cons F R =>
      obtain ⟨kd, p0, bg, pr, pd⟩ := F
      obtain ⟨g, rfl⟩ : ∃ h, g = h + 1 := ⟨g - 1, by omega⟩
      have eq : oC ((kd, p0, bg, pr, pd) :: R) = oC R + pd.length := Nat.add_comm _ _
      have el : ((kd, p0, bg, pr, pd) :: R : List Fr).length = R.length + 1 := rfl
      rw [mX12_reads_43, if_pos rfl, eq, el]
      cases b with
      | true =>
        rw [if_pos rfl]
        have up := mGo_up (tK tx n) (tV tx n) (tS tx n) k o M (kd, p0, bg, pr, pd) R true
        have es : mRun (tK tx n) (tV tx n) (tS tx n) lw (f + 1) (true, k, o, M, (kd, p0, bg, pr, pd) :: R) = match mGo (tK tx n) (tV tx n) (tS tx n) (true, k, o, M, (kd, p0, bg, pr, pd) :: R) (kd, p0, bg, pr, pd) R with
          | .inl Y => mRun (tK tx n) (tV tx n) (tS tx n) lw f Y
          | .inr r => r := rfl
        obtain ⟨mo, b', a1, a2, a3, a4, a5, a6, a7, a8, a9, a10, a11, a12, a13, a14, a15, a16, a17, a18, e, hE, hm⟩ := r_goes (CS0 := CS0) (CV0 := CV0) hn ht hb hB hB2 hi hG hI hA
        rw [e, obind, es]
        simp only [xu_q]
        cases hs : mGo (tK tx n) (tV tx n) (tS tx n) (true, k, o, M, (kd, p0, bg, pr, pd) :: R) (kd, p0, bg, pr, pd) R with
        | inr r =>
          rw [hs] at hE hm
          exact r_43e g (by omega) _ _ _ _ _ _ _ _ _ _ _ _ _ _ _ _ _ _ _ _ _ _ hE hm
        | inl Y =>
          rw [hs] at hE hm
          obtain ⟨yb, yk, yo, yM, yf⟩ := Y
          have upk := up _ hs
          obtain ⟨⟨h1, h0⟩, h2, h3, h4, h5, h6, h7, h8, h9, h10, h11⟩ := hE
          dsimp only at h2 h3 h4 h5 h6 h7 h8 h9 h10 h11 upk
          have hm' : mo = true := hm
          unfold mX12_reads_70
          rw [hm', if_pos rfl, if_pos h1]
          subst h1 h0 h2 h5 h6 h7 h8 h9 h10
          exact ih yk yo b' yM yf _ _ _ _ _ _ _ _ _ _ _ _ _ (by omega) h3 h4 h11 (by omega)
      | false =>
        rw [if_neg (by decide)]
        have up := mOp_up (tK tx n) (tV tx n) (tS tx n) lw k o M (kd, p0, bg, pr, pd) R false
        have es : mRun (tK tx n) (tV tx n) (tS tx n) lw (f + 1) (false, k, o, M, (kd, p0, bg, pr, pd) :: R) = match mOp (tK tx n) (tV tx n) (tS tx n) lw (false, k, o, M, (kd, p0, bg, pr, pd) :: R) (kd, p0, bg, pr, pd) R with
          | .inl Y => mRun (tK tx n) (tV tx n) (tS tx n) lw f Y
          | .inr r => r := rfl
        obtain ⟨b', a1, a2, a3, a4, a5, a6, a7, a8, a9, a10, a11, a12, a13, a14, a15, a16, a17, a18, a19, a20, e, hE⟩ := r_opd (CS0 := CS0) (CV0 := CV0) hn ht hb hB hB2 hi hG hI hA hlw
        rw [e, obind, es]
        simp only [xu_q]
        cases hs : mOp (tK tx n) (tV tx n) (tS tx n) lw (false, k, o, M, (kd, p0, bg, pr, pd) :: R) (kd, p0, bg, pr, pd) R with
        | inr r =>
          rw [hs] at hE
          exact r_43e g (by omega) _ _ _ _ _ _ _ _ _ _ _ _ _ _ _ _ _ _ _ _ _ _ hE (fun h => absurd h (mOp_nz _ _ _ _ _ _ _ _ hs))
        | inl Y =>
          rw [hs] at hE
          obtain ⟨yb, yk, yo, yM, yf⟩ := Y
          have upk := up _ hs
          obtain ⟨⟨h1, h0⟩, h2, h3, h4, h5, h6, h7, h8, h9, h10, h11⟩ := hE
          dsimp only at h2 h3 h4 h5 h6 h7 h8 h9 h10 h11 upk
          unfold mX12_reads_70
          rw [if_pos rfl, if_pos h1]
          subst h1 h0 h2 h5 h6 h7 h8 h9 h10
          exact ih yk yo b' yM yf _ _ _ _ _ _ _ _ _ _ _ _ _ (by omega) h3 h4 h11 (by omega)
/-- the reference reads a formula: what gRec says -/
theorem r_reads (hn : n ≤ 1600) (ht : ∀ i, i < n → tp i = nI (tx i)) (hb : ∀ i, i < n → tx i < 256) (hB : mOk (tK tx n) B) (hB2 : B ≤ 1600) (hi : i < 2) (hlw : lw < 3) (tst : Bool) (htst : tst = decide (lw ≠ 2)) {k : Nat} (hk : k ≤ B) {sg sa se v : Int32} {w : Int64} {lx : Int32} (hG : oG tx n k sg sa se v w lx) (hc : c0 ≤ k) (d0 o0 q0 : Int32) (b0 : Bool) (fr ph be pa ba op : Nat → Int32) :
    oRd tx n i c0 B CS0 CV0 (nTop (K := tK tx n) (V := tV tx n) (gRec (tK tx n) (tV tx n) (tS tx n) lw 60 (if lw = 2 then 2 else 1) 0 k 0)) (mX12_reads tst (nI n) sg sa se v w 0 oP lx (nI c0) (nI i) (nI lw) d0 o0 q0 b0 tp CS0 CV0 fr ph be pa ba op) := by
  rw [← m_top (St := tS tx n) (lw := lw) hB hB2 lw k hk (B + 2) (Nat.le_refl _)]
  have go := fun (z : Nat) (hz : z = if lw = 2 then 0 else 1) (frr phh bee baa : Nat → Int32) (h1 : frr 0 = nI z) (h2 : phh 0 = 0) (h3 : bee 0 = 1) (h4 : baa 0 = 0) => r_43 (tp := tp) (c0 := c0) (CS0 := CS0) (CV0 := CV0) hn ht hb hB hB2 hi hlw (B + 2) k 0 false [] [(z, 0, true, 0, [])] sg sa se v w lx frr phh bee pa baa op xfuel (by omega)
    ⟨oF_0 z 0 (by rw [hz]; split <;> omega) (by decide), fun q => absurd q (by show ¬ false = true; decide), fun _ => by show z < 2; rw [hz]; split <;> omega, trivial, rfl, by show 0 ≤ 7; omega, hk, by show c0 + 0 + (0 + 0) ≤ k; omega⟩ hG
    ⟨h1, h2, h3, fun q => by have : z < 2 := by (rw [hz]; split <;> omega)
                             have q' : z = 3 ∨ z = 4 ∨ z = 6 := q
                             omega, h4, trivial, trivial⟩ (by unfold xfuel; omega)
  unfold mX12_reads
  rw [if_neg (show ¬ (0 : Int32) < 0 by decide), htst]
  by_cases h2 : lw = 2
  · rw [if_neg (show ¬ decide (lw ≠ 2) = true by simp [h2])]
    unfold mX12_pushes
    rw [if_pos (show xinb (0 : Int32) 20 = true by decide), obind]
    simp only [xu_q]
    rw [if_pos h2]
    exact go 0 (by rw [if_pos h2]) _ _ _ _ pk_us pk_us pk_us pk_us
  · rw [if_pos (show decide (lw ≠ 2) = true by simp [h2])]
    unfold mX12_pushes
    rw [if_pos (show xinb (0 : Int32) 20 = true by decide), obind]
    simp only [xu_q]
    rw [if_neg h2]
    exact go 1 (by rw [if_neg h2]) _ _ _ _ pk_us pk_us pk_us pk_us
end OZ
