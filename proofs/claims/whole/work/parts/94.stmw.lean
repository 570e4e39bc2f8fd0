section RT
variable {tx : Nat → Nat} {n : Nat} {tp : Nat → Int32} {i k : Nat} {CS0 CV0 : Nat → Int32} {T0 : Nat → Nat → Int32} {nm0 : Nat → Int64} {sg sa se v : Int32} {w : Int64} {lx Q trd cds : Int32} {ut to sz tr lk ls rs rt ch sf sb cs cv : Nat → Int32} {nm : Nat → Int64} {P : NP} {L : List (Nat × Nat)}
theorem tK_end : tK tx n k = 0 ↔ ¬ lAt tx n k < n := by
  unfold tK lKd
  by_cases h : lAt tx n k < n
  · rw [if_pos h]
    refine ⟨fun q => ?_, fun q => absurd h q⟩
    by_cases a : lBad tx n (lAt tx n k) = 0
    · rw [if_pos a] at q
      by_cases b : lLt (tx (lAt tx n k)) = true
      · rw [if_pos b] at q
        by_cases c : lOn tx n (lAt tx n k) = 0
        · rw [if_pos c] at q; omega
        · rw [if_neg c] at q; omega
      · rw [if_neg b] at q
        by_cases c : lDg (tx (lAt tx n k)) = true
        · rw [if_pos c] at q; omega
        · rw [if_neg c] at q; omega
    · rw [if_neg a] at q; omega
  · rw [if_neg h]
    exact ⟨fun _ => h, fun _ => rfl⟩
theorem oG_end (hG : oG tx n k sg sa se v w lx) : sg = 0 ↔ tK tx n k = 0 := by
  obtain ⟨v0, w0, e1, _⟩ := oG_eq tx n hG
  rw [e1, tK_end]
  unfold lSn
  by_cases h : lAt tx n k < n
  · rw [if_pos h]
    refine ⟨fun q => ?_, fun q => absurd h q⟩
    by_cases b : lLt (tx (lAt tx n k)) = true
    · rw [if_pos b] at q; exact absurd q (by decide)
    · rw [if_neg b] at q
      by_cases c : lDg (tx (lAt tx n k)) = true
      · rw [if_pos c] at q; exact absurd q (by decide)
      · rw [if_neg c] at q; exact absurd q (by decide)
  · rw [if_neg h]
    exact ⟨fun _ => h, fun _ => rfl⟩
theorem f_17 (hn : n ≤ 1600) (ht : ∀ i, i < n → tp i = nI (tx i)) (hb : ∀ i, i < n → tx i < 256) (mI : Int32) : ∀ (m j g : Nat), j + m = n → m < g → mX12_finishes_17 mI (nI n) sg sa se v w lx tp g (nI j) 0 Q = mX12_finishes_53 mI (nI n) sg sa se v w lx tp (nI (lRun tx lBl m j)) 0 Q := by
  intro m
  induction m with
  | zero =>
    intro j g hj hg
    obtain ⟨g, rfl⟩ : ∃ q, g = q + 1 := ⟨g - 1, by omega⟩
    rw [mX12_finishes_17, if_neg (nI_nlt (by omega) (by omega)), lRun]
  | succ m ih =>
    intro j g hj hg
    obtain ⟨g, rfl⟩ : ∃ q, g = q + 1 := ⟨g - 1, by omega⟩
    have hin : j < n := by omega
    have hb1 := hb j hin
    rw [mX12_finishes_17, if_pos (nI_lt hin (by omega)), zb j 1800 (by omega) (by decide), if_pos rfl, zc j (by omega), ht j hin, nI_1, lRun]
    by_cases h1 : tx j = 32
    · rw [if_pos (show nI (tx j) = 32 by rw [h1]; rfl), if_pos (show lBl (tx j) = true from decide_eq_true (Or.inl h1))]
      exact ih (j + 1) g (by omega) (by omega)
    · rw [if_neg (show ¬ nI (tx j) = 32 from fun q => h1 ((nI_eq (b := 32) (by omega) (by decide)).mp q))]
      by_cases h2 : tx j = 10
      · rw [if_pos (show nI (tx j) = 10 by rw [h2]; rfl), if_pos (show lBl (tx j) = true from decide_eq_true (Or.inr h2))]
        exact ih (j + 1) g (by omega) (by omega)
      · rw [if_neg (show ¬ nI (tx j) = 10 from fun q => h2 ((nI_eq (b := 10) (by omega) (by decide)).mp q)), if_neg (by unfold lBl; rw [decide_eq_false (by omega)]; decide)]
/-- a statement's end -/
theorem fin_bad (hn : n ≤ 1600) (ht : ∀ i, i < n → tp i = nI (tx i)) (hb : ∀ i, i < n → tx i < 256) (hG : oG tx n k sg sa se v w lx) (mI : Int32) (h : ¬ gSg (tK tx n) (tV tx n) k 59 = true) : mX12_finishes mI (nI n) sg sa se v w 0 Q lx tp = some (sg, sa, se, v, w, nI 1, nI (gWh (tK tx n) (tV tx n) (tS tx n) k), lx) := by
  unfold mX12_finishes gWh
  rw [oG_lex tx n hn hG]
  by_cases h1 : tK tx n k = 1
  · rw [if_pos h1, if_pos h1, xlet_eq, xu_q, if_pos (show (0 : Int32) < 1 by decide)]
    rfl
  · obtain ⟨v0, w0, _, _, e3, _⟩ := oG_eq tx n hG
    have hj : lEnd tx n (lAt tx n k) ≤ n := by
      by_cases a : lAt tx n k < n
      · exact (lEnd_le tx n _ a).2
      · unfold lEnd; rw [if_neg a]; exact lAt_le tx n k
    have ws : mX12_isSign (59 : Int32) sg v = gSg (tK tx n) (tV tx n) k 59 := oG_sign tx n hb hG h1 (c := 59) (by decide)
    rw [if_neg h1, if_neg h1, xlet_eq, xu_q, if_neg (show ¬ (0 : Int32) < 0 by decide), e3, f_17 hn ht hb mI (n - lEnd tx n (lAt tx n k)) _ xfuel (by omega) (by unfold xfuel; omega), ← e3]
    unfold mX12_finishes_53 mX12_must
    rw [ws, if_neg h, oG_lex tx n hn hG, if_neg h1, xlet_eq, xu_q, if_neg h, blame_0, xlet_eq, xu_q]
    unfold mX12_must_21
    rw [if_neg (by decide), obind, oG_at hG]
    simp only [xu_q]
    rfl
theorem fin_ok (hn : n ≤ 1600) (ht : ∀ i, i < n → tp i = nI (tx i)) (hb : ∀ i, i < n → tx i < 256) (hG : oG tx n k sg sa se v w lx) (m : Nat) (hm : m ≤ 81) (h : gSg (tK tx n) (tV tx n) k 59 = true) :
    (¬ (m = 80 ∧ tK tx n (k + 1) ≠ 0) → ∃ (a b c d : Int32) (e : Int64) (f : Int32), mX12_finishes (nI m) (nI n) sg sa se v w 0 Q lx tp = some (a, b, c, d, e, 0, Q, f) ∧ oG tx n (k + 1) a b c d e f) ∧
    ((m = 80 ∧ tK tx n (k + 1) ≠ 0) → mX12_finishes (nI m) (nI n) sg sa se v w 0 Q lx tp = some (sg, sa, se, v, w, nI 6, nI (tS tx n (k + 1)), lx)) := by
  have h1 : tK tx n k ≠ 1 := by have := (gSg_K h).1; omega
  obtain ⟨v0, w0, _, _, e3, _⟩ := oG_eq tx n hG
  have hj : lEnd tx n (lAt tx n k) ≤ n := by
    by_cases a : lAt tx n k < n
    · exact (lEnd_le tx n _ a).2
    · unfold lEnd; rw [if_neg a]; exact lAt_le tx n k
  have ws : mX12_isSign (59 : Int32) sg v = gSg (tK tx n) (tV tx n) k 59 := oG_sign tx n hb hG h1 (c := 59) (by decide)
  obtain ⟨a, b, c, d, e, f, g1, g2⟩ := oG_next tx n tp hn ht hb hG
  have ej : lRun tx lBl (n - lEnd tx n (lAt tx n k)) (lEnd tx n (lAt tx n k)) = lAt tx n (k + 1) := rfl
  have lj := lAt_le tx n (k + 1)
  have em : (nI m = (80 : Int32)) ↔ m = 80 := nI_eq (b := 80) (by omega) (by decide)
  have go : ∀ X : Int32 × Int32 × Int32 × Int32 × Int64 × Int32 × Int32 × Int32, (mX12_must (59 : Int32) (nI n) sg sa se v w 0 Q lx tp).bind (xu fun q1 => xu fun q2 => xu fun q3 => xu fun q4 => xu fun q5 => xu fun q6 => xu fun q7 => fun q8 => some (q1, q2, q3, q4, q5, q6, q7, q8)) = some (a, b, c, d, e, 0, Q, f) := fun _ => by
    unfold mX12_must
    rw [oG_lex tx n hn hG, if_neg h1, xlet_eq, xu_q, ws, if_pos h]
    unfold mX12_must_21
    rw [if_pos rfl, g1, obind]
    simp only [xu_q]
    rw [obind]
    simp only [xu_q]
  have go' := go (0, 0, 0, 0, 0, 0, 0, 0)
  unfold mX12_finishes
  rw [oG_lex tx n hn hG, if_neg h1, xlet_eq, xu_q, if_neg (show ¬ (0 : Int32) < 0 by decide)]
  rw [show mX12_finishes_17 (nI m) (nI n) sg sa se v w lx tp xfuel se 0 Q = mX12_finishes_53 (nI m) (nI n) sg sa se v w lx tp (nI (lAt tx n (k + 1))) 0 Q by
    conv => lhs; rw [e3]
    rw [f_17 hn ht hb (nI m) (n - lEnd tx n (lAt tx n k)) _ xfuel (by omega) (by unfold xfuel; omega), ej, ← e3]]
  unfold mX12_finishes_53
  rw [ws, if_pos h]
  refine ⟨fun q => ⟨a, b, c, d, e, f, ?_, g2⟩, fun q => ?_⟩
  · by_cases m80 : m = 80
    · have z : ¬ lAt tx n (k + 1) < n := tK_end.mp (Classical.byContradiction (fun y => q ⟨m80, y⟩))
      rw [if_pos (em.mpr m80), if_neg (nI_nlt (by omega) (by omega))]
      exact go'
    · rw [if_neg (fun y => m80 (em.mp y))]
      exact go'
  · have z : lAt tx n (k + 1) < n := Classical.byContradiction (fun y => q.2 (tK_end.mpr y))
    rw [if_pos (em.mpr q.1), if_pos (nI_lt z (by omega)), blame_0, xlet_eq, xu_q]
    unfold mX12_must
    rw [d_lex _ _ (by decide), xlet_eq, xu_q, ws, if_pos h]
    unfold mX12_must_21
    rw [if_neg (by decide), obind]
    simp only [xu_q]
    rfl
/-- what a statement other than the first tells -/
def nTel (K V St : Nat → Nat) (k : Nat) (P : NP) (L : List (Nat × Nat)) : NS := if gOw K V k 0 = true then sBad 1 (gWh K V St k) P else nTell K V St k P L
theorem nStat_z (K V St : Nat → Nat) (k : Nat) (P : NP) (L : List (Nat × Nat)) : nStat K V St false k P L = (if (nTel K V St k P L).1 = 0 then nSgn K V St (nTel K V St k P L).2.2.1 59 (sOk ((nTel K V St k P L).2.2.1 + 1) (gset (nTel K V St k P L).2.2.2.1 0 2 ((nTel K V St k P L).2.2.2.1 0 2 + 1)) (nTel K V St k P L).2.2.2.2) (nTel K V St k P L).2.2.2.1 else nTel K V St k P L) := by
  unfold nStat nTel
  by_cases h : gOw K V k 0 = true
  · rw [if_pos h, if_neg (show ¬ gOw K V k 0 = false by rw [h]; decide), if_neg (show ¬ (sBad 1 (gWh K V St k) P).1 = 0 from fun e => absurd e (show ¬ (1 : Nat) = 0 by decide))]
  · rw [if_neg h, if_pos (Bool.eq_false_iff.mpr h)]
theorem rt_state (hn : n ≤ 1600) (ht : ∀ i, i < n → tp i = nI (tx i)) (hb : ∀ i, i < n → tx i < 256) (hi : i < 2) {B : Nat} (hB : mOk (tK tx n) B) (hB2 : B ≤ 1600) (hk : k ≤ B) (hL : L.length ≤ k) (hG : oG tx n k sg sa se v w lx) (hP : nOkP P L) (h4 : rP4 P) (hO : rOut i (tB ut to sz tr lk ls rs rt ch sf sb cs cv) T0 nm nm0) (hR : rPl tx n i P L CS0 CV0 trd cds (tB ut to sz tr lk ls rs rt ch sf sb cs cv) nm) (law d0 o0 q0 : Int32) (b0 : Bool) (fr ph be pa ba op : Nat → Int32) :
    ∃ (a b c d : Int32) (e : Int64) (F Q' f cds' trd' law' d' o' q' : Int32) (b' : Bool) (to' sz' tr' lk' ls' rs' rt' ch' sf' sb' cs' cv' : Nat → Int32) (nm' : Nat → Int64) (fr' ph' be' pa' ba' op' : Nat → Int32), mX12_statement (nI n) sg sa se v w 0 oP lx cds (nI i) trd law d0 o0 q0 b0 tp ut to sz tr lk ls rs rt ch sf sb cs cv nm fr ph be pa ba op = some (a, b, c, d, e, F, Q', f, cds', trd', law', d', o', q', b', to', sz', tr', lk', ls', rs', rt', ch', sf', sb', cs', cv', nm', fr', ph', be', pa', ba', op') ∧ rJ tx n i CS0 CV0 T0 nm0 (nTel (tK tx n) (tV tx n) (tS tx n) k P L) a b c d e F Q' f trd' cds' (tB ut to' sz' tr' lk' ls' rs' rt' ch' sf' sb' cs' cv') nm' := by
  unfold mX12_statement nTel nTell
  rw [oG_lex tx n hn hG]
  by_cases h1 : tK tx n k = 1
  · rw [if_pos h1, xlet_eq, xu_q, if_pos (show (0 : Int32) < 1 by decide)]
    refine ⟨_, _, _, _, _, _, _, _, _, _, _, _, _, _, _, _, _, _, _, _, _, _, _, _, _, _, _, _, _, _, _, _, _, _, rfl, ?_⟩
    have no := fun x => gOw_no (K := tK tx n) (V := tV tx n) (k := k) (by omega) x
    simp only [no, Bool.false_eq_true, if_false]
    refine rJ_bad hO (by decide) (by decide) rfl ?_
    unfold gWh
    rw [if_pos h1]
  rw [if_neg h1, xlet_eq, xu_q, if_neg (show ¬ (0 : Int32) < 0 by decide)]
  rw [show mX12_isWord (499967946343 : Int64) sg w = gOw (tK tx n) (tV tx n) k 1 from oG_word tx n hG h1 (x := 1) (by decide)]
  rw [show mX12_isWord (1852143732 : Int64) sg w = gOw (tK tx n) (tV tx n) k 3 from oG_word tx n hG h1 (x := 3) (by decide)]
  rw [show mX12_isWord (1818848875 : Int64) sg w = gOw (tK tx n) (tV tx n) k 4 from oG_word tx n hG h1 (x := 4) (by decide)]
  rw [show mX12_isWord (1919905652 : Int64) sg w = gOw (tK tx n) (tV tx n) k 6 from oG_word tx n hG h1 (x := 6) (by decide)]
  rw [show mX12_isWord (426954289774 : Int64) sg w = gOw (tK tx n) (tV tx n) k 7 from oG_word tx n hG h1 (x := 7) (by decide)]
  rw [show mX12_isWord (1886351475 : Int64) sg w = gOw (tK tx n) (tV tx n) k 8 from oG_word tx n hG h1 (x := 8) (by decide)]
  rw [show mX12_isWord (440005915496 : Int64) sg w = gOw (tK tx n) (tV tx n) k 9 from oG_word tx n hG h1 (x := 9) (by decide)]
  rw [show mX12_isWord (427071599731 : Int64) sg w = gOw (tK tx n) (tV tx n) k 10 from oG_word tx n hG h1 (x := 10) (by decide)]
  by_cases h0 : gOw (tK tx n) (tV tx n) k 0 = true
  · have k4 := gOw_K h0
    have no : ∀ x, x ≠ 0 → gOw (tK tx n) (tV tx n) k x = false := fun x hx => by
      rw [ow_of k4.1, k4.2]
      exact decide_eq_false (fun q => hx q.symm)
    rw [if_pos h0, no 1 (by decide), no 3 (by decide), no 4 (by decide), no 6 (by decide), no 7 (by decide), no 8 (by decide), no 9 (by decide), no 10 (by decide)]
    simp only [Bool.false_eq_true, if_false]
    rw [blame_0, xlet_eq, xu_q]
    refine ⟨_, _, _, _, _, _, _, _, _, _, _, _, _, _, _, _, _, _, _, _, _, _, _, _, _, _, _, _, _, _, _, _, _, _, rfl, rJ_bad hO (by decide) (by decide) rfl ?_⟩
    unfold gWh
    rw [if_neg h1]
    exact oG_at hG
  rw [if_neg h0, if_neg h0]
  by_cases y1w : gOw (tK tx n) (tV tx n) k 1 = true
  · have hkB : k < B := hB k hk (by have := (gOw_K y1w).1; omega)
    obtain ⟨z0, z1, z2, z3, z4, z5, z6, z7, z8, z9, z10, z11, z12, zz, zr⟩ := rt_thing (CS0 := CS0) (CV0 := CV0) hn ht hb hi hG hP h4 hO hR
    rw [if_pos y1w, if_pos y1w, zz, obind]
    simp only [xu_q]
    exact ⟨_, _, _, _, _, _, _, _, _, _, _, _, _, _, _, _, _, _, _, _, _, _, _, _, _, _, _, _, _, _, _, _, _, _, rfl, zr⟩
  rw [if_neg y1w, if_neg y1w]
  by_cases y3w : gOw (tK tx n) (tV tx n) k 3 = true
  · have hkB : k < B := hB k hk (by have := (gOw_K y3w).1; omega)
    obtain ⟨z0, z1, z2, z3, z4, z5, z6, z7, z8, zz, zr⟩ := rt_next (CS0 := CS0) (CV0 := CV0) hn ht hb hi hG hP h4 hO hR
    rw [if_pos y3w, if_pos y3w, zz, obind]
    simp only [xu_q]
    exact ⟨_, _, _, _, _, _, _, _, _, _, _, _, _, _, _, _, _, _, _, _, _, _, _, _, _, _, _, _, _, _, _, _, _, _, rfl, zr⟩
  rw [if_neg y3w, if_neg y3w]
  by_cases y4w : gOw (tK tx n) (tV tx n) k 4 = true
  · have hkB : k < B := hB k hk (by have := (gOw_K y4w).1; omega)
    obtain ⟨z0, z1, z2, z3, z4, z5, z6, z7, z8, z9, zz, zr⟩ := rt_link (CS0 := CS0) (CV0 := CV0) hn ht hb hi hG hP h4 hO hR
    rw [if_pos y4w, if_pos y4w, zz, obind]
    simp only [xu_q]
    exact ⟨_, _, _, _, _, _, _, _, _, _, _, _, _, _, _, _, _, _, _, _, _, _, _, _, _, _, _, _, _, _, _, _, _, _, rfl, zr⟩
  rw [if_neg y4w, if_neg y4w]
  by_cases y6w : gOw (tK tx n) (tV tx n) k 6 = true
  · have hkB : k < B := hB k hk (by have := (gOw_K y6w).1; omega)
    obtain ⟨z0, z1, z2, z3, z4, z5, z6, z7, z8, z9, zz, zr⟩ := rt_root (CS0 := CS0) (CV0 := CV0) hn ht hb hi hG hP h4 hO hR
    rw [if_pos y6w, if_pos y6w, zz, obind]
    simp only [xu_q]
    exact ⟨_, _, _, _, _, _, _, _, _, _, _, _, _, _, _, _, _, _, _, _, _, _, _, _, _, _, _, _, _, _, _, _, _, _, rfl, zr⟩
  rw [if_neg y6w, if_neg y6w]
  by_cases y7w : gOw (tK tx n) (tV tx n) k 7 = true
  · have hkB : k < B := hB k hk (by have := (gOw_K y7w).1; omega)
    obtain ⟨z0, z1, z2, z3, z4, z5, z6, z7, z8, zz, zr⟩ := rt_churn (CS0 := CS0) (CV0 := CV0) hn ht hb hi hG hP h4 hO hR
    rw [if_pos y7w, if_pos y7w, zz, obind]
    simp only [xu_q]
    exact ⟨_, _, _, _, _, _, _, _, _, _, _, _, _, _, _, _, _, _, _, _, _, _, _, _, _, _, _, _, _, _, _, _, _, _, rfl, zr⟩
  rw [if_neg y7w, if_neg y7w]
  by_cases y8w : gOw (tK tx n) (tV tx n) k 8 = true
  · have hkB : k < B := hB k hk (by have := (gOw_K y8w).1; omega)
    obtain ⟨z0, z1, z2, z3, z4, z5, z6, z7, z8, z9, z10, z11, z12, z13, z14, z15, z16, z17, z18, z19, z20, z21, z22, z23, zz, zr⟩ := rt_form (CS0 := CS0) (CV0 := CV0) hn ht hb hi hB hB2 hkB hL hG hP h4 hO hR 0 (by decide) law d0 o0 q0 b0 fr ph be pa ba op
    rw [if_pos y8w, if_pos y8w, show mX12_reading (0 : Int32) (nI n) sg sa se v w 0 oP lx cds (nI i) law d0 o0 q0 b0 tp sf sb cs cv fr ph be pa ba op = _ from zz, obind]
    simp only [xu_q]
    exact ⟨_, _, _, _, _, _, _, _, _, _, _, _, _, _, _, _, _, _, _, _, _, _, _, _, _, _, _, _, _, _, _, _, _, _, rfl, zr⟩
  rw [if_neg y8w, if_neg y8w]
  by_cases y9w : gOw (tK tx n) (tV tx n) k 9 = true
  · have hkB : k < B := hB k hk (by have := (gOw_K y9w).1; omega)
    obtain ⟨z0, z1, z2, z3, z4, z5, z6, z7, z8, z9, z10, z11, z12, z13, z14, z15, z16, z17, z18, z19, z20, z21, z22, z23, zz, zr⟩ := rt_form (CS0 := CS0) (CV0 := CV0) hn ht hb hi hB hB2 hkB hL hG hP h4 hO hR 1 (by decide) law d0 o0 q0 b0 fr ph be pa ba op
    rw [if_pos y9w, if_pos y9w, show mX12_reading (1 : Int32) (nI n) sg sa se v w 0 oP lx cds (nI i) law d0 o0 q0 b0 tp sf sb cs cv fr ph be pa ba op = _ from zz, obind]
    simp only [xu_q]
    exact ⟨_, _, _, _, _, _, _, _, _, _, _, _, _, _, _, _, _, _, _, _, _, _, _, _, _, _, _, _, _, _, _, _, _, _, rfl, zr⟩
  rw [if_neg y9w, if_neg y9w]
  by_cases y10w : gOw (tK tx n) (tV tx n) k 10 = true
  · have hkB : k < B := hB k hk (by have := (gOw_K y10w).1; omega)
    obtain ⟨z0, z1, z2, z3, z4, z5, z6, z7, z8, z9, z10, z11, z12, z13, z14, z15, z16, z17, z18, z19, z20, z21, z22, z23, zz, zr⟩ := rt_form (CS0 := CS0) (CV0 := CV0) hn ht hb hi hB hB2 hkB hL hG hP h4 hO hR 2 (by decide) law d0 o0 q0 b0 fr ph be pa ba op
    rw [if_pos y10w, if_pos y10w, show mX12_reading (2 : Int32) (nI n) sg sa se v w 0 oP lx cds (nI i) law d0 o0 q0 b0 tp sf sb cs cv fr ph be pa ba op = _ from zz, obind]
    simp only [xu_q]
    exact ⟨_, _, _, _, _, _, _, _, _, _, _, _, _, _, _, _, _, _, _, _, _, _, _, _, _, _, _, _, _, _, _, _, _, _, rfl, zr⟩
  rw [if_neg y10w, if_neg y10w]
  rw [blame_0, xlet_eq, xu_q]
  refine ⟨_, _, _, _, _, _, _, _, _, _, _, _, _, _, _, _, _, _, _, _, _, _, _, _, _, _, _, _, _, _, _, _, _, _, rfl, rJ_bad hO (by decide) (by decide) rfl ?_⟩
  unfold gWh
  rw [if_neg h1]
  exact oG_at hG
end RT
