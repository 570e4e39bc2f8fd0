/-- rows of a bank, the other bank staying -/
def rFr (s i : Nat) (A A0 : Nat → Int32) : Prop := ∀ j, (j < s * i ∨ s * (i + 1) ≤ j) → A j = A0 j
def rFrL (s i : Nat) (A A0 : Nat → Int64) : Prop := ∀ j, (j < s * i ∨ s * (i + 1) ≤ j) → A j = A0 j
theorem rFr_rf (s i : Nat) (A : Nat → Int32) : rFr s i A A := fun _ _ => rfl
theorem rFrL_rf (s i : Nat) (A : Nat → Int64) : rFrL s i A A := fun _ _ => rfl
theorem rFr_u {s i : Nat} {A A0 : Nat → Int32} (h : rFr s i A A0) {j : Nat} (x : Int32) (h1 : s * i ≤ j) (h2 : j < s * (i + 1)) : rFr s i (upd A j x) A0 := fun q hq => by
  rw [pk_un (by omega)]; exact h q hq
theorem rFrL_u {s i : Nat} {A A0 : Nat → Int64} (h : rFrL s i A A0) {j : Nat} (x : Int64) (h1 : s * i ≤ j) (h2 : j < s * (i + 1)) : rFrL s i (vp_updL A j x) A0 := fun q hq => by
  rw [pk_uLn (by omega)]; exact h q hq
/-- what the reference was told: 0 units, 1 how many, 2 sizes, 3 trains, 4 links, 5 how many links, 6 how many roots, 7 roots, 8 churn, 9, 10 where sums are, 11, 12 codes -/
def tB (ut to sz tr lk ls rs rt ch sf sb cs cv : Nat → Int32) : Nat → Nat → Int32 := fun a => [ut, to, sz, tr, lk, ls, rs, rt, ch, sf, sb, cs, cv].getD a cv
def rOut (i : Nat) (T T0 : Nat → Nat → Int32) (nm nm0 : Nat → Int64) : Prop :=
  rFr 1 i (T 0) (T0 0) ∧ rFr 1 i (T 1) (T0 1) ∧ rFr 24 i (T 2) (T0 2) ∧ rFr 24 i (T 3) (T0 3) ∧ rFr 96 i (T 4) (T0 4) ∧ rFr 24 i (T 5) (T0 5) ∧ rFr 1 i (T 6) (T0 6) ∧ rFr 8 i (T 7) (T0 7) ∧ rFr 1 i (T 8) (T0 8) ∧ rFr 3 i (T 9) (T0 9) ∧ rFr 3 i (T 10) (T0 10) ∧ rFr 1600 i (T 11) (T0 11) ∧ rFr 1600 i (T 12) (T0 12) ∧ rFrL 24 i nm nm0
/-- the train of a thing that is told, of the next one -/
def gTrn (P : NP) : Nat → Nat
  | 0 => 0
  | t + 1 => gTrn P t + P 3 (t + 1)
def gTrD (P : NP) : Nat := if P 0 3 = 0 then 0 else gTrn P (P 0 3 - 1) + P 0 5
def rP4 (P : NP) : Prop := ∀ t, P 0 3 ≤ t → P 4 t = 0
/-- the plan as the reference holds it -/
def rPl (tx : Nat → Nat) (n i : Nat) (P : NP) (L : List (Nat × Nat)) (CS0 CV0 : Nat → Int32) (trd cds : Int32) (T : Nat → Nat → Int32) (nm : Nat → Int64) : Prop :=
  T 0 i = nI (P 0 0) ∧ T 1 i = nI (P 0 3) ∧ T 6 i = nI (P 0 4) ∧ T 8 i = nI (P 0 1) ∧ cds = nI L.length ∧ trd = nI (gTrD P) ∧
  (∀ t, t < P 0 3 → T 2 (24 * i + t) = nI (P 2 t) ∧ T 3 (24 * i + t) = nI (gTrn P t) ∧ T 5 (24 * i + t) = nI (P 4 t)) ∧
  (∀ t k, t < P 0 3 → k < P 4 t → T 4 (4 * (24 * i + t) + k) = nI (P 5 (4 * t + k) - 1)) ∧
  (∀ k, k < P 0 4 → T 7 (8 * i + k) = nI (P 7 k - 1)) ∧
  (∀ w, w < 3 → T 9 (3 * i + w) = (if P 9 w = 0 then -1 else nI (P 8 w)) ∧ (P 9 w ≠ 0 → T 10 (3 * i + w) = nI (P 8 w + P 9 w))) ∧
  T 11 = rput CS0 (1600 * i) (oSo L) ∧ T 12 = rput CV0 (1600 * i) (oVa L) ∧ rNm tx n i P nm
/-- what a statement comes to with the reference -/
def rJ (tx : Nat → Nat) (n i : Nat) (CS0 CV0 : Nat → Int32) (T0 : Nat → Nat → Int32) (nm0 : Nat → Int64) (r : NS) (sg sa se v : Int32) (w : Int64) (F Q lx trd cds : Int32) (T : Nat → Nat → Int32) (nm : Nat → Int64) : Prop :=
  rOut i T T0 nm nm0 ∧ ((r.1 = 0 ∧ (F = 0 ∧ Q = oP) ∧ oG tx n r.2.2.1 sg sa se v w lx ∧ rPl tx n i r.2.2.2.1 r.2.2.2.2 CS0 CV0 trd cds T nm ∧ rP4 r.2.2.2.1) ∨ (r.1 ≠ 0 ∧ r.1 < 10 ∧ F = nI r.1 ∧ Q = nI r.2.1) ∨ (r.1 = 0 ∧ tK tx n r.2.2.1 = 1 ∧ F = nI 1 ∧ Q = nI (tV tx n r.2.2.1)))
theorem gTrn_cong {P Q : NP} : ∀ t, (∀ s, 1 ≤ s → s ≤ t → P 3 s = Q 3 s) → gTrn P t = gTrn Q t
  | 0, _ => rfl
  | t + 1, h => by rw [gTrn, gTrn, gTrn_cong t (fun s h1 h2 => h s h1 (by omega)), h (t + 1) (by omega) (by omega)]
theorem gTrn_le {P : NP} (h : ∀ t, P 3 t ≤ 1) : ∀ t, gTrn P t ≤ t
  | 0 => Nat.le_refl _
  | t + 1 => by
    have a := gTrn_le h t
    have b := h (t + 1)
    rw [gTrn]; omega
section RT
variable {tx : Nat → Nat} {n : Nat} {tp : Nat → Int32} {i k : Nat} {CS0 CV0 : Nat → Int32} {T0 : Nat → Nat → Int32} {nm0 : Nat → Int64} {sg sa se v : Int32} {w : Int64} {lx Q trd cds : Int32} {ut to sz tr lk ls rs rt ch sf sb cs cv : Nat → Int32} {nm : Nat → Int64} {P : NP} {L : List (Nat × Nat)}
theorem rJ_bad {T : Nat → Nat → Int32} {f p : Nat} {P : NP} {F Q : Int32} {sg sa se v : Int32} {w : Int64} {lx trd cds : Int32} (h : rOut i T T0 nm nm0) (hf : f ≠ 0) (hf2 : f < 10) (h7 : F = nI f) (h8 : Q = nI p) : rJ tx n i CS0 CV0 T0 nm0 (sBad f p P) sg sa se v w F Q lx trd cds T nm :=
  ⟨h, Or.inr (Or.inl ⟨hf, hf2, h7, h8⟩)⟩
theorem e24 (i t : Nat) : (24 : Int32) * nI i + nI t = nI (24 * i + t) := by
  rw [show (24 : Int32) = nI 24 from rfl, pk_mul, nI_add]
theorem rPl_thing (hP : nOkP P L) (hi : i < 2) (hR : rPl tx n i P L CS0 CV0 trd cds (tB ut to sz tr lk ls rs rt ch sf sb cs cv) nm) (h4 : rP4 P) (k x : Nat) (h3 : tK tx n (k + 1) = 3) :
    rPl tx n i (gset (gset (gset (gset (gset (gset P 1 (P 0 3) (tV tx n (k + 1))) 6 (P 0 3) (k + 1)) 2 (P 0 3) x) 3 (P 0 3) (P 0 5)) 0 5 0) 0 3 (P 0 3 + 1)) L CS0 CV0 trd cds
      (tB ut (upd to i (nI (P 0 3) + 1)) (upd sz (24 * i + P 0 3) (nI x)) (upd tr (24 * i + P 0 3) trd) lk (upd ls (24 * i + P 0 3) 0) rs rt ch sf sb cs cv) (vp_updL nm (24 * i + P 0 3) (lN (lWd tx n (lAt tx n (k + 1))))) := by
  obtain ⟨p1, p2, p3, p4, p5, p6, p7, p8, p9, p10, p11⟩ := hP
  obtain ⟨r0, r1, r6, r8, rc, rtd, rt2, rt4, rt7, rt9, r11, r12, rnm⟩ := hR
  generalize hm : P 0 3 = m at *
  have cell : ∀ a b, (gset (gset (gset (gset (gset (gset P 1 m (tV tx n (k + 1))) 6 m (k + 1)) 2 m x) 3 m (P 0 5)) 0 5 0) 0 3 (m + 1)) a b = if a = 0 ∧ b = 3 then m + 1 else if a = 0 ∧ b = 5 then 0 else if a = 3 ∧ b = m then P 0 5 else if a = 2 ∧ b = m then x else if a = 6 ∧ b = m then k + 1 else if a = 1 ∧ b = m then tV tx n (k + 1) else P a b := fun a b => rfl
  generalize hQ : (gset (gset (gset (gset (gset (gset P 1 m (tV tx n (k + 1))) 6 m (k + 1)) 2 m x) 3 m (P 0 5)) 0 5 0) 0 3 (m + 1)) = Q at *
  have c03 : Q 0 3 = m + 1 := cell 0 3
  have c05 : Q 0 5 = 0 := cell 0 5
  have c3 : Q 3 m = P 0 5 := by rw [cell]; simp
  have c3n : ∀ s, s < m → Q 3 s = P 3 s := fun s hs => by rw [cell]; simp [Nat.ne_of_lt hs]
  have c2 : Q 2 m = x := by rw [cell]; simp
  have c2n : ∀ s, s < m → Q 2 s = P 2 s := fun s hs => by rw [cell]; simp [Nat.ne_of_lt hs]
  have c6 : Q 6 m = k + 1 := by rw [cell]; simp
  have c6n : ∀ s, s < m → Q 6 s = P 6 s := fun s hs => by rw [cell]; simp [Nat.ne_of_lt hs]
  have c1 : Q 1 m = tV tx n (k + 1) := by rw [cell]; simp
  have c1n : ∀ s, s < m → Q 1 s = P 1 s := fun s hs => by rw [cell]; simp [Nat.ne_of_lt hs]
  have trn : ∀ t, t < m → gTrn Q t = gTrn P t := fun t ht => gTrn_cong t (fun s h1 h2 => c3n s (by omega))
  have trm : gTrn Q m = gTrD P := by
    unfold gTrD
    rw [hm]
    cases m with
    | zero => rfl
    | succ q => rw [if_neg (by omega), gTrn, trn q (by omega), c3, Nat.add_sub_cancel]
  have trd' : trd = nI (gTrn Q m) := by rw [trm]; exact rtd
  refine ⟨(cell 0 0).symm ▸ r0, ?_, (cell 0 4).symm ▸ r6, (cell 0 1).symm ▸ r8, rc, ?_, fun t ht => ?_, fun t q ht hq => ?_, fun q hq => ?_, fun q hq => ?_, r11, r12, fun t ht => ?_⟩
  · rw [c03]
    show upd to i (nI m + 1) i = nI (m + 1)
    rw [pk_us, nI_1]
  · unfold gTrD
    rw [c03, c05, if_neg (by omega), Nat.add_sub_cancel, Nat.add_zero]
    exact trd'
  · rw [c03] at ht
    have e4 : Q 4 t = P 4 t := cell 4 t
    rw [e4]
    show upd sz (24 * i + m) (nI x) (24 * i + t) = nI (Q 2 t) ∧ upd tr (24 * i + m) trd (24 * i + t) = nI (gTrn Q t) ∧ upd ls (24 * i + m) 0 (24 * i + t) = nI (P 4 t)
    by_cases z : t = m
    · subst z
      rw [pk_us, pk_us, pk_us, c2, h4 t (by omega)]
      exact ⟨rfl, trd', rfl⟩
    · rw [pk_un (by omega), pk_un (by omega), pk_un (by omega), c2n t (by omega), trn t (by omega)]
      exact rt2 t (by omega)
  · rw [c03] at ht
    have e4 : Q 4 t = P 4 t := cell 4 t
    have e5 : Q 5 (4 * t + q) = P 5 (4 * t + q) := cell 5 _
    rw [e4] at hq
    rw [e5]
    have : t < m := by
      refine Classical.byContradiction (fun z => ?_)
      have := h4 t (by omega)
      omega
    exact rt4 t q this hq
  · have e4 : Q 0 4 = P 0 4 := cell 0 4
    have e7 : Q 7 q = P 7 q := cell 7 q
    rw [e4] at hq
    rw [e7]
    exact rt7 q hq
  · have e9 : Q 9 q = P 9 q := cell 9 q
    have e8 : Q 8 q = P 8 q := cell 8 q
    rw [e9, e8]
    exact rt9 q hq
  · rw [c03] at ht
    by_cases z : t = m
    · subst z
      rw [pk_uLs, c6, c1]
      exact ⟨rfl, h3, rfl⟩
    · rw [pk_uLn (by omega), c6n t (by omega), c1n t (by omega)]
      exact rnm t (by omega)
theorem rt_thing (hn : n ≤ 1600) (ht : ∀ i, i < n → tp i = nI (tx i)) (hb : ∀ i, i < n → tx i < 256) (hi : i < 2) (hG : oG tx n k sg sa se v w lx) (hP : nOkP P L) (h4 : rP4 P) (hO : rOut i (tB ut to sz tr lk ls rs rt ch sf sb cs cv) T0 nm nm0) (hR : rPl tx n i P L CS0 CV0 trd cds (tB ut to sz tr lk ls rs rt ch sf sb cs cv) nm) :
    ∃ (a b c d : Int32) (e : Int64) (F Q' f : Int32) (to' sz' tr' ls' : Nat → Int32) (nm' : Nat → Int64), mX12_thingIs (nI n) sg sa se v w 0 oP lx (nI i) trd tp ut to sz tr ls nm = some (a, b, c, d, e, F, Q', f, to', sz', tr', ls', nm') ∧ rJ tx n i CS0 CV0 T0 nm0 (nThing (tK tx n) (tV tx n) (tS tx n) k P L) a b c d e F Q' f trd cds (tB ut to' sz' tr' lk ls' rs rt ch sf sb cs cv) nm' := by
  have hP' := hP
  obtain ⟨p1, p2, p3, p4, p5, p6, p7, p8, p9, p10, p11⟩ := hP
  obtain ⟨r0, r1, r6, r8, rc, rtd, rt2, rt4, rt7, rt9, r11, r12, rnm⟩ := id hR
  have x0 : ut i = nI (P 0 0) := r0
  have x1 : to i = nI (P 0 3) := r1
  unfold mX12_thingIs nThing
  rw [if_pos (zb _ _ hi (by decide)), zc _ (by omega), x1]
  by_cases h24 : 24 ≤ P 0 3
  · rw [if_pos h24, if_pos (show nI (P 0 3) = 24 by rw [show P 0 3 = 24 by omega]; rfl)]
    unfold mX12_thingIs_20
    rw [(k_count hn ht hb hG true oP).1 rfl, obind]
    simp only [xu_q]
    rw [if_neg (by decide)]
    exact ⟨_, _, _, _, _, _, _, _, _, _, _, _, _, rfl, rJ_bad hO (by decide) (by decide) rfl rfl⟩
  rw [if_neg h24, if_neg (show ¬ nI (P 0 3) = 24 from fun z => h24 (by have := (nI_eq (b := 24) (by omega) (by decide)).mp z; omega))]
  obtain ⟨a, b, c, d, e, f, g1, g2⟩ := (k_count hn ht hb hG false oP).2 rfl
  unfold mX12_thingIs_20
  rw [g1, obind]
  simp only [xu_q]
  rw [if_pos True.intro, oG_lex tx n hn g2]
  by_cases h1 : tK tx n (k + 1) = 1
  · rw [if_pos h1, xlet_eq, xu_q, if_pos (show (0 : Int32) < 1 by decide), if_neg (by omega)]
    refine ⟨_, _, _, _, _, _, _, _, _, _, _, _, _, rfl, rJ_bad hO (by decide) (by decide) rfl ?_⟩
    unfold gWh
    rw [if_pos h1]
  rw [if_neg h1, xlet_eq, xu_q, if_neg (show ¬ (0 : Int32) < 0 by decide)]
  have nu := oG_name g2 h1
  by_cases h3 : tK tx n (k + 1) = 3
  · have own := nu.1.mpr h3
    have we := nu.2 h3
    have nle : nNamed P (tV tx n (k + 1)) ≤ 24 := by
      have := (nNam_le P (tV tx n (k + 1)) 24 0).1
      unfold nNamed
      omega
    rw [if_pos own.1, own.2, if_neg (by decide), if_pos h3]
    unfold mX12_thingIs_67
    rw [if_pos rfl, we, k_named hi p4 x1 rnm h3, obind]
    by_cases hz : nNamed P (tV tx n (k + 1)) = 0
    · rw [hz, if_pos (show bno 0 = -1 from rfl), if_pos rfl]
      unfold mX12_thingIs_95
      rw [if_neg (show ¬ (0 : Int32) < 0 by decide), zc _ (by omega), x1, e24, if_pos (zb _ _ (by omega) (by decide)), zc _ (by omega)]
      obtain ⟨a2, b2, c2, d2, e2, f2, g3, g4⟩ := oG_next tx n tp hn ht hb g2
      rw [we] at g3
      rw [g3, obind]
      simp only [xu_q]
      have mw := k_mustWord (k := k + 2) hn ht hb g4 (x := 2) (by decide) oP
      rw [show (1936292453 : Int64) = lN (oNum 2) from rfl]
      have upo : ∀ (x : Int32), rOut i (tB ut to (upd sz (24 * i + P 0 3) x) (upd tr (24 * i + P 0 3) trd) lk (upd ls (24 * i + P 0 3) 0) rs rt ch sf sb cs cv) T0 (vp_updL nm (24 * i + P 0 3) (lN (lWd tx n (lAt tx n (k + 1))))) nm0 := fun x => by
        obtain ⟨q0, q1, q2, q3, q4, q5, q6, q7, q8, q9, q10, q11, q12, q13⟩ := hO
        exact ⟨q0, q1, rFr_u q2 _ (by omega) (by omega), rFr_u q3 _ (by omega) (by omega), q4, rFr_u q5 _ (by omega) (by omega), q6, q7, q8, q9, q10, q11, q12, rFrL_u q13 _ (by omega) (by omega)⟩
      unfold nOwn
      by_cases h2 : gOw (tK tx n) (tV tx n) (k + 2) 2 = true
      · obtain ⟨a3, b3, c3, d3, e3, f3, g5, g6⟩ := mw.1 h2
        rw [g5, obind]
        simp only [xu_q]
        have nb := k_number (k := k + 3) hn ht hb g6 1 (P 0 0) (by decide) (by omega) oP
        rw [x0, if_pos h2]
        unfold nNum
        rw [show (1 : Int32) = nI 1 from rfl]
        by_cases h5 : tK tx n (k + 3) = 2
        · rw [if_pos h5]
          by_cases h6 : tV tx n (k + 3) < 1 ∨ P 0 0 < tV tx n (k + 3)
          · obtain ⟨x, g7⟩ := nb.2.1 h5 (by omega)
            rw [g7, obind, if_pos h6]
            simp only [xu_q]
            rw [if_neg (show ¬ nI 4 = 0 by decide)]
            exact ⟨_, _, _, _, _, _, _, _, _, _, _, _, _, rfl, rJ_bad (upo x) (by decide) (by decide) rfl rfl⟩
          · obtain ⟨a4, b4, c4, d4, e4, f4, g7, g8⟩ := nb.1 ⟨h5, by omega, by omega⟩
            rw [g7, obind, if_neg h6]
            simp only [xu_q]
            rw [if_pos True.intro]
            have up := upo (nI (tV tx n (k + 3)))
            refine ⟨_, _, _, _, _, _, _, _, _, _, _, _, _, rfl, ?_, Or.inl ⟨rfl, ⟨rfl, rfl⟩, g8, ?_, ?_⟩⟩
            · obtain ⟨q0, q1, q2, q3, q4, q5, q6, q7, q8, q9, q10, q11, q12, q13⟩ := up
              exact ⟨q0, rFr_u q1 _ (by omega) (by omega), q2, q3, q4, q5, q6, q7, q8, q9, q10, q11, q12, q13⟩
            · exact rPl_thing hP' hi hR h4 k (tV tx n (k + 3)) h3
            · intro s hs
              have hs' : P 0 3 + 1 ≤ s := hs
              exact h4 s (by omega)
        · obtain ⟨x, g7⟩ := nb.2.2 h5
          rw [g7, obind, if_neg h5]
          simp only [xu_q]
          rw [if_neg (show ¬ nI 1 = 0 by decide)]
          exact ⟨_, _, _, _, _, _, _, _, _, _, _, _, _, rfl, rJ_bad (upo x) (by decide) (by decide) rfl rfl⟩
      · rw [mw.2 h2, obind, if_neg h2]
        simp only [xu_q]
        rw [d_number _ _ _ _ _ _ _ _ _ _ _ (show (0 : Int32) < nI 1 by decide), obind]
        simp only [xu_q]
        rw [if_neg (show ¬ nI 1 = 0 by decide)]
        exact ⟨_, _, _, _, _, _, _, _, _, _, _, _, _, rfl, rJ_bad (upo 0) (by decide) (by decide) rfl rfl⟩
    · rw [if_neg hz, if_neg (fun q => hz ((bno_m1 (by omega)).mp q)), blame_0, xlet_eq, xu_q]
      unfold mX12_thingIs_95
      rw [if_pos (by decide)]
      exact ⟨_, _, _, _, _, _, _, _, _, _, _, _, _, rfl, rJ_bad hO (by decide) (by decide) rfl (oG_at g2)⟩
  · rw [if_neg h3]
    have t58 : ∃ (a' b' c' d' : Int32) (e' : Int64) (F Q' f' : Int32) (to' sz' tr' ls' : Nat → Int32) (nm' : Nat → Int64), mX12_thingIs_58 (nI n) (nI i) trd tp ut to sz tr ls nm a b c d e 0 oP f = some (a', b', c', d', e', F, Q', f', to', sz', tr', ls', nm') ∧ rJ tx n i CS0 CV0 T0 nm0 (sBad 1 (gWh (tK tx n) (tV tx n) (tS tx n) (k + 1)) P) a' b' c' d' e' F Q' f' trd cds (tB ut to' sz' tr' lk ls' rs rt ch sf sb cs cv) nm' := by
      unfold mX12_thingIs_58
      rw [blame_0, xlet_eq, xu_q]
      unfold mX12_thingIs_67
      rw [if_neg (show ¬ (1 : Int32) = 0 by decide)]
      unfold mX12_thingIs_95
      rw [if_pos (by decide)]
      refine ⟨_, _, _, _, _, _, _, _, _, _, _, _, _, rfl, rJ_bad hO (by decide) (by decide) rfl ?_⟩
      unfold gWh
      rw [if_neg h1]
      exact oG_at g2
    by_cases z : a = (1 : Int32)
    · have y : mX12_isOwn e = true := by
        cases q : mX12_isOwn e with
        | true => rfl
        | false => exact absurd (nu.1.mp ⟨z, q⟩) h3
      rw [if_pos z, if_pos y]
      exact t58
    · rw [if_neg z]
      exact t58
end RT
