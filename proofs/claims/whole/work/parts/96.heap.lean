section RT
variable {bk : Int32} {isH : Bool} {und met : Int32} {c1 c2 c3 c4 c5 c6 c7 c8 c9 c10 c11 : Nat → Int32} {B : Nat} {tx : Nat → Nat} {n : Nat} {tp : Nat → Int32} {i k : Nat} {CS0 CV0 : Nat → Int32} {T0 : Nat → Nat → Int32} {nm0 : Nat → Int64} {sg sa se v : Int32} {w : Int64} {lx Q trd cds : Int32} {ut to sz tr lk ls rs rt ch sf sb cs cv : Nat → Int32} {nm : Nat → Int64} {P : NP} {L : List (Nat × Nat)}
theorem h_80 (hi : i < 2) (hbk : 1 - bk = nI i) (v0 : Int32) (w0 : Int64) (law d0 o0 q0 : Int32) (b0 : Bool) (fr ph be pa ba op : Nat → Int32) (g : Nat) : mX12_heap_80 (nI n) v0 w0 bk law d0 o0 q0 b0 isH und met tp ut to sz tr lk ls rs rt ch sb cs cv nm fr ph be pa ba op c1 c2 c3 c4 c5 c6 c7 c8 c9 c10 c11 (g + 4) (nI (3 * i)) sf = ((mX12_ahead (nI n) (0 : Int32) v0 w0 tp).bind (xu fun q4_1 => xu fun q4_2 => xu fun q4_3 => xu fun q4_4 => xu fun q4_5 => fun q4_6 =>
        (mX12_unitsIs (nI n) q4_1 q4_2 q4_3 q4_4 q4_5 (0 : Int32) ((-1) : Int32) q4_6 (1 - bk) tp ut).bind (xu fun q5_1 => xu fun q5_2 => xu fun q5_3 => xu fun q5_4 => xu fun q5_5 => xu fun q5_6 => xu fun q5_7 => xu fun q5_8 => fun q5_9 =>
          (mX12_finishes (1 : Int32) (nI n) q5_1 q5_2 q5_3 q5_4 q5_5 q5_6 q5_7 q5_8 tp).bind (xu fun q6_1 => xu fun q6_2 => xu fun q6_3 => xu fun q6_4 => xu fun q6_5 => xu fun q6_6 => xu fun q6_7 => fun q6_8 =>
            mX12_heap_125 (nI n) bk isH und met tp c1 c2 c3 c4 c5 c6 c7 c8 c9 c10 c11 xfuel (1 : Int32) q6_1 q6_2 q6_3 q6_4 q6_5 q6_6 q6_7 q6_8 (0 : Int32) (0 : Int32) law d0 o0 q0 b0 q5_9 (upd to (1 - bk).toNatClampNeg 0) sz tr lk ls (upd rs (1 - bk).toNatClampNeg 0) rt (upd ch (1 - bk).toNatClampNeg 0) (upd (upd (upd sf (3 * i) (-1)) (3 * i + 1) (-1)) (3 * i + 2) (-1)) sb cs cv nm fr ph be pa ba op)))) := by
  have e3 : (3 : Int32) * (1 - bk) + 3 = nI (3 * i + 3) := by
    rw [hbk, show (3 : Int32) = nI 3 from rfl, pk_mul, nI_add]
  have e1 : ∀ j, nI j + 1 = nI (j + 1) := fun j => nI_1 j
  have s0 : ∀ (g j : Nat) (sf : Nat → Int32), j < 3 * i + 3 → mX12_heap_80 (nI n) v0 w0 bk law d0 o0 q0 b0 isH und met tp ut to sz tr lk ls rs rt ch sb cs cv nm fr ph be pa ba op c1 c2 c3 c4 c5 c6 c7 c8 c9 c10 c11 (g + 1) (nI j) sf = mX12_heap_80 (nI n) v0 w0 bk law d0 o0 q0 b0 isH und met tp ut to sz tr lk ls rs rt ch sb cs cv nm fr ph be pa ba op c1 c2 c3 c4 c5 c6 c7 c8 c9 c10 c11 g (nI (j + 1)) (upd sf j (-1)) := fun g j sf hj => by
    rw [mX12_heap_80, e3, if_pos (nI_lt hj (by omega)), if_pos (zb _ _ (by omega) (by decide)), zc _ (by omega), e1]
  rw [s0 (g + 3) (3 * i) sf (by omega), s0 (g + 2) (3 * i + 1) _ (by omega), s0 (g + 1) (3 * i + 1 + 1) _ (by omega), mX12_heap_80, e3, if_neg (nI_nlt (by omega) (by omega))]
theorem rPl_1 (hi : i < 2) (x : Nat) (ut to sz tr lk ls rs rt ch sf sb cs cv : Nat → Int32) (nm : Nat → Int64) : rPl tx n i (gset (gset nP0 0 0 x) 0 2 (nP0 0 2 + 1)) [] cs cv 0 0 (tB (upd ut i (nI x)) (upd to i 0) sz tr lk ls (upd rs i 0) rt (upd ch i 0) (upd (upd (upd sf (3 * i) (-1)) (3 * i + 1) (-1)) (3 * i + 2) (-1)) sb cs cv) nm := by
  refine ⟨pk_us, pk_us, pk_us, pk_us, rfl, rfl, fun t ht => ?_, fun t q ht => ?_, fun q hq => ?_, fun q hq => ?_, rfl, rfl, fun t ht => ?_⟩
  · exact absurd (show t < 0 from ht) (Nat.not_lt_zero _)
  · exact absurd (show t < 0 from ht) (Nat.not_lt_zero _)
  · exact absurd (show q < 0 from hq) (Nat.not_lt_zero _)
  · refine ⟨?_, fun z => absurd rfl z⟩
    show (upd (upd (upd sf (3 * i) (-1)) (3 * i + 1) (-1)) (3 * i + 2) (-1)) (3 * i + q) = -1
    by_cases z2 : q = 2
    · rw [z2, pk_us]
    · rw [pk_un (by omega)]
      by_cases z1 : q = 1
      · rw [z1, pk_us]
      · rw [pk_un (by omega), show q = 0 by omega, Nat.add_zero, pk_us]
  · exact absurd (show t < 0 from ht) (Nat.not_lt_zero _)
theorem nAll_1 (K V St : Nat → Nat) (n : Nat) : nAll K V St n = nFin n (nRead K V St 81 0 0 nP0 []) := rfl
/-- statements told, never fewer -/
theorem r_heap (hn : n ≤ 1600) (ht : ∀ i, i < n → tp i = nI (tx i)) (hb : ∀ i, i < n → tx i < 256) (hi : i < 2) (hbk : 1 - bk = nI i) (v0 : Int32) (w0 : Int64) (law d0 o0 q0 : Int32) (b0 : Bool) (ut to sz tr lk ls rs rt ch sf sb cs cv : Nat → Int32) (nm : Nat → Int64) (fr ph be pa ba op : Nat → Int32) :
    ∃ (m' a b c d : Int32) (e : Int64) (F Q' f9 cds' trd' law' d' o' q' : Int32) (b' : Bool) (ut' to' sz' tr' lk' ls' rs' rt' ch' sf' sb' cs' cv' : Nat → Int32) (nm' : Nat → Int64) (fr' ph' be' pa' ba' op' : Nat → Int32), mX12_heap (nI n) v0 w0 bk law d0 o0 q0 b0 isH und met tp ut to sz tr lk ls rs rt ch sf sb cs cv nm fr ph be pa ba op c1 c2 c3 c4 c5 c6 c7 c8 c9 c10 c11 = mX12_heap_154 (nI n) bk isH und met c1 c2 c3 c4 c5 c6 c7 c8 c9 c10 c11 m' a b c d e F Q' f9 cds' trd' law' d' o' q' b' ut' to' sz' tr' lk' ls' rs' rt' ch' sf' sb' cs' cv' nm' fr' ph' be' pa' ba' op' ∧ rH tx n i cs cv (tB ut to sz tr lk ls rs rt ch sf sb cs cv) nm (nAll (tK tx n) (tV tx n) (tS tx n) n) m' F Q' trd' cds' (tB ut' to' sz' tr' lk' ls' rs' rt' ch' sf' sb' cs' cv') nm' := by
  obtain ⟨B, T', ks', ss', vs', e, b1, b2, ⟨b3, b4, b5, b6⟩⟩ := s_cut tx n tp hn ht hb (fun _ => 0) (fun _ => 0) (fun _ => 0)
  have hB2 : B ≤ 1600 := b3
  have hB1 : ∀ k, k < B → 2 ≤ tK tx n k := b4
  have hBe : tK tx n B < 2 := b5
  have hO0 : rOut i (tB ut to sz tr lk ls rs rt ch sf sb cs cv) (tB ut to sz tr lk ls rs rt ch sf sb cs cv) nm nm := ⟨rFr_rf _ _ _, rFr_rf _ _ _, rFr_rf _ _ _, rFr_rf _ _ _, rFr_rf _ _ _, rFr_rf _ _ _, rFr_rf _ _ _, rFr_rf _ _ _, rFr_rf _ _ _, rFr_rf _ _ _, rFr_rf _ _ _, rFr_rf _ _ _, rFr_rf _ _ _, rFrL_rf _ _ _⟩
  have hO : ∀ x, rOut i (tB (upd ut i x) (upd to i 0) sz tr lk ls (upd rs i 0) rt (upd ch i 0) (upd (upd (upd sf (3 * i) (-1)) (3 * i + 1) (-1)) (3 * i + 2) (-1)) sb cs cv) (tB ut to sz tr lk ls rs rt ch sf sb cs cv) nm nm := fun x => by
    obtain ⟨q0, q1, q2, q3, q4, q5, q6, q7, q8, q9, q10, q11, q12, q13⟩ := hO0
    exact ⟨rFr_u q0 _ (by omega) (by omega), rFr_u q1 _ (by omega) (by omega), q2, q3, q4, q5, rFr_u q6 _ (by omega) (by omega), q7, rFr_u q8 _ (by omega) (by omega), rFr_u (rFr_u (rFr_u q9 _ (by omega) (by omega)) _ (by omega) (by omega)) _ (by omega) (by omega), q10, q11, q12, q13⟩
  have hP0 : nOkP nP0 [] := ⟨Nat.zero_le _, Nat.zero_le _, Nat.zero_le _, Nat.zero_le _, Nat.zero_le _, Nat.zero_le _, fun _ => by show (0 : Nat) < 1000000000; decide, fun _ => Nat.zero_le _, fun _ => Nat.zero_le _, fun _ => Nat.zero_le _, fun _ _ => ⟨Nat.zero_le _, Nat.zero_le _⟩⟩
  have g0 : ∃ (a b c d : Int32) (e : Int64) (f : Int32), mX12_ahead (nI n) (0 : Int32) v0 w0 tp = some (a, b, c, d, e, f) ∧ oG tx n 0 a b c d e f := ⟨_, _, _, _, _, _, s_ahead tx n tp hn ht hb v0 w0 0 (Nat.zero_le _), v0, w0, rfl⟩
  obtain ⟨a, b, c, d, e0, f0, g1, g2⟩ := g0
  unfold mX12_heap
  rw [hbk, if_pos (zb _ _ hi (by decide)), show (3 : Int32) * nI i = nI (3 * i) by rw [show (3 : Int32) = nI 3 from rfl, pk_mul], show xfuel = 4996 + 4 from rfl, h_80 hi hbk v0 w0 law d0 o0 q0 b0 fr ph be pa ba op 4996, g1, obind]
  simp only [xu_q]
  rw [hbk, zc _ (by omega)]
  unfold mX12_unitsIs
  have mw := k_mustWord hn ht hb g2 (x := 0) (by decide) (-1)
  rw [show (504363578483 : Int64) = lN (oNum 0) from rfl]
  have bad : ∀ (a b c d : Int32) (e : Int64) (F Q2 f2 : Int32) (x : Int32) (r : NS), r.1 ≠ 0 → r.1 < 10 → F = nI r.1 → Q2 = nI r.2.1 → ∃ (m' a' b2 c' d2 : Int32) (e' : Int64) (F' Q' f' cds' trd' law' d' o' q' : Int32) (b' : Bool) (ut' to' sz' tr' lk' ls' rs' rt' ch' sf' sb' cs' cv' : Nat → Int32) (nm' : Nat → Int64) (fr' ph' be' pa' ba' op' : Nat → Int32), mX12_heap_125 (nI n) bk isH und met tp c1 c2 c3 c4 c5 c6 c7 c8 c9 c10 c11 (4996 + 4) 1 a b c d e F Q2 f2 0 0 law d0 o0 q0 b0 (upd ut i x) (upd to i 0) sz tr lk ls (upd rs i 0) rt (upd ch i 0) (upd (upd (upd sf (3 * i) (-1)) (3 * i + 1) (-1)) (3 * i + 2) (-1)) sb cs cv nm fr ph be pa ba op = mX12_heap_154 (nI n) bk isH und met c1 c2 c3 c4 c5 c6 c7 c8 c9 c10 c11 m' a' b2 c' d2 e' F' Q' f' cds' trd' law' d' o' q' b' ut' to' sz' tr' lk' ls' rs' rt' ch' sf' sb' cs' cv' nm' fr' ph' be' pa' ba' op' ∧ rH tx n i cs cv (tB ut to sz tr lk ls rs rt ch sf sb cs cv) nm r m' F' Q' trd' cds' (tB ut' to' sz' tr' lk' ls' rs' rt' ch' sf' sb' cs' cv') nm' := by
    intro a b c d e F Q2 f2 x r r1 r2 r3 r4
    exact ⟨_, _, _, _, _, _, _, _, _, _, _, _, _, _, _, _, _, _, _, _, _, _, _, _, _, _, _, _, _, _, _, _, _, _, _, _, h_125f (4996 + 4) (by omega) (by rw [r3]; exact nI_ne0 (by omega) (by omega)) _ _ _ _ _ _ _ _ _ _ _ _, hO x, Or.inr ⟨r1, r2, r3, r4⟩⟩
  have st0 := fun hk => nStat_ok (P := nP0) (L := []) (k := 0) hn hb hB1 hBe hB2 hP0 (by decide) hk (Nat.zero_le 0) true
  -- the first statement in the neutral reading
  have nr : nRead (tK tx n) (tV tx n) (tS tx n) 81 0 0 nP0 [] = if tK tx n 0 = 0 then sOk 0 nP0 [] else (if (nStat (tK tx n) (tV tx n) (tS tx n) true 0 nP0 []).1 = 0 then nRead (tK tx n) (tV tx n) (tS tx n) 80 1 (nStat (tK tx n) (tV tx n) (tS tx n) true 0 nP0 []).2.2.1 (nStat (tK tx n) (tV tx n) (tS tx n) true 0 nP0 []).2.2.2.1 (nStat (tK tx n) (tV tx n) (tS tx n) true 0 nP0 []).2.2.2.2 else nStat (tK tx n) (tV tx n) (tS tx n) true 0 nP0 []) := by
    rw [nRead]
    rfl
  have fb : ∀ (f q : Nat) (P : NP), f ≠ 0 → nFin n (sBad f q P) = sBad f q P := fun f q P hf => if_neg hf
  rw [nAll_1, nr]
  by_cases w0' : gOw (tK tx n) (tV tx n) 0 0 = true
  · have k4 := gOw_K w0'
    obtain ⟨a1, b1', c1', d1, e1, f1, g3, g4⟩ := mw.1 w0'
    have nb := k_number (k := 1) hn ht hb g4 8 99 (by decide) (by decide) (-1)
    have ns : nStat (tK tx n) (tV tx n) (tS tx n) true 0 nP0 [] = (let r := nNum (tK tx n) (tV tx n) (tS tx n) 1 8 99 (fun v => sOk 2 (gset nP0 0 0 v) []) nP0
      if r.1 = 0 then nSgn (tK tx n) (tV tx n) (tS tx n) r.2.2.1 59 (sOk (r.2.2.1 + 1) (gset r.2.2.2.1 0 2 (r.2.2.2.1 0 2 + 1)) r.2.2.2.2) r.2.2.2.1 else r) := by
      unfold nStat nTell
      rw [if_pos w0', if_pos w0']
    rw [g3, obind]
    simp only [xu_q]
    rw [show (8 : Int32) = nI 8 from rfl, show (99 : Int32) = nI 99 from rfl]
    rw [if_neg (show ¬ tK tx n 0 = 0 by omega), ns]
    rw [ns] at st0
    unfold nNum at st0 ⊢
    by_cases h5 : tK tx n 1 = 2
    · rw [if_pos h5]
      by_cases h6 : tV tx n 1 < 8 ∨ 99 < tV tx n 1
      · obtain ⟨x, g7⟩ := nb.2.1 h5 (by omega)
        rw [g7, obind, if_pos h6]
        simp only [xu_q]
        rw [if_pos (zb _ _ hi (by decide)), zc _ (by omega), obind]
        simp only [xu_q]
        rw [d_finishes _ _ _ _ _ _ _ _ _ _ (by decide), obind]
        simp only [xu_q]
        rw [if_neg (show ¬ (sBad 4 (tS tx n 1) nP0).1 = 0 from fun q => absurd q (show ¬ (4 : Nat) = 0 by decide)), if_neg (show ¬ (sBad 4 (tS tx n 1) nP0).1 = 0 from fun q => absurd q (show ¬ (4 : Nat) = 0 by decide)), fb 4 _ _ (by decide)]
        exact bad _ _ _ _ _ _ _ _ _ (sBad 4 (tS tx n 1) nP0) (show (4 : Nat) ≠ 0 by decide) (show (4 : Nat) < 10 by decide) rfl rfl
      · obtain ⟨a4, b4', c4', d4, e4, f4, g7, g8⟩ := nb.1 ⟨h5, by omega, by omega⟩
        rw [g7, obind, if_neg h6]
        simp only [xu_q]
        rw [if_pos (zb _ _ hi (by decide)), zc _ (by omega), obind]
        simp only [xu_q]
        have hkB : 0 ≤ B := Nat.zero_le B
        rw [if_pos h5, if_neg h6] at st0
        have st1 := st0 hkB
        rw [if_pos (show (sOk 2 (gset nP0 0 0 (tV tx n 1)) []).1 = 0 from rfl)] at st1 ⊢
        unfold nSgn at st1 ⊢
        by_cases s59 : gSg (tK tx n) (tV tx n) 2 59 = true
        · have e2 : gSg (tK tx n) (tV tx n) (sOk 2 (gset nP0 0 0 (tV tx n 1)) []).2.2.1 59 = true := s59
          rw [if_pos e2] at st1 ⊢
          have fo := fin_ok (k := 2) (Q := (-1)) hn ht hb g8 1 (by decide) s59
          obtain ⟨a5, b5', c5', d5, e5, f5, g9, g10⟩ := fo.1 (fun q => absurd q.1 (by decide))
          obtain ⟨s1, s2, s3, s4⟩ := st1.1 rfl
          rw [show (1 : Int32) = nI 1 from rfl] at *
          rw [g9, obind]
          simp only [xu_q]
          rw [if_pos (show (sOk ((sOk 2 (gset nP0 0 0 (tV tx n 1)) []).2.2.1 + 1) (gset (sOk 2 (gset nP0 0 0 (tV tx n 1)) []).2.2.2.1 0 2 ((sOk 2 (gset nP0 0 0 (tV tx n 1)) []).2.2.2.1 0 2 + 1)) (sOk 2 (gset nP0 0 0 (tV tx n 1)) []).2.2.2.2).1 = 0 from rfl)]
          obtain ⟨z0, z1, z2, z3, z4, z5, z6, z7, z8, z9, z10, z11, z12, z13, z14, z15, z16, z17, z18, z19, z20, z21, z22, z23, z24, z25, z26, z27, z28, z29, z30, z31, z32, z33, z34, z35, ze, zr⟩ := rt_loop (T0 := (tB ut to sz tr lk ls rs rt ch sf sb cs cv)) (nm0 := nm) (CS0 := cs) (CV0 := cv) (isH := isH) (und := und) (met := met) (c1 := c1) (c2 := c2) (c3 := c3) (c4 := c4) (c5 := c5) (c6 := c6) (c7 := c7) (c8 := c8) (c9 := c9) (c10 := c10) (c11 := c11) hn ht hb hi hbk hB1 hBe hB2 80 1 3 (gset (gset nP0 0 0 (tV tx n 1)) 0 2 (nP0 0 2 + 1)) [] a5 b5' c5' d5 e5 f5 0 0 law d0 o0 q0 b0 (upd ut i (nI (tV tx n 1))) (upd to i 0) sz tr lk ls (upd rs i 0) rt (upd ch i 0) (upd (upd (upd sf (3 * i) (-1)) (3 * i + 1) (-1)) (3 * i + 2) (-1)) sb cs cv nm fr ph be pa ba op (4996 + 4) (by decide) (by decide) (by decide) rfl s3 (fun _ _ => rfl) s1 (Nat.zero_le _) (fun q => absurd q (by decide)) g10 (hO _) (rPl_1 hi _ ut to sz tr lk ls rs rt ch sf sb cs cv nm) (by decide)
          refine ⟨z0, z1, z2, z3, z4, z5, z6, z7, z8, z9, z10, z11, z12, z13, z14, z15, z16, z17, z18, z19, z20, z21, z22, z23, z24, z25, z26, z27, z28, z29, z30, z31, z32, z33, z34, z35, ze, ?_⟩
          show rH tx n i cs cv _ nm (nFin n (nRead (tK tx n) (tV tx n) (tS tx n) 80 1 3 (gset (gset nP0 0 0 (tV tx n 1)) 0 2 (nP0 0 2 + 1)) [])) _ _ _ _ _ _ _
          rcases zr with ⟨y1, y2⟩
          rcases y2 with ⟨y2, y3, y4, y5, y6, y7⟩ | ⟨y2, y3, y4, y5⟩
          · have : nFin n (nRead (tK tx n) (tV tx n) (tS tx n) 80 1 3 (gset (gset nP0 0 0 (tV tx n 1)) 0 2 (nP0 0 2 + 1)) []) = nRead (tK tx n) (tV tx n) (tS tx n) 80 1 3 (gset (gset nP0 0 0 (tV tx n 1)) 0 2 (nP0 0 2 + 1)) [] := by
              unfold nFin
              rw [if_pos y2, if_neg (by omega)]
            rw [this]
            exact ⟨y1, Or.inl ⟨y2, y3, y4, y5, y6, y7⟩⟩
          · have : nFin n (nRead (tK tx n) (tV tx n) (tS tx n) 80 1 3 (gset (gset nP0 0 0 (tV tx n 1)) 0 2 (nP0 0 2 + 1)) []) = nRead (tK tx n) (tV tx n) (tS tx n) 80 1 3 (gset (gset nP0 0 0 (tV tx n 1)) 0 2 (nP0 0 2 + 1)) [] := by
              unfold nFin
              rw [if_neg y2]
            rw [this]
            exact ⟨y1, Or.inr ⟨y2, y3, y4, y5⟩⟩
        · have e2 : ¬ gSg (tK tx n) (tV tx n) (sOk 2 (gset nP0 0 0 (tV tx n 1)) []).2.2.1 59 = true := s59
          rw [if_neg e2, fin_bad (k := 2) (Q := (-1)) hn ht hb g8 _ s59, obind]
          simp only [xu_q]
          rw [if_neg (show ¬ (sBad 1 (gWh (tK tx n) (tV tx n) (tS tx n) (sOk 2 (gset nP0 0 0 (tV tx n 1)) []).2.2.1) (sOk 2 (gset nP0 0 0 (tV tx n 1)) []).2.2.2.1).1 = 0 from fun q => absurd q (show ¬ (1 : Nat) = 0 by decide)), fb 1 _ _ (by decide)]
          exact bad _ _ _ _ _ _ _ _ _ (sBad 1 (gWh (tK tx n) (tV tx n) (tS tx n) 2) (gset nP0 0 0 (tV tx n 1))) (show (1 : Nat) ≠ 0 by decide) (show (1 : Nat) < 10 by decide) rfl rfl
    · obtain ⟨x, g7⟩ := nb.2.2 h5
      rw [g7, obind, if_neg h5]
      simp only [xu_q]
      rw [if_pos (zb _ _ hi (by decide)), zc _ (by omega), obind]
      simp only [xu_q]
      rw [d_finishes _ _ _ _ _ _ _ _ _ _ (by decide), obind]
      simp only [xu_q]
      rw [if_neg (show ¬ (sBad 1 (gWh (tK tx n) (tV tx n) (tS tx n) 1) nP0).1 = 0 from fun q => absurd q (show ¬ (1 : Nat) = 0 by decide)), if_neg (show ¬ (sBad 1 (gWh (tK tx n) (tV tx n) (tS tx n) 1) nP0).1 = 0 from fun q => absurd q (show ¬ (1 : Nat) = 0 by decide)), fb 1 _ _ (by decide)]
      exact bad _ _ _ _ _ _ _ _ _ (sBad 1 (gWh (tK tx n) (tV tx n) (tS tx n) 1) nP0) (show (1 : Nat) ≠ 0 by decide) (show (1 : Nat) < 10 by decide) rfl rfl
  · rw [mw.2 w0', obind]
    simp only [xu_q]
    rw [d_number _ _ _ _ _ _ _ _ _ _ _ (by decide), obind]
    simp only [xu_q]
    rw [if_pos (zb _ _ hi (by decide)), zc _ (by omega), obind]
    simp only [xu_q]
    rw [d_finishes _ _ _ _ _ _ _ _ _ _ (by decide), obind]
    simp only [xu_q]
    have ns : nStat (tK tx n) (tV tx n) (tS tx n) true 0 nP0 [] = sBad 1 (gWh (tK tx n) (tV tx n) (tS tx n) 0) nP0 := by
      unfold nStat
      rw [if_neg w0']
    rw [ns]
    by_cases k0 : tK tx n 0 = 0
    · rw [if_pos k0, show nFin n (sOk 0 nP0 []) = sBad 1 n nP0 from rfl]
      refine bad _ _ _ _ _ _ _ _ _ (sBad 1 n nP0) (show (1 : Nat) ≠ 0 by decide) (show (1 : Nat) < 10 by decide) rfl ?_
      have : gWh (tK tx n) (tV tx n) (tS tx n) 0 = n := by
        unfold gWh
        rw [if_neg (by omega)]
        have q := tK_end.mp k0
        have q2 := lAt_le tx n 0
        show lAt tx n 0 = n
        omega
      rw [this]
      rfl
    · rw [if_neg k0, if_neg (show ¬ (sBad 1 (gWh (tK tx n) (tV tx n) (tS tx n) 0) nP0).1 = 0 from fun q => absurd q (show ¬ (1 : Nat) = 0 by decide)), fb 1 _ _ (by decide)]
      exact bad _ _ _ _ _ _ _ _ _ (sBad 1 (gWh (tK tx n) (tV tx n) (tS tx n) 0) nP0) (show (1 : Nat) ≠ 0 by decide) (show (1 : Nat) < 10 by decide) rfl rfl
end RT
