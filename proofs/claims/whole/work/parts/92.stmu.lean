section RT
variable {tx : Nat → Nat} {n : Nat} {tp : Nat → Int32} {i k : Nat} {CS0 CV0 : Nat → Int32} {T0 : Nat → Nat → Int32} {nm0 : Nat → Int64} {sg sa se v : Int32} {w : Int64} {lx trd cds : Int32} {ut to sz tr lk ls rs rt ch sf sb cs cv : Nat → Int32} {nm : Nat → Int64} {P : NP} {L : List (Nat × Nat)}
theorem rPl_due (hR : rPl tx n i P L CS0 CV0 trd cds (tB ut to sz tr lk ls rs rt ch sf sb cs cv) nm) (x : Nat) (hx : P 0 3 = 0 → x = 0) (trd' : Int32) (htr : trd' = nI (if P 0 3 = 0 then 0 else gTrn P (P 0 3 - 1) + x)) : rPl tx n i (gset P 0 5 x) L CS0 CV0 trd' cds (tB ut to sz tr lk ls rs rt ch sf sb cs cv) nm := by
  obtain ⟨r0, r1, r6, r8, rc, rtd, rt2, rt4, rt7, rt9, r11, r12, rnm⟩ := hR
  have e3 : gset P 0 5 x 0 3 = P 0 3 := rfl
  have tg : ∀ t, gTrn (gset P 0 5 x) t = gTrn P t := fun t => gTrn_cong t (fun s _ _ => rfl)
  refine ⟨r0, r1, r6, r8, rc, ?_, fun t ht => ?_, rt4, rt7, rt9, r11, r12, rnm⟩
  · rw [htr]
    unfold gTrD
    rw [e3, tg]
    rfl
  · rw [tg]
    exact rt2 t ht
theorem rt_next (hn : n ≤ 1600) (ht : ∀ i, i < n → tp i = nI (tx i)) (hb : ∀ i, i < n → tx i < 256) (hi : i < 2) (hG : oG tx n k sg sa se v w lx) (hP : nOkP P L) (h4 : rP4 P) (hO : rOut i (tB ut to sz tr lk ls rs rt ch sf sb cs cv) T0 nm nm0) (hR : rPl tx n i P L CS0 CV0 trd cds (tB ut to sz tr lk ls rs rt ch sf sb cs cv) nm) :
    ∃ (a b c d : Int32) (e : Int64) (F Q' f trd' : Int32), mX12_nextIs (nI n) sg sa se v w 0 oP lx (nI i) trd tp to tr = some (a, b, c, d, e, F, Q', f, trd') ∧ rJ tx n i CS0 CV0 T0 nm0 (sOk (k + 1) (gset P 0 5 (if 0 < P 0 3 then 1 else 0)) L) a b c d e F Q' f trd' cds (tB ut to sz tr lk ls rs rt ch sf sb cs cv) nm := by
  obtain ⟨p1, p2, p3, p4, p5, p6, p7, p8, p9, p10, p11⟩ := hP
  obtain ⟨r0, r1, r6, r8, rc, rtd, rt2, rt4, rt7, rt9, r11, r12, rnm⟩ := id hR
  have x1 : to i = nI (P 0 3) := r1
  obtain ⟨a, b, c, d, e, f, g1, g2⟩ := (k_count hn ht hb hG false oP).2 rfl
  unfold mX12_nextIs
  rw [g1, obind]
  simp only [xu_q]
  rw [if_pos True.intro, if_pos (zb _ _ hi (by decide)), zc _ (by omega), x1]
  by_cases h0 : 0 < P 0 3
  · have h0' : ¬ P 0 3 = 0 := by omega
    have e1 : (24 : Int32) * nI i + nI (P 0 3) - 1 = nI (24 * i + (P 0 3 - 1)) := by
      rw [e24, show 24 * i + P 0 3 = 24 * i + (P 0 3 - 1) + 1 by omega, nI_pred]
    have x3 : tr (24 * i + (P 0 3 - 1)) = nI (gTrn P (P 0 3 - 1)) := (rt2 (P 0 3 - 1) (by omega)).2.1
    have le := gTrn_le (P := P) p9 (P 0 3 - 1)
    have td : gTrD P = gTrn P (P 0 3 - 1) + P 0 5 := by unfold gTrD; rw [if_neg h0']
    rw [if_pos (show (0 : Int32) < nI (P 0 3) from nI_lt (a := 0) h0 (by omega)), e1, if_pos (zb _ _ (by omega) (by decide)), zc _ (by omega), x3, rtd, td, if_pos h0]
    by_cases h5 : P 0 5 = 0
    · rw [if_pos (by rw [h5, Nat.add_zero])]
      refine ⟨_, _, _, _, _, _, _, _, _, rfl, hO, Or.inl ⟨rfl, ⟨rfl, rfl⟩, g2, rPl_due hR 1 (fun q => absurd q h0') _ ?_, h4⟩⟩
      rw [if_neg h0', h5, Nat.add_zero, nI_1]
    · rw [if_neg (fun q => by have := (nI_eq (by omega) (by omega)).mp q; omega)]
      refine ⟨_, _, _, _, _, _, _, _, _, rfl, hO, Or.inl ⟨rfl, ⟨rfl, rfl⟩, g2, rPl_due hR 1 (fun q => absurd q h0') _ ?_, h4⟩⟩
      rw [if_neg h0', show P 0 5 = 1 by omega]
  · have h0' : P 0 3 = 0 := by omega
    rw [if_neg (show ¬ (0 : Int32) < nI (P 0 3) by rw [h0']; decide), if_neg h0]
    refine ⟨_, _, _, _, _, _, _, _, _, rfl, hO, Or.inl ⟨rfl, ⟨rfl, rfl⟩, g2, rPl_due hR 0 (fun _ => rfl) _ ?_, h4⟩⟩
    rw [if_pos h0', rtd]
    unfold gTrD
    rw [if_pos h0']
theorem e4x (m j : Nat) : (4 : Int32) * nI m + nI j = nI (4 * m + j) := by
  rw [show (4 : Int32) = nI 4 from rfl, pk_mul, nI_add]
theorem e8x (m j : Nat) : (8 : Int32) * nI m + nI j = nI (8 * m + j) := by
  rw [show (8 : Int32) = nI 8 from rfl, pk_mul, nI_add]
theorem e3x (m j : Nat) : (3 : Int32) * nI m + nI j = nI (3 * m + j) := by
  rw [show (3 : Int32) = nI 3 from rfl, pk_mul, nI_add]
theorem rPl_link (hP : nOkP P L) (hi : i < 2) (hR : rPl tx n i P L CS0 CV0 trd cds (tB ut to sz tr lk ls rs rt ch sf sb cs cv) nm) (a b : Nat) (ha : a < P 0 3) (ha4 : P 4 a < 4) :
    rPl tx n i (gset (gset P 5 (4 * a + P 4 a) (b + 1)) 4 a (P 4 a + 1)) L CS0 CV0 trd cds (tB ut to sz tr (upd lk (4 * (24 * i + a) + P 4 a) (nI b)) (upd ls (24 * i + a) (nI (P 4 a + 1))) rs rt ch sf sb cs cv) nm := by
  obtain ⟨p1, p2, p3, p4, p5, p6, p7, p8, p9, p10, p11⟩ := hP
  obtain ⟨r0, r1, r6, r8, rc, rtd, rt2, rt4, rt7, rt9, r11, r12, rnm⟩ := hR
  have tg : ∀ t, gTrn (gset (gset P 5 (4 * a + P 4 a) (b + 1)) 4 a (P 4 a + 1)) t = gTrn P t := fun t => gTrn_cong t (fun s _ _ => rfl)
  refine ⟨r0, r1, r6, r8, rc, ?_, fun t ht => ?_, fun t q ht hq => ?_, rt7, rt9, r11, r12, rnm⟩
  · rw [rtd]
    unfold gTrD
    rw [tg]
    rfl
  · have ht' : t < P 0 3 := ht
    rw [tg]
    obtain ⟨y1, y2, y3⟩ := rt2 t ht'
    refine ⟨y1, y2, ?_⟩
    show upd ls (24 * i + a) (nI (P 4 a + 1)) (24 * i + t) = nI (gset (gset P 5 (4 * a + P 4 a) (b + 1)) 4 a (P 4 a + 1) 4 t)
    by_cases z : t = a
    · subst z; rw [pk_us, gset_s]
    · rw [pk_un (by omega), gset_n _ _ (fun q => z q.2), gset_n _ _ (fun q => absurd q.1 (by decide))]; exact y3
  · have ht' : t < P 0 3 := ht
    show upd lk (4 * (24 * i + a) + P 4 a) (nI b) (4 * (24 * i + t) + q) = nI (gset (gset P 5 (4 * a + P 4 a) (b + 1)) 4 a (P 4 a + 1) 5 (4 * t + q) - 1)
    rw [gset_n _ _ (fun q => absurd q.1 (by decide))]
    by_cases z : t = a
    · subst z
      rw [gset_s] at hq
      by_cases y : q = P 4 t
      · rw [y, pk_us, gset_s]; rfl
      · rw [pk_un (by omega), gset_n _ _ (fun x => y (by omega))]
        exact rt4 t q ht' (by omega)
    · rw [gset_n _ _ (fun q => z q.2), gset_n _ _ (fun q => absurd q.1 (by decide))] at hq
      have := p10 t
      rw [pk_un (by omega), gset_n _ _ (fun x => z (by omega))]
      exact rt4 t q ht' hq
theorem rt_link (hn : n ≤ 1600) (ht : ∀ i, i < n → tp i = nI (tx i)) (hb : ∀ i, i < n → tx i < 256) (hi : i < 2) (hG : oG tx n k sg sa se v w lx) (hP : nOkP P L) (h4 : rP4 P) (hO : rOut i (tB ut to sz tr lk ls rs rt ch sf sb cs cv) T0 nm nm0) (hR : rPl tx n i P L CS0 CV0 trd cds (tB ut to sz tr lk ls rs rt ch sf sb cs cv) nm) :
    ∃ (a b c d : Int32) (e : Int64) (F Q' f : Int32) (lk' ls' : Nat → Int32), mX12_linkIs (nI n) sg sa se v w 0 oP lx (nI i) tp to lk ls nm = some (a, b, c, d, e, F, Q', f, lk', ls') ∧ rJ tx n i CS0 CV0 T0 nm0 (nLink (tK tx n) (tV tx n) (tS tx n) k P L) a b c d e F Q' f trd cds (tB ut to sz tr lk' ls' rs rt ch sf sb cs cv) nm := by
  have hP' := hP
  obtain ⟨p1, p2, p3, p4, p5, p6, p7, p8, p9, p10, p11⟩ := hP
  obtain ⟨r0, r1, r6, r8, rc, rtd, rt2, rt4, rt7, rt9, r11, r12, rnm⟩ := id hR
  have x1 : to i = nI (P 0 3) := r1
  have nle : ∀ z, nNamed P z ≠ 0 → nNamed P z - 1 < P 0 3 := fun z hz => by
    have := (nNam_le P z 24 0).2 hz
    unfold nNamed at hz ⊢
    omega
  have sat := oG_at hG
  obtain ⟨a, b, c, d, e, f, g1, g2⟩ := (k_count hn ht hb hG false oP).2 rfl
  unfold mX12_linkIs nLink
  rw [g1, obind]
  simp only [xu_q]
  rw [if_pos True.intro]
  have kn := k_known hn ht hb g2 hi p4 x1 rnm oP
  unfold nKnown
  by_cases h3 : tK tx n (k + 1) = 3
  · rw [if_pos h3]
    by_cases hz : nNamed P (tV tx n (k + 1)) = 0
    · obtain ⟨x, g3⟩ := kn.2.1 h3 hz
      rw [g3, obind, if_pos hz]
      simp only [xu_q]
      rw [if_pos (show (0 : Int32) < nI 3 by decide)]
      exact ⟨_, _, _, _, _, _, _, _, _, _, rfl, rJ_bad hO (by decide) (by decide) rfl rfl⟩
    · obtain ⟨a2, b2, c2, d2, e2, f2, g3, g4⟩ := kn.1 ⟨h3, hz⟩
      have hx := nle _ hz
      rw [if_neg hz]
      generalize hA : nNamed P (tV tx n (k + 1)) - 1 = A at *
      rw [g3, obind]
      simp only [xu_q]
      have x5 : ls (24 * i + A) = nI (P 4 A) := (rt2 A hx).2.2
      have pA := p10 A
      rw [if_neg (show ¬ (0 : Int32) < 0 by decide), e24, if_pos (zb _ _ (by omega) (by decide)), zc _ (by omega), x5]
      by_cases h44 : 4 ≤ P 4 A
      · rw [if_pos h44, if_pos (show nI (P 4 A) = 4 by rw [show P 4 A = 4 by omega]; rfl), blame_0, xlet_eq, xu_q]
        unfold mX12_linkIs_54
        rw [d_mustWord _ _ _ _ _ _ _ _ _ _ (by decide), obind]
        simp only [xu_q]
        rw [d_known _ _ _ _ _ _ _ _ _ _ _ _ (by decide), obind]
        simp only [xu_q]
        rw [if_pos (show (0 : Int32) < 6 by decide)]
        exact ⟨_, _, _, _, _, _, _, _, _, _, rfl, rJ_bad hO (by decide) (by decide) rfl sat⟩
      · rw [if_neg h44, if_neg (show ¬ nI (P 4 A) = 4 from fun z => h44 (by have := (nI_eq (b := 4) (by omega) (by decide)).mp z; omega))]
        unfold mX12_linkIs_54 nOwn
        have mw := k_mustWord (k := k + 2) hn ht hb g4 (x := 5) (by decide) oP
        rw [show (29807 : Int64) = lN (oNum 5) from rfl]
        by_cases h2 : gOw (tK tx n) (tV tx n) (k + 2) 5 = true
        · obtain ⟨a3, b3, c3, d3, e3, f3, g5, g6⟩ := mw.1 h2
          rw [g5, obind, if_pos h2]
          simp only [xu_q]
          have kn2 := k_known (k := k + 3) hn ht hb g6 hi p4 x1 rnm oP
          by_cases h33 : tK tx n (k + 3) = 3
          · rw [if_pos h33]
            by_cases hz2 : nNamed P (tV tx n (k + 3)) = 0
            · obtain ⟨x, g7⟩ := kn2.2.1 h33 hz2
              rw [g7, obind, if_pos hz2]
              simp only [xu_q]
              rw [if_pos (show (0 : Int32) < nI 3 by decide)]
              exact ⟨_, _, _, _, _, _, _, _, _, _, rfl, rJ_bad hO (by decide) (by decide) rfl rfl⟩
            · obtain ⟨a4, b4, c4, d4, e4, f4, g7, g8⟩ := kn2.1 ⟨h33, hz2⟩
              rw [g7, obind, if_neg hz2]
              simp only [xu_q]
              rw [if_neg (show ¬ (0 : Int32) < 0 by decide), if_pos (zb _ _ (by omega) (by decide)), zc _ (by omega), x5, e4x, if_pos (zb _ _ (by omega) (by decide)), zc _ (by omega), nI_1]
              refine ⟨_, _, _, _, _, _, _, _, _, _, rfl, ?_, Or.inl ⟨rfl, ⟨rfl, rfl⟩, g8, rPl_link hP' hi hR A _ hx (by omega), ?_⟩⟩
              · obtain ⟨q0, q1, q2, q3, q4, q5, q6, q7, q8, q9, q10, q11, q12, q13⟩ := hO
                exact ⟨q0, q1, q2, q3, rFr_u q4 _ (by omega) (by omega), rFr_u q5 _ (by omega) (by omega), q6, q7, q8, q9, q10, q11, q12, q13⟩
              · intro s hs
                have hs' : P 0 3 ≤ s := hs
                show gset (gset P 5 (4 * A + P 4 A) (nNamed P (tV tx n (k + 3)) - 1 + 1)) 4 A (P 4 A + 1) 4 s = 0
                rw [gset_n _ _ (fun q => by omega), gset_n _ _ (fun q => absurd q.1 (by decide))]
                exact h4 s hs'
          · obtain ⟨x, g7⟩ := kn2.2.2 h33
            rw [g7, obind, if_neg h33]
            simp only [xu_q]
            rw [if_pos (show (0 : Int32) < nI 1 by decide)]
            exact ⟨_, _, _, _, _, _, _, _, _, _, rfl, rJ_bad hO (by decide) (by decide) rfl rfl⟩
        · rw [mw.2 h2, obind, if_neg h2]
          simp only [xu_q]
          rw [d_known _ _ _ _ _ _ _ _ _ _ _ _ (by decide), obind]
          simp only [xu_q]
          rw [if_pos (show (0 : Int32) < nI 1 by decide)]
          exact ⟨_, _, _, _, _, _, _, _, _, _, rfl, rJ_bad hO (by decide) (by decide) rfl rfl⟩
  · obtain ⟨x, g3⟩ := kn.2.2 h3
    rw [g3, obind, if_neg h3]
    simp only [xu_q]
    rw [if_pos (show (0 : Int32) < nI 1 by decide)]
    exact ⟨_, _, _, _, _, _, _, _, _, _, rfl, rJ_bad hO (by decide) (by decide) rfl rfl⟩
theorem rPl_root (hP : nOkP P L) (hi : i < 2) (hR : rPl tx n i P L CS0 CV0 trd cds (tB ut to sz tr lk ls rs rt ch sf sb cs cv) nm) (a : Nat) (h8 : P 0 4 < 8) :
    rPl tx n i (gset (gset P 7 (P 0 4) (a + 1)) 0 4 (P 0 4 + 1)) L CS0 CV0 trd cds (tB ut to sz tr lk ls (upd rs i (nI (P 0 4 + 1))) (upd rt (8 * i + P 0 4) (nI a)) ch sf sb cs cv) nm := by
  obtain ⟨r0, r1, r6, r8, rc, rtd, rt2, rt4, rt7, rt9, r11, r12, rnm⟩ := hR
  have tg : ∀ t, gTrn (gset (gset P 7 (P 0 4) (a + 1)) 0 4 (P 0 4 + 1)) t = gTrn P t := fun t => gTrn_cong t (fun s _ _ => rfl)
  refine ⟨r0, r1, ?_, r8, rc, ?_, fun t ht => ?_, rt4, fun q hq => ?_, rt9, r11, r12, rnm⟩
  · show upd rs i (nI (P 0 4 + 1)) i = nI (gset (gset P 7 (P 0 4) (a + 1)) 0 4 (P 0 4 + 1) 0 4)
    rw [pk_us, gset_s]
  · rw [rtd]
    unfold gTrD
    rw [tg]
    rfl
  · rw [tg]
    exact rt2 t ht
  · rw [gset_s] at hq
    show upd rt (8 * i + P 0 4) (nI a) (8 * i + q) = nI (gset (gset P 7 (P 0 4) (a + 1)) 0 4 (P 0 4 + 1) 7 q - 1)
    rw [gset_n _ _ (fun x => absurd x.1 (by decide))]
    by_cases z : q = P 0 4
    · rw [z, pk_us, gset_s]; rfl
    · rw [pk_un (by omega), gset_n _ _ (fun x => z x.2)]
      exact rt7 q (by omega)
theorem rt_root (hn : n ≤ 1600) (ht : ∀ i, i < n → tp i = nI (tx i)) (hb : ∀ i, i < n → tx i < 256) (hi : i < 2) (hG : oG tx n k sg sa se v w lx) (hP : nOkP P L) (h4 : rP4 P) (hO : rOut i (tB ut to sz tr lk ls rs rt ch sf sb cs cv) T0 nm nm0) (hR : rPl tx n i P L CS0 CV0 trd cds (tB ut to sz tr lk ls rs rt ch sf sb cs cv) nm) :
    ∃ (a b c d : Int32) (e : Int64) (F Q' f : Int32) (rs' rt' : Nat → Int32), mX12_rootIs (nI n) sg sa se v w 0 oP lx (nI i) tp to rs rt nm = some (a, b, c, d, e, F, Q', f, rs', rt') ∧ rJ tx n i CS0 CV0 T0 nm0 (nRoot (tK tx n) (tV tx n) (tS tx n) k P L) a b c d e F Q' f trd cds (tB ut to sz tr lk ls rs' rt' ch sf sb cs cv) nm := by
  have hP' := hP
  obtain ⟨p1, p2, p3, p4, p5, p6, p7, p8, p9, p10, p11⟩ := hP
  obtain ⟨r0, r1, r6, r8, rc, rtd, rt2, rt4, rt7, rt9, r11, r12, rnm⟩ := id hR
  have x1 : to i = nI (P 0 3) := r1
  have x6 : rs i = nI (P 0 4) := r6
  have sat := oG_at hG
  unfold mX12_rootIs nRoot
  rw [if_pos (zb _ _ hi (by decide)), zc _ (by omega), x6]
  by_cases h8 : 8 ≤ P 0 4
  · rw [if_pos h8, if_pos (show nI (P 0 4) = 8 by rw [show P 0 4 = 8 by omega]; rfl)]
    unfold mX12_rootIs_20
    rw [(k_count hn ht hb hG true oP).1 rfl, obind]
    simp only [xu_q]
    rw [if_neg (by decide)]
    exact ⟨_, _, _, _, _, _, _, _, _, _, rfl, rJ_bad hO (by decide) (by decide) rfl rfl⟩
  rw [if_neg h8, if_neg (show ¬ nI (P 0 4) = 8 from fun z => h8 (by have := (nI_eq (b := 8) (by omega) (by decide)).mp z; omega))]
  obtain ⟨a, b, c, d, e, f, g1, g2⟩ := (k_count hn ht hb hG false oP).2 rfl
  unfold mX12_rootIs_20
  rw [g1, obind]
  simp only [xu_q]
  rw [if_pos True.intro]
  have kn := k_known hn ht hb g2 hi p4 x1 rnm oP
  unfold nKnown
  by_cases h3 : tK tx n (k + 1) = 3
  · rw [if_pos h3]
    by_cases hz : nNamed P (tV tx n (k + 1)) = 0
    · obtain ⟨x, g3⟩ := kn.2.1 h3 hz
      rw [g3, obind, if_pos hz]
      simp only [xu_q]
      rw [if_pos (show (0 : Int32) < nI 3 by decide)]
      exact ⟨_, _, _, _, _, _, _, _, _, _, rfl, rJ_bad hO (by decide) (by decide) rfl rfl⟩
    · obtain ⟨a2, b2, c2, d2, e2, f2, g3, g4⟩ := kn.1 ⟨h3, hz⟩
      rw [if_neg hz, g3, obind]
      simp only [xu_q]
      rw [if_neg (show ¬ (0 : Int32) < 0 by decide), zc _ (by omega), x6, e8x, if_pos (zb _ _ (by omega) (by decide)), zc _ (by omega), nI_1]
      refine ⟨_, _, _, _, _, _, _, _, _, _, rfl, ?_, Or.inl ⟨rfl, ⟨rfl, rfl⟩, g4, rPl_root hP' hi hR _ (by omega), h4⟩⟩
      obtain ⟨q0, q1, q2, q3, q4, q5, q6, q7, q8, q9, q10, q11, q12, q13⟩ := hO
      exact ⟨q0, q1, q2, q3, q4, q5, rFr_u q6 _ (by omega) (by omega), rFr_u q7 _ (by omega) (by omega), q8, q9, q10, q11, q12, q13⟩
  · obtain ⟨x, g3⟩ := kn.2.2 h3
    rw [g3, obind, if_neg h3]
    simp only [xu_q]
    rw [if_pos (show (0 : Int32) < nI 1 by decide)]
    exact ⟨_, _, _, _, _, _, _, _, _, _, rfl, rJ_bad hO (by decide) (by decide) rfl rfl⟩
theorem rPl_churn (hR : rPl tx n i P L CS0 CV0 trd cds (tB ut to sz tr lk ls rs rt ch sf sb cs cv) nm) (x : Nat) : rPl tx n i (gset P 0 1 x) L CS0 CV0 trd cds (tB ut to sz tr lk ls rs rt (upd ch i (nI x)) sf sb cs cv) nm := by
  obtain ⟨r0, r1, r6, r8, rc, rtd, rt2, rt4, rt7, rt9, r11, r12, rnm⟩ := hR
  have tg : ∀ t, gTrn (gset P 0 1 x) t = gTrn P t := fun t => gTrn_cong t (fun s _ _ => rfl)
  refine ⟨r0, r1, r6, pk_us, rc, ?_, fun t ht => ?_, rt4, rt7, rt9, r11, r12, rnm⟩
  · rw [rtd]
    unfold gTrD
    rw [tg]
    rfl
  · rw [tg]
    exact rt2 t ht
theorem rt_churn (hn : n ≤ 1600) (ht : ∀ i, i < n → tp i = nI (tx i)) (hb : ∀ i, i < n → tx i < 256) (hi : i < 2) (hG : oG tx n k sg sa se v w lx) (hP : nOkP P L) (h4 : rP4 P) (hO : rOut i (tB ut to sz tr lk ls rs rt ch sf sb cs cv) T0 nm nm0) (hR : rPl tx n i P L CS0 CV0 trd cds (tB ut to sz tr lk ls rs rt ch sf sb cs cv) nm) :
    ∃ (a b c d : Int32) (e : Int64) (F Q' f : Int32) (ch' : Nat → Int32), mX12_churnIs (nI n) sg sa se v w 0 oP lx (nI i) tp ch = some (a, b, c, d, e, F, Q', f, ch') ∧ rJ tx n i CS0 CV0 T0 nm0 (nNum (tK tx n) (tV tx n) (tS tx n) (k + 1) 0 100 (fun x => sOk (k + 2) (gset P 0 1 x) L) P) a b c d e F Q' f trd cds (tB ut to sz tr lk ls rs rt ch' sf sb cs cv) nm := by
  have up : ∀ x, rOut i (tB ut to sz tr lk ls rs rt (upd ch i x) sf sb cs cv) T0 nm nm0 := fun x => by
    obtain ⟨q0, q1, q2, q3, q4, q5, q6, q7, q8, q9, q10, q11, q12, q13⟩ := hO
    exact ⟨q0, q1, q2, q3, q4, q5, q6, q7, rFr_u q8 _ (by omega) (by omega), q9, q10, q11, q12, q13⟩
  obtain ⟨a, b, c, d, e, f, g1, g2⟩ := (k_count hn ht hb hG false oP).2 rfl
  unfold mX12_churnIs
  rw [g1, obind]
  simp only [xu_q]
  rw [if_pos True.intro]
  have nb := k_number hn ht hb g2 0 100 (by decide) (by decide) oP
  rw [show (0 : Int32) = nI 0 from rfl, show (100 : Int32) = nI 100 from rfl] at *
  unfold nNum
  by_cases h5 : tK tx n (k + 1) = 2
  · rw [if_pos h5]
    by_cases h6 : tV tx n (k + 1) < 0 ∨ 100 < tV tx n (k + 1)
    · obtain ⟨x, g7⟩ := nb.2.1 h5 (by omega)
      rw [g7, obind, if_pos h6]
      simp only [xu_q]
      rw [if_pos (zb _ _ hi (by decide)), zc _ (by omega)]
      exact ⟨_, _, _, _, _, _, _, _, _, rfl, rJ_bad (up x) (by decide) (by decide) rfl rfl⟩
    · obtain ⟨a4, b4, c4, d4, e4, f4, g7, g8⟩ := nb.1 ⟨h5, by omega, by omega⟩
      rw [g7, obind, if_neg h6]
      simp only [xu_q]
      rw [if_pos (zb _ _ hi (by decide)), zc _ (by omega)]
      exact ⟨_, _, _, _, _, _, _, _, _, rfl, up _, Or.inl ⟨rfl, ⟨rfl, rfl⟩, g8, rPl_churn hR _, h4⟩⟩
  · obtain ⟨x, g7⟩ := nb.2.2 h5
    rw [g7, obind, if_neg h5]
    simp only [xu_q]
    rw [if_pos (zb _ _ hi (by decide)), zc _ (by omega)]
    exact ⟨_, _, _, _, _, _, _, _, _, rfl, rJ_bad (up x) (by decide) (by decide) rfl rfl⟩
end RT
