/-- a formula that is read has codes -/
def gNe (r : NR) : Prop := r.1 = 0 → r.2.2.2 ≠ []
theorem gNe_b {f p : Nat} (h : f ≠ 0) : gNe (nBad f p) := fun e => absurd e h
theorem gNe_o {k : Nat} {L : List (Nat × Nat)} (h : L ≠ []) : gNe (nOk k L) := fun _ => h
theorem gNe_B {r : NR} {f : Nat → List (Nat × Nat) → NR} (h : gNe r) (g : ∀ k L, L ≠ [] → gNe (f k L)) : gNe (nB r f) := by
  unfold nB
  by_cases e : r.1 = 0
  · rw [if_pos e]; exact g _ _ (h e)
  · rw [if_neg e]; exact gNe_b e
theorem app_ne {L M : List (Nat × Nat)} (h : L ≠ []) : L ++ M ≠ [] := by simp [h]
theorem ap2_ne {L M : List (Nat × Nat)} (h : M ≠ []) : L ++ M ≠ [] := by simp [h]
section NE
variable (K V St : Nat → Nat) (lw : Nat)
theorem gNe_open {k o : Nat} {r : NR} (h : gNe r) : gNe (gOpen St k o r) := ite_ex (Q := gNe) (gNe_b (by decide)) h
theorem gNe_must {k c : Nat} {r : NR} (h : gNe r) : gNe (gMust K V St k c r) := ite_ex (Q := gNe) h (gNe_b (by decide))
variable {R : Nat → Nat → Nat → Nat → NR}
theorem gNe_sumL (hR : ∀ j w k o, gNe (R j w k o)) (o : Nat) : ∀ f k w L, L ≠ [] → gNe (gSumL K V R o f k w L) := by
  intro f
  induction f with
  | zero => intro k w L h; exact gNe_o (app_ne h)
  | succ f ih =>
    intro k w L h
    rw [gSumL]
    refine ite_ex (Q := gNe) (gNe_B (hR _ _ _ _) (fun k' L' h' => ih _ _ _ (app_ne (app_ne h)))) (ite_ex (Q := gNe) (gNe_B (hR _ _ _ _) (fun k' L' h' => ih _ _ _ (app_ne (app_ne h)))) (gNe_o (app_ne h)))
theorem gNe_testL (hR : ∀ j w k o, gNe (R j w k o)) (o : Nat) : ∀ f k w L, L ≠ [] → gNe (gTestL K V R o f k w L) := by
  intro f
  induction f with
  | zero => intro k w L h; exact gNe_o (app_ne h)
  | succ f ih =>
    intro k w L h
    rw [gTestL]
    refine ite_ex (Q := gNe) (gNe_B (hR _ _ _ _) (fun k' L' h' => ih _ _ _ (app_ne (app_ne h)))) (ite_ex (Q := gNe) (gNe_B (hR _ _ _ _) (fun k' L' h' => ih _ _ _ (app_ne (app_ne h)))) (gNe_o (app_ne h)))
theorem gNe_call2 (hR : ∀ j w k o, gNe (R j w k o)) (w k o : Nat) (L0 : List (Nat × Nat)) : gNe (gCall2 K V St R w k o L0) :=
  gNe_B (hR _ _ _ _) (fun k1 L1 h1 => gNe_must K V St (gNe_B (hR _ _ _ _) (fun k2 L2 h2 => gNe_must K V St (gNe_o (ap2_ne (by simp))))))
theorem gNe_all : ∀ n j w k o, gNe (gRec K V St lw n j w k o) := by
  intro n
  induction n with
  | zero => intro j w k o; exact gNe_b (by decide)
  | succ n ih =>
    intro j w k o
    rw [gRec]
    match j with
    | 0 =>
      show gNe (gFact K V St (gRec K V St lw n) k o)
      unfold gFact
      refine ite_ex (Q := gNe) (gNe_open St (gNe_B (ih _ _ _ _) (fun k' L h => gNe_o (app_ne h)))) ?_
      refine ite_ex (Q := gNe) (gNe_open St (gNe_B (ih _ _ _ _) (fun k' L h => gNe_must K V St (gNe_o h)))) ?_
      refine ite_ex (Q := gNe) (gNe_o (by simp)) ?_
      exact gNe_B (ih _ _ _ _) (fun k' L h => ite_ex (Q := gNe) (gNe_b (by decide)) (gNe_B (ih _ _ _ _) (fun k2 L2 h2 => gNe_o (app_ne (app_ne h)))))
    | 1 => exact gNe_B (ih _ _ _ _) (fun k' L h => gNe_testL K V ih o _ _ _ _ h)
    | 2 => exact gNe_B (ih _ _ _ _) (fun k' L h => gNe_sumL K V ih o _ _ _ _ h)
    | 3 =>
      show gNe (gPart K V St lw (gRec K V St lw n) k o)
      unfold gPart
      refine ite_ex (Q := gNe) (gNe_o (by simp)) ?_
      refine ite_ex (Q := gNe) (gNe_o (by simp)) ?_
      refine ite_ex (Q := gNe) (gNe_open St (gNe_B (ih _ _ _ _) (fun k' L h => gNe_must K V St (gNe_o h)))) ?_
      exact ite_ex (Q := gNe) (ih _ _ _ _) (ite_ex (Q := gNe) (ih _ _ _ _) (ite_ex (Q := gNe) (ih _ _ _ _) (gNe_b (by decide))))
    | j + 4 =>
      show gNe (gCall K V St (gRec K V St lw n) w k o)
      unfold gCall
      refine gNe_must K V St (gNe_open St (ite_ex (Q := gNe) (gNe_B (ih _ _ _ _) (fun k0 L0 h0 => gNe_must K V St (gNe_call2 K V St ih _ _ _ _))) (gNe_call2 K V St ih _ _ _ _)))
end NE
theorem rFr_put {i c : Nat} {A A0 : Nat → Int32} (h : rFr 1600 i A A0) (L : List Nat) (hc : c + L.length ≤ 1600) : rFr 1600 i (rput A (1600 * i + c) L) A0 := fun j hj => by
  rw [rput_out L A _ j (by omega)]
  exact h j hj
section RT
variable {tx : Nat → Nat} {n : Nat} {tp : Nat → Int32} {i k : Nat} {CS0 CV0 : Nat → Int32} {T0 : Nat → Nat → Int32} {nm0 : Nat → Int64} {sg sa se v : Int32} {w : Int64} {lx trd cds : Int32} {ut to sz tr lk ls rs rt ch sf sb cs cv : Nat → Int32} {nm : Nat → Int64} {P : NP} {L : List (Nat × Nat)}
theorem rPl_form (hP : nOkP P L) (hi : i < 2) (hR : rPl tx n i P L CS0 CV0 trd cds (tB ut to sz tr lk ls rs rt ch sf sb cs cv) nm) (w0 : Nat) (hw : w0 < 3) (M : List (Nat × Nat)) (hM : M ≠ []) (cds' : Int32) (hc : cds' = nI (L.length + M.length)) :
    rPl tx n i (gset (gset P 8 w0 L.length) 9 w0 M.length) (L ++ M) CS0 CV0 trd cds' (tB ut to sz tr lk ls rs rt ch (upd sf (3 * i + w0) cds) (upd sb (3 * i + w0) cds') (rput cs (1600 * i + L.length) (oSo M)) (rput cv (1600 * i + L.length) (oVa M))) nm := by
  obtain ⟨r0, r1, r6, r8, rc, rtd, rt2, rt4, rt7, rt9, r11, r12, rnm⟩ := hR
  have tg : ∀ t, gTrn (gset (gset P 8 w0 L.length) 9 w0 M.length) t = gTrn P t := fun t => gTrn_cong t (fun s _ _ => rfl)
  have hml : M.length ≠ 0 := fun z => hM (List.length_eq_zero_iff.mp z)
  refine ⟨r0, r1, r6, r8, ?_, ?_, fun t ht => ?_, rt4, rt7, fun q hq => ?_, ?_, ?_, rnm⟩
  · rw [hc, List.length_append]
  · rw [rtd]
    unfold gTrD
    rw [tg]
    rfl
  · rw [tg]
    exact rt2 t ht
  · show upd sf (3 * i + w0) cds (3 * i + q) = (if gset (gset P 8 w0 L.length) 9 w0 M.length 9 q = 0 then -1 else nI (gset (gset P 8 w0 L.length) 9 w0 M.length 8 q)) ∧ (gset (gset P 8 w0 L.length) 9 w0 M.length 9 q ≠ 0 → upd sb (3 * i + w0) cds' (3 * i + q) = nI (gset (gset P 8 w0 L.length) 9 w0 M.length 8 q + gset (gset P 8 w0 L.length) 9 w0 M.length 9 q))
    by_cases z : q = w0
    · subst z
      rw [gset_s, gset_n _ _ (fun x => absurd x.1 (by decide)), gset_s, if_neg hml, pk_us, pk_us]
      exact ⟨rc, fun _ => hc⟩
    · rw [gset_n _ _ (fun x => z x.2), gset_n _ _ (fun x => absurd x.1 (by decide)), gset_n _ _ (fun x => absurd x.1 (by decide)), gset_n _ _ (fun x => z x.2), pk_un (by omega), pk_un (by omega)]
      exact rt9 q hq
  · show rput cs (1600 * i + L.length) (oSo M) = rput CS0 (1600 * i) (oSo (L ++ M))
    have e : cs = rput CS0 (1600 * i) (oSo L) := r11
    unfold oSo
    rw [List.map_append, rput_app, List.length_map, e]
    rfl
  · show rput cv (1600 * i + L.length) (oVa M) = rput CV0 (1600 * i) (oVa (L ++ M))
    have e : cv = rput CV0 (1600 * i) (oVa L) := r12
    unfold oVa
    rw [List.map_append, rput_app, List.length_map, e]
    rfl
theorem rt_form (hn : n ≤ 1600) (ht : ∀ i, i < n → tp i = nI (tx i)) (hb : ∀ i, i < n → tx i < 256) (hi : i < 2) {B : Nat} (hB : mOk (tK tx n) B) (hB2 : B ≤ 1600) (hk : k < B) (hL : L.length ≤ k) (hG : oG tx n k sg sa se v w lx) (hP : nOkP P L) (h4 : rP4 P) (hO : rOut i (tB ut to sz tr lk ls rs rt ch sf sb cs cv) T0 nm nm0) (hR : rPl tx n i P L CS0 CV0 trd cds (tB ut to sz tr lk ls rs rt ch sf sb cs cv) nm) (w0 : Nat) (hw : w0 < 3) (law d0 o0 q0 : Int32) (b0 : Bool) (fr ph be pa ba op : Nat → Int32) :
    ∃ (a b c d : Int32) (e : Int64) (F Q' f cds' law' d' o' q' : Int32) (b' : Bool) (sf' sb' cs' cv' fr' ph' be' pa' ba' op' : Nat → Int32), mX12_reading (nI w0) (nI n) sg sa se v w 0 oP lx cds (nI i) law d0 o0 q0 b0 tp sf sb cs cv fr ph be pa ba op = some (a, b, c, d, e, F, Q', f, cds', law', d', o', q', b', sf', sb', cs', cv', fr', ph', be', pa', ba', op') ∧ rJ tx n i CS0 CV0 T0 nm0 (nForm (tK tx n) (tV tx n) (tS tx n) w0 k P L) a b c d e F Q' f trd cds' (tB ut to sz tr lk ls rs rt ch sf' sb' cs' cv') nm := by
  have hP' := hP
  obtain ⟨p1, p2, p3, p4, p5, p6, p7, p8, p9, p10, p11⟩ := hP
  obtain ⟨r0, r1, r6, r8, rc, rtd, rt2, rt4, rt7, rt9, r11, r12, rnm⟩ := id hR
  have x9 : sf (3 * i + w0) = (if P 9 w0 = 0 then -1 else nI (P 8 w0)) := (rt9 w0 hw).1
  have pw := p11 w0 hw
  unfold mX12_reading nForm
  rw [e3x, if_pos (zb _ _ (by omega) (by decide)), zc _ (by omega), x9]
  by_cases h9 : 0 < P 9 w0
  · rw [if_pos h9, if_neg (show ¬ P 9 w0 = 0 by omega), if_neg (nI_m1 (by omega))]
    unfold mX12_reading_25
    rw [(k_count hn ht hb hG true oP).1 rfl, obind]
    simp only [xu_q]
    rw [if_neg (by decide)]
    exact ⟨_, _, _, _, _, _, _, _, _, _, _, _, _, _, _, _, _, _, _, _, _, _, _, _, rfl, rJ_bad hO (by decide) (by decide) rfl rfl⟩
  rw [if_neg h9, if_pos (show P 9 w0 = 0 by omega), if_pos rfl]
  obtain ⟨a, b, c, d, e, f, g1, g2⟩ := (k_count hn ht hb hG false oP).2 rfl
  unfold mX12_reading_25
  rw [g1, obind]
  simp only [xu_q]
  rw [if_pos True.intro]
  have key : ∀ (tst : Bool), tst = decide (w0 ≠ 2) → ∃ (a' b' c' d' : Int32) (e' : Int64) (F Q' f' cds' law' d1 o' q' : Int32) (b1 : Bool) (sf' sb' cs' cv' fr' ph' be' pa' ba' op' : Nat → Int32), mX12_reading_58 (nI w0) (nI n) cds (nI i) d0 o0 q0 b0 tp sf sb cs cv fr ph be pa ba op tst a b c d e 0 oP f = some (a', b', c', d', e', F, Q', f', cds', law', d1, o', q', b1, sf', sb', cs', cv', fr', ph', be', pa', ba', op') ∧ rJ tx n i CS0 CV0 T0 nm0 (let r := gRec (tK tx n) (tV tx n) (tS tx n) w0 60 (if w0 = 2 then 2 else 1) 0 (k + 1) 0
    if r.1 = 0 then sOk r.2.2.1 (gset (gset P 8 w0 L.length) 9 w0 r.2.2.2.length) (L ++ r.2.2.2) else sBad r.1 r.2.1 P) a' b' c' d' e' F Q' f' trd cds' (tB ut to sz tr lk ls rs rt ch sf' sb' cs' cv') nm := by
    intro tst htst
    have rr := r_reads (c0 := L.length) (CS0 := cs) (CV0 := cv) hn ht hb hB hB2 hi hw tst htst (k := k + 1) (by omega) g2 (by omega) d0 o0 q0 b0 fr ph be pa ba op
    have ne := gNe_all (tK tx n) (tV tx n) (tS tx n) w0 60 (if w0 = 2 then 2 else 1) 0 (k + 1) 0
    have cds0 : cds = nI L.length := rc
    generalize hg : gRec (tK tx n) (tV tx n) (tS tx n) w0 60 (if w0 = 2 then 2 else 1) 0 (k + 1) 0 = r at *
    obtain ⟨a1, b1, c1, d1, e1, F, P1, l1, c2, d2, o2, q2, b2, CS, CV, fr', ph', be', pa', ba', op', ee, hE⟩ := rr
    unfold mX12_reading_58
    rw [show mX12_reads tst (nI n) a b c d e 0 oP f cds (nI i) (nI w0) d0 o0 q0 b0 tp cs cv fr ph be pa ba op = some (a1, b1, c1, d1, e1, F, P1, l1, c2, d2, o2, q2, b2, CS, CV, fr', ph', be', pa', ba', op') by rw [cds0]; exact ee, obind]
    simp only [xu_q]
    rw [e3x, zc _ (by omega)]
    refine ⟨_, _, _, _, _, _, _, _, _, _, _, _, _, _, _, _, _, _, _, _, _, _, _, _, rfl, ?_, ?_⟩
    · obtain ⟨q0, q1, q2, q3, q4, q5, q6, q7, q8, q9, q10, q11, q12, q13⟩ := hO
      have fr11 : rFr 1600 i CS (T0 11) ∧ rFr 1600 i CV (T0 12) := by
        rcases hE with ⟨_, _, _, _, h5, h6, h7, h8⟩ | ⟨_, _, _, _, M, h5, h6, h7⟩
        · rw [h5, h6]
          exact ⟨rFr_put q11 _ (by rw [oSo_l]; omega), rFr_put q12 _ (by rw [oVa_l]; omega)⟩
        · rw [h5, h6]
          exact ⟨rFr_put q11 _ (by rw [oSo_l]; omega), rFr_put q12 _ (by rw [oVa_l]; omega)⟩
      exact ⟨q0, q1, q2, q3, q4, q5, q6, q7, q8, rFr_u q9 _ (by omega) (by omega), rFr_u q10 _ (by omega) (by omega), fr11.1, fr11.2, q13⟩
    · show (if r.1 = 0 then sOk r.2.2.1 (gset (gset P 8 w0 L.length) 9 w0 r.2.2.2.length) (L ++ r.2.2.2) else sBad r.1 r.2.1 P : NS).1 = 0 ∧ _ ∨ _
      unfold nTop at hE
      by_cases r0 : r.1 = 0
      · rw [if_pos r0] at hE ⊢
        by_cases k1 : tK tx n r.2.2.1 = 1
        · rw [if_pos k1] at hE
          rcases hE with ⟨h1, _⟩ | ⟨_, _, h3, h4', _⟩
          · exact absurd h1 (show ¬ (1 : Nat) = 0 by decide)
          · exact Or.inr (Or.inr ⟨rfl, k1, h3, h4'⟩)
        · rw [if_neg k1] at hE
          rcases hE with ⟨_, h2, h3, h4', h5, h6, h7, h8⟩ | ⟨h1, _⟩
          · refine Or.inl ⟨rfl, h2, h3, ?_, h4⟩
            subst h5 h6
            exact rPl_form hP' hi hR w0 hw r.2.2.2 (ne r0) c2 h4'
          · exact absurd rfl h1
      · rw [if_neg r0] at hE ⊢
        rcases hE with ⟨h1, _⟩ | ⟨h1, h2, h3, h4', _⟩
        · exact absurd h1 r0
        · exact Or.inr (Or.inl ⟨h1, h2, h3, h4'⟩)
  by_cases h2 : w0 = 2
  · rw [if_pos (show nI w0 = 2 by rw [h2]; rfl)]
    exact key false (by simp [h2])
  · rw [if_neg (show ¬ nI w0 = 2 from fun z => h2 ((nI_eq (b := 2) (by omega) (by decide)).mp z))]
    exact key true (by simp [h2])
end RT
