section RT
variable {bk : Int32} {isH : Bool} {und met : Int32} {c1 c2 c3 c4 c5 c6 c7 c8 c9 c10 c11 : Nat → Int32} {B : Nat} {tx : Nat → Nat} {n : Nat} {tp : Nat → Int32} {i k : Nat} {CS0 CV0 : Nat → Int32} {T0 : Nat → Nat → Int32} {nm0 : Nat → Int64} {sg sa se v : Int32} {w : Int64} {lx Q trd cds : Int32} {ut to sz tr lk ls rs rt ch sf sb cs cv : Nat → Int32} {nm : Nat → Int64} {P : NP} {L : List (Nat × Nat)}
theorem nStat_ok (hn : n ≤ 1600) (hb : ∀ i, i < n → tx i < 256) (hB1 : ∀ k, k < B → 2 ≤ tK tx n k) (hBe : tK tx n B < 2) (hB2 : B ≤ 1600) (hP : nOkP P L) (h80 : P 0 2 < 80) (hk : k ≤ B) (hL : L.length ≤ k) (first : Bool) :
    ((nStat (tK tx n) (tV tx n) (tS tx n) first k P L).1 = 0 → (nStat (tK tx n) (tV tx n) (tS tx n) first k P L).2.2.1 ≤ B ∧ (nStat (tK tx n) (tV tx n) (tS tx n) first k P L).2.2.2.2.length ≤ (nStat (tK tx n) (tV tx n) (tS tx n) first k P L).2.2.1 ∧ nOkP (nStat (tK tx n) (tV tx n) (tS tx n) first k P L).2.2.2.1 (nStat (tK tx n) (tV tx n) (tS tx n) first k P L).2.2.2.2 ∧ (nStat (tK tx n) (tV tx n) (tS tx n) first k P L).2.2.2.1 0 2 = P 0 2 + 1) ∧ (nStat (tK tx n) (tV tx n) (tS tx n) first k P L).1 < 10 := by
  have g : gTok (tK tx n) (tV tx n) (tS tx n) B (B + 1) (fun k => nI (tK tx n k)) (fun k => nI (tS tx n k)) (fun k => nI (tV tx n k)) := by
    refine ⟨hB2, by omega, by omega, fun k hk => ⟨rfl, rfl, rfl, ?_⟩, hB1, hBe⟩
    have b := lVl_lt tx n hn hb (lAt tx n k)
    have c := lAt_le tx n k
    exact ⟨b.1, b.2, by show lAt tx n k < 100000; omega⟩
  have hc : cPl P L (nI (P 0 0)) (nI (P 0 1)) (nI (P 0 2)) (nI (P 0 3)) (nI (P 0 4)) (nI L.length) (fun t => nI (P 1 t)) (fun t => nI (P 2 t)) (fun t => nI (P 3 t)) (fun t => nI (P 4 t)) (fun j => bno (P 5 j)) (fun k => bno (P 7 k)) (gput (fun _ => 0) 0 L) (fun w => nI (P 8 w)) (fun w => nI (P 9 w)) (decide (P 0 5 = 1)) :=
    ⟨rfl, rfl, rfl, rfl, rfl, rfl, fun _ _ => ⟨rfl, rfl⟩, fun _ _ => rfl, fun _ _ => rfl, fun _ _ => rfl, fun _ _ => rfl, fun _ _ => ⟨rfl, rfl⟩, ⟨_, rfl⟩, by simp⟩
  rcases j_stat g hP h80 hk hL (tp := 0) (p := 0) hc first with ⟨a1, a2, a3, a4, a5, _⟩ | ⟨a1, a2, _⟩
  · exact ⟨fun _ => ⟨a2, a3, a4, a5⟩, by rw [a1]; decide⟩
  · exact ⟨fun h => absurd h a1, a2⟩
theorem rPl_cnt {T : Nat → Nat → Int32} (hR : rPl tx n i P L CS0 CV0 trd cds T nm) (x : Nat) : rPl tx n i (gset P 0 2 x) L CS0 CV0 trd cds T nm := by
  obtain ⟨r0, r1, r6, r8, rc, rtd, rt2, rt4, rt7, rt9, r11, r12, rnm⟩ := hR
  have tg : ∀ t, gTrn (gset P 0 2 x) t = gTrn P t := fun t => gTrn_cong t (fun s _ _ => rfl)
  refine ⟨r0, r1, r6, r8, rc, ?_, fun t ht => ?_, rt4, rt7, rt9, r11, r12, rnm⟩
  · rw [rtd]
    unfold gTrD
    rw [tg]
    rfl
  · rw [tg]
    exact rt2 t ht
/-- what the text comes to with the reference -/
def rH (tx : Nat → Nat) (n i : Nat) (CS0 CV0 : Nat → Int32) (T0 : Nat → Nat → Int32) (nm0 : Nat → Int64) (r : NS) (m F Q trd cds : Int32) (T : Nat → Nat → Int32) (nm : Nat → Int64) : Prop :=
  rOut i T T0 nm nm0 ∧ ((r.1 = 0 ∧ (F = 0 ∧ Q = oP) ∧ rPl tx n i r.2.2.2.1 r.2.2.2.2 CS0 CV0 trd cds T nm ∧ m = nI (r.2.2.2.1 0 2) ∧ nOkP r.2.2.2.1 r.2.2.2.2 ∧ 0 < r.2.2.2.1 0 2) ∨ (r.1 ≠ 0 ∧ r.1 < 10 ∧ F = nI r.1 ∧ Q = nI r.2.1))
theorem h_125f (g : Nat) (hg : 1 ≤ g) {F : Int32} (hF : ¬ F = 0) (m : Int32) (law d0 o0 q0 : Int32) (b0 : Bool) (fr ph be pa ba op : Nat → Int32) : mX12_heap_125 (nI n) bk isH und met tp c1 c2 c3 c4 c5 c6 c7 c8 c9 c10 c11 g m sg sa se v w F Q lx cds trd law d0 o0 q0 b0 ut to sz tr lk ls rs rt ch sf sb cs cv nm fr ph be pa ba op = mX12_heap_154 (nI n) bk isH und met c1 c2 c3 c4 c5 c6 c7 c8 c9 c10 c11 m sg sa se v w F Q lx cds trd law d0 o0 q0 b0 ut to sz tr lk ls rs rt ch sf sb cs cv nm fr ph be pa ba op := by
  obtain ⟨g, rfl⟩ : ∃ h, g = h + 1 := ⟨g - 1, by omega⟩
  rw [mX12_heap_125, if_neg hF]
theorem rt_loop (hn : n ≤ 1600) (ht : ∀ i, i < n → tp i = nI (tx i)) (hb : ∀ i, i < n → tx i < 256) (hi : i < 2) (hbk : 1 - bk = nI i) (hB1 : ∀ k, k < B → 2 ≤ tK tx n k) (hBe : tK tx n B < 2) (hB2 : B ≤ 1600) : ∀ (f m k : Nat) (P : NP) (L : List (Nat × Nat)) (sg sa se v : Int32) (w : Int64) (lx trd cds law d0 o0 q0 : Int32) (b0 : Bool) (ut to sz tr lk ls rs rt ch sf sb cs cv : Nat → Int32) (nm : Nat → Int64) (fr ph be pa ba op : Nat → Int32) (g : Nat),
    f + m = 81 → 1 ≤ m → m ≤ 80 → P 0 2 = m → nOkP P L → rP4 P → k ≤ B → L.length ≤ k → (m = 80 → tK tx n k = 0) → oG tx n k sg sa se v w lx → rOut i (tB ut to sz tr lk ls rs rt ch sf sb cs cv) T0 nm nm0 → rPl tx n i P L CS0 CV0 trd cds (tB ut to sz tr lk ls rs rt ch sf sb cs cv) nm → f + 2 ≤ g →
    ∃ (m' a b c d : Int32) (e : Int64) (F Q' f9 cds' trd' law' d' o' q' : Int32) (b' : Bool) (ut' to' sz' tr' lk' ls' rs' rt' ch' sf' sb' cs' cv' : Nat → Int32) (nm' : Nat → Int64) (fr' ph' be' pa' ba' op' : Nat → Int32), mX12_heap_125 (nI n) bk isH und met tp c1 c2 c3 c4 c5 c6 c7 c8 c9 c10 c11 g (nI m) sg sa se v w 0 oP lx cds trd law d0 o0 q0 b0 ut to sz tr lk ls rs rt ch sf sb cs cv nm fr ph be pa ba op = mX12_heap_154 (nI n) bk isH und met c1 c2 c3 c4 c5 c6 c7 c8 c9 c10 c11 m' a b c d e F Q' f9 cds' trd' law' d' o' q' b' ut' to' sz' tr' lk' ls' rs' rt' ch' sf' sb' cs' cv' nm' fr' ph' be' pa' ba' op' ∧ rH tx n i CS0 CV0 T0 nm0 (nRead (tK tx n) (tV tx n) (tS tx n) f m k P L) m' F Q' trd' cds' (tB ut' to' sz' tr' lk' ls' rs' rt' ch' sf' sb' cs' cv') nm' := by
  have hB : mOk (tK tx n) B := fun k hk h2 => by
    refine Classical.byContradiction (fun q => ?_)
    have : k = B := by omega
    rw [this] at h2
    omega
  intro f
  induction f with
  | zero => intro m k P L _ _ _ _ _ _ _ _ _ _ _ _ _ _ _ _ _ _ _ _ _ _ _ _ _ _ _ _ _ _ _ _ _ _ _ _ hf h1 h80; omega
  | succ f ih =>
    intro m k P L sg sa se v w lx trd cds law d0 o0 q0 b0 ut to sz tr lk ls rs rt ch sf sb cs cv nm fr ph be pa ba op g hf h1 h80 h02 hP h4 hk hL hm hG hO hR hg
    obtain ⟨g, rfl⟩ : ∃ h, g = h + 1 := ⟨g - 1, by omega⟩
    rw [mX12_heap_125, if_pos rfl, nRead]
    by_cases e0 : tK tx n k = 0
    · rw [if_pos e0, if_pos ((oG_end hG).mpr e0)]
      exact ⟨_, _, _, _, _, _, _, _, _, _, _, _, _, _, _, _, _, _, _, _, _, _, _, _, _, _, _, _, _, _, _, _, _, _, _, _, rfl, hO, Or.inl ⟨rfl, ⟨rfl, rfl⟩, hR, by show nI m = nI (P 0 2); rw [h02], hP, by show 0 < P 0 2; omega⟩⟩
    have m80 : ¬ m = 80 := fun q => e0 (hm q)
    rw [if_neg e0, if_neg (fun q => e0 ((oG_end hG).mp q)), if_neg m80, hbk, show decide (m = 0) = false from decide_eq_false (by omega)]
    have st := nStat_ok hn hb hB1 hBe hB2 hP (by omega) hk hL false
    obtain ⟨a, b, c, d, e, F, Q1, f1, cds1, trd1, law1, d1, o1, q1, b1, to1, sz1, tr1, lk1, ls1, rs1, rt1, ch1, sf1, sb1, cs1, cv1, nm1, fr1, ph1, be1, pa1, ba1, op1, es, hO1, hJ⟩ := rt_state (CS0 := CS0) (CV0 := CV0) (T0 := T0) (nm0 := nm0) hn ht hb hi hB hB2 hk hL hG hP h4 hO hR law d0 o0 q0 b0 fr ph be pa ba op
    rw [es, obind]
    simp only [xu_q]
    rw [nStat_z] at st ⊢
    generalize hz : nTel (tK tx n) (tV tx n) (tS tx n) k P L = z at *
    have eq1 : nI m + 1 = nI (m + 1) := nI_1 m
    rw [eq1]
    have bad : ∀ (a b c d : Int32) (e : Int64) (F Q2 f2 : Int32) (r : NS), r.1 ≠ 0 → r.1 < 10 → F = nI r.1 → Q2 = nI r.2.1 → ∃ (m' a' b2 c' d2 : Int32) (e' : Int64) (F' Q' f' cds' trd' law' d' o' q' : Int32) (b' : Bool) (ut' to' sz' tr' lk' ls' rs' rt' ch' sf' sb' cs' cv' : Nat → Int32) (nm' : Nat → Int64) (fr' ph' be' pa' ba' op' : Nat → Int32), mX12_heap_125 (nI n) bk isH und met tp c1 c2 c3 c4 c5 c6 c7 c8 c9 c10 c11 g (nI (m + 1)) a b c d e F Q2 f2 cds1 trd1 law1 d1 o1 q1 b1 ut to1 sz1 tr1 lk1 ls1 rs1 rt1 ch1 sf1 sb1 cs1 cv1 nm1 fr1 ph1 be1 pa1 ba1 op1 = mX12_heap_154 (nI n) bk isH und met c1 c2 c3 c4 c5 c6 c7 c8 c9 c10 c11 m' a' b2 c' d2 e' F' Q' f' cds' trd' law' d' o' q' b' ut' to' sz' tr' lk' ls' rs' rt' ch' sf' sb' cs' cv' nm' fr' ph' be' pa' ba' op' ∧ rH tx n i CS0 CV0 T0 nm0 r m' F' Q' trd' cds' (tB ut' to' sz' tr' lk' ls' rs' rt' ch' sf' sb' cs' cv') nm' := by
      intro a b c d e F Q2 f2 r r1 r2 r3 r4
      exact ⟨_, _, _, _, _, _, _, _, _, _, _, _, _, _, _, _, _, _, _, _, _, _, _, _, _, _, _, _, _, _, _, _, _, _, _, _, h_125f g (by omega) (by rw [r3]; exact nI_ne0 (by omega) (by omega)) _ _ _ _ _ _ _ _ _ _ _ _, hO1, Or.inr ⟨r1, r2, r3, r4⟩⟩
    rcases hJ with ⟨j1, j2, j3, j4, j5⟩ | ⟨j1, j2, j3, j4⟩ | ⟨j1, j2, j3, j4⟩
    · obtain ⟨j2, jq⟩ := j2
      subst j2 jq
      rw [if_pos j1] at st ⊢
      unfold nSgn at st ⊢
      by_cases s59 : gSg (tK tx n) (tV tx n) z.2.2.1 59 = true
      · rw [if_pos s59] at st ⊢
        have fo := fin_ok (Q := oP) hn ht hb j3 (m + 1) (by omega) s59
        obtain ⟨s1, s2, s3, s4⟩ := st.1 rfl
        have s1' : z.2.2.1 + 1 ≤ B := s1
        have s2' : z.2.2.2.2.length ≤ z.2.2.1 + 1 := s2
        have s4' : gset z.2.2.2.1 0 2 (z.2.2.2.1 0 2 + 1) 0 2 = P 0 2 + 1 := s4
        rw [if_pos (show (sOk (z.2.2.1 + 1) (gset z.2.2.2.1 0 2 (z.2.2.2.1 0 2 + 1)) z.2.2.2.2).1 = 0 from rfl)]
        show ∃ (m' a b c d : Int32) (e : Int64) (F Q' f9 cds' trd' law' d' o' q' : Int32) (b' : Bool) (ut' to' sz' tr' lk' ls' rs' rt' ch' sf' sb' cs' cv' : Nat → Int32) (nm' : Nat → Int64) (fr' ph' be' pa' ba' op' : Nat → Int32), _ = mX12_heap_154 (nI n) bk isH und met c1 c2 c3 c4 c5 c6 c7 c8 c9 c10 c11 m' a b c d e F Q' f9 cds' trd' law' d' o' q' b' ut' to' sz' tr' lk' ls' rs' rt' ch' sf' sb' cs' cv' nm' fr' ph' be' pa' ba' op' ∧ rH tx n i CS0 CV0 T0 nm0 (nRead (tK tx n) (tV tx n) (tS tx n) f (m + 1) (z.2.2.1 + 1) (gset z.2.2.2.1 0 2 (z.2.2.2.1 0 2 + 1)) z.2.2.2.2) m' F Q' trd' cds' (tB ut' to' sz' tr' lk' ls' rs' rt' ch' sf' sb' cs' cv') nm'
        by_cases full : m + 1 = 80 ∧ tK tx n (z.2.2.1 + 1) ≠ 0
        · rw [fo.2 full, obind]
          simp only [xu_q]
          obtain ⟨f, rfl⟩ : ∃ h, f = h + 1 := ⟨f - 1, by omega⟩
          rw [nRead, if_neg full.2, if_pos full.1]
          exact bad _ _ _ _ _ _ _ _ (sBad 6 (tS tx n (z.2.2.1 + 1)) _) (show (6 : Nat) ≠ 0 by decide) (show (6 : Nat) < 10 by decide) rfl rfl
        · obtain ⟨a2, b2, c2, d2, e2, f2, g3, g4⟩ := fo.1 full
          rw [g3, obind]
          simp only [xu_q]
          exact ih (m + 1) (z.2.2.1 + 1) _ _ _ _ _ _ _ _ _ _ _ _ _ _ _ _ _ _ _ _ _ _ _ _ _ _ _ _ _ _ _ _ _ _ _ g (by omega) (by omega) (by omega) (by rw [s4', h02]) s3 j5 s1' s2' (fun q => Classical.byContradiction (fun y => full ⟨q, y⟩)) g4 hO1 (rPl_cnt j4 _) (by omega)
      · rw [if_neg s59]
        rw [fin_bad (Q := oP) hn ht hb j3 _ s59, obind]
        simp only [xu_q]
        rw [if_neg (show ¬ (sBad 1 (gWh (tK tx n) (tV tx n) (tS tx n) z.2.2.1) z.2.2.2.1).1 = 0 from fun q => absurd q (show ¬ (1 : Nat) = 0 by decide))]
        exact bad _ _ _ _ _ _ _ _ (sBad 1 (gWh (tK tx n) (tV tx n) (tS tx n) z.2.2.1) z.2.2.2.1) (show (1 : Nat) ≠ 0 by decide) (show (1 : Nat) < 10 by decide) rfl rfl
    · rw [if_neg j1]
      rw [if_neg j1, d_finishes _ _ _ _ _ _ _ _ _ _ (by rw [j3]; exact q_pos j1 j2), obind]
      simp only [xu_q]
      exact bad _ _ _ _ _ _ _ _ z j1 j2 j3 j4
    · have ns : ¬ gSg (tK tx n) (tV tx n) z.2.2.1 59 = true := fun q => by have := (gSg_K q).1; omega
      rw [if_pos j1]
      unfold nSgn
      rw [if_neg ns, if_neg (show ¬ (sBad 1 (gWh (tK tx n) (tV tx n) (tS tx n) z.2.2.1) z.2.2.2.1).1 = 0 from fun q => absurd q (show ¬ (1 : Nat) = 0 by decide)), d_finishes _ _ _ _ _ _ _ _ _ _ (by rw [j3]; decide), obind]
      simp only [xu_q]
      refine bad _ _ _ _ _ _ _ _ (sBad 1 (gWh (tK tx n) (tV tx n) (tS tx n) z.2.2.1) z.2.2.2.1) (show (1 : Nat) ≠ 0 by decide) (show (1 : Nat) < 10 by decide) j3 ?_
      rw [j4]
      show _ = nI (gWh (tK tx n) (tV tx n) (tS tx n) z.2.2.1)
      unfold gWh
      rw [if_pos j2]
end RT
