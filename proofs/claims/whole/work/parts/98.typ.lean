/-- codes one behind the other, the stack never above M -/
def cRn (M : Nat) : List (Nat × Nat) → Nat → (Nat → Bool) → Nat → (Nat → Bool) → Prop
  | [], d, T, d', T' => d' = d ∧ T' = T
  | x :: L, d, T, d', T' => ∃ d1 T1, cst x.1 x.2 d T d1 T1 ∧ d1 ≤ M ∧ cRn M L d1 T1 d' T'
theorem cRn_app {M : Nat} : ∀ {L L2 : List (Nat × Nat)} {d d1 d2 : Nat} {T T1 T2 : Nat → Bool}, cRn M L d T d1 T1 → cRn M L2 d1 T1 d2 T2 → cRn M (L ++ L2) d T d2 T2
  | [], L2, d, d1, d2, T, T1, T2, h, g => by
    obtain ⟨a, b⟩ := h
    subst a b
    exact g
  | x :: L, L2, d, d1, d2, T, T1, T2, h, g => by
    obtain ⟨e, T3, a, b, c⟩ := h
    exact ⟨e, T3, a, b, cRn_app c g⟩
/-- codes that lay c values of a kind -/
def gP (m : Nat) (b : Bool) (c : Nat) (L : List (Nat × Nat)) : Prop := ∀ d T, d + m ≤ 100 → ∃ T', cRn 100 L d T (d + c) T' ∧ (b = true → ∀ i, i < c → T' (d + i) = true) ∧ ∀ j, j < d → T' j = T j
theorem gP_mono {m m' : Nat} {b : Bool} {c : Nat} {L : List (Nat × Nat)} (h : gP m b c L) (e : m ≤ m') : gP m' b c L := fun d T hd => h d T (by omega)
theorem gP_kind {m : Nat} {b : Bool} {c : Nat} {L : List (Nat × Nat)} (h : gP m b c L) : gP m false c L := fun d T hd => by
  obtain ⟨T', a, _, e⟩ := h d T hd
  exact ⟨T', a, fun q => absurd q (by decide), e⟩
theorem gP_one {x : Nat × Nat} {b : Bool} (h : ∀ d T, cst x.1 x.2 d T (d + 1) (updB T d b)) : gP 1 b 1 [x] := fun d T hd =>
  ⟨updB T d b, ⟨d + 1, _, h d T, by omega, rfl, rfl⟩, fun q i hi => by
    have : i = 0 := by omega
    subst this
    simp [updB, q], fun j hj => by simp [updB, Nat.ne_of_lt hj]⟩
theorem gP_two {m m' : Nat} {b : Bool} {c : Nat} {L L' : List (Nat × Nat)} (h : gP m b c L) (g : gP m' b 1 L') (e : c + m' ≤ m) : gP m b (c + 1) (L ++ L') := fun d T hd => by
  obtain ⟨T1, a1, a2, a3⟩ := h d T hd
  obtain ⟨T2, b1, b2, b3⟩ := g (d + c) T1 (by omega)
  refine ⟨T2, cRn_app a1 b1, fun q i hi => ?_, fun j hj => by rw [b3 j (by omega)]; exact a3 j hj⟩
  by_cases y : i = c
  · subst y; exact b2 q 0 (by omega)
  · rw [b3 _ (by omega)]; exact a2 q i (by omega)
/-- two values are joined -/
theorem gP_join {m c s : Nat} {b b' : Bool} {L : List (Nat × Nat)} (h : gP m b (c + 2) L) (hs : (31 ≤ s ∧ s ≤ 40 ∧ (b' = true → 38 ≤ s ∧ c = 0)) ∨ ((s = 41 ∨ s = 42) ∧ b = true)) (hm : c + 2 ≤ m) : gP m b' (c + 1) (L ++ [(s, 0)]) := fun d T hd => by
  obtain ⟨T1, a1, a2, a3⟩ := h d T hd
  have e1 : d + (c + 2) - 2 = d + c := by omega
  have e2 : d + (c + 2) - 1 = d + c + 1 := by omega
  have e3 : d + (c + 2) - 1 = d + (c + 1) := by omega
  rcases hs with ⟨h1, h2, h3⟩ | ⟨h1, h2⟩
  · refine ⟨updB T1 (d + c) (decide (38 ≤ s)), cRn_app a1 ⟨d + (c + 1), _, Or.inr (Or.inr (Or.inl ⟨h1, h2, by omega, by omega, by rw [e1]⟩)), by omega, rfl, rfl⟩, fun q i hi => ?_, fun j hj => ?_⟩
    · obtain ⟨q1, q2⟩ := h3 q
      have : i = c := by omega
      subst this
      simp [updB, q1]
    · have : j ≠ d + c := by omega
      simp [updB, this]
      exact a3 j hj
  · refine ⟨updB T1 (d + c) true, cRn_app a1 ⟨d + (c + 1), _, Or.inr (Or.inr (Or.inr (Or.inl ⟨h1, by omega, ?_, ?_, by omega, by rw [e1]⟩))), by omega, rfl, rfl⟩, fun q i hi => ?_, fun j hj => ?_⟩
    · rw [e2]; exact a2 h2 (c + 1) (by omega)
    · rw [e1]; exact a2 h2 c (by omega)
    · by_cases y : i = c
      · subst y; simp [updB]
      · have e : updB T1 (d + c) true (d + i) = T1 (d + i) := if_neg (by omega)
        rw [e]
        exact a2 h2 i (by omega)
    · have : j ≠ d + c := by omega
      simp [updB, this]
      exact a3 j hj
theorem gP_not {m : Nat} {L : List (Nat × Nat)} (h : gP m true 1 L) (hm : 1 ≤ m) : gP m true 1 (L ++ [(43, 0)]) := fun d T hd => by
  obtain ⟨T1, a1, a2, a3⟩ := h d T hd
  exact ⟨T1, cRn_app a1 ⟨d + 1, T1, Or.inr (Or.inr (Or.inr (Or.inr (Or.inl ⟨rfl, by omega, a2 rfl 0 (by omega), rfl, rfl⟩)))), by omega, rfl, rfl⟩, a2, a3⟩
theorem gP_pick {m m0 m1 m2 : Nat} {L0 L1 L2 : List (Nat × Nat)} (h0 : gP m0 true 1 L0) (h1 : gP m1 false 1 L1) (h2 : gP m2 false 1 L2) (e0 : m0 ≤ m) (e1 : m1 + 1 ≤ m) (e2 : m2 + 2 ≤ m) (e3 : 3 ≤ m) : gP m false 1 (L0 ++ L1 ++ L2 ++ [(44, 0)]) := fun d T hd => by
  obtain ⟨T0, a1, a2, a3⟩ := h0 d T (by omega)
  obtain ⟨T1, b1, b2, b3⟩ := h1 (d + 1) T0 (by omega)
  obtain ⟨T2, c1, c2, c3⟩ := h2 (d + 2) T1 (by omega)
  have hT : T2 d = true := by rw [c3 d (by omega), b3 d (by omega)]; exact a2 rfl 0 (by omega)
  refine ⟨updB T2 d false, cRn_app (cRn_app (cRn_app a1 b1) c1) ⟨d + 1, _, Or.inr (Or.inr (Or.inr (Or.inr (Or.inr ⟨rfl, by omega, hT, by omega, rfl⟩)))), by omega, rfl, rfl⟩, fun q => absurd q (by decide), fun j hj => ?_⟩
  have : j ≠ d := by omega
  simp [updB, this]
  rw [c3 j (by omega), b3 j (by omega)]
  exact a3 j hj
/-- facts of a topic alone -/
def gFc (lw : Nat) (L : List (Nat × Nat)) : Prop := ∀ x, x ∈ L → 1 ≤ x.1 → x.1 ≤ 7 → if lw = 1 then x.1 = 1 ∨ 5 ≤ x.1 else x.1 ≤ 4
theorem gFc_app {lw : Nat} {L M : List (Nat × Nat)} (h : gFc lw L) (g : gFc lw M) : gFc lw (L ++ M) := fun x hx => by
  rcases List.mem_append.mp hx with q | q
  · exact h x q
  · exact g x q
theorem gFc_1 {lw s v : Nat} (h : s = 0 ∨ 8 ≤ s) : gFc lw [(s, v)] := fun x hx h1 h2 => by
  have e : x = (s, v) := by simpa using hx
  rw [e] at h1 h2
  dsimp only at h1 h2
  omega
def gTy (lw m : Nat) (b : Bool) (r : NR) : Prop := r.1 = 0 → gP m b 1 r.2.2.2 ∧ gFc lw r.2.2.2
theorem gTy_b {lw m : Nat} {b : Bool} {f p : Nat} (h : f ≠ 0) : gTy lw m b (nBad f p) := fun e => absurd e h
theorem gTy_B {lw m m' : Nat} {b b' : Bool} {r : NR} {f : Nat → List (Nat × Nat) → NR} (h : gTy lw m' b' r) (g : ∀ k L, gP m' b' 1 L → gFc lw L → gTy lw m b (f k L)) : gTy lw m b (nB r f) := by
  unfold nB
  by_cases e : r.1 = 0
  · rw [if_pos e]; exact g _ _ (h e).1 (h e).2
  · rw [if_neg e]; exact gTy_b e
def mP (o : Nat) : Nat := 1 + 5 * (7 - o)
section TY
variable {K V St : Nat → Nat} {lw : Nat}
/-- what all of one depth are -/
def gTA (K V St : Nat → Nat) (lw : Nat) (R : Nat → Nat → Nat → Nat → NR) (o : Nat) : Prop :=
  (∀ w k, gTy lw (mP o + 3) true (R 0 w k o)) ∧ (∀ w k, gTy lw (mP o + 5) true (R 1 w k o)) ∧ (∀ w k, gTy lw (mP o + 2) false (R 2 w k o)) ∧ (∀ w k, gTy lw (mP o) false (R 3 w k o)) ∧ (∀ j w k, 4 ≤ j → gTy lw (mP o) false (R j w k o))
theorem gTy_open {m : Nat} {b : Bool} {k o : Nat} {r : NR} (h : o < 7 → gTy lw m b r) : gTy lw m b (gOpen St k o r) := by
  unfold gOpen
  by_cases e : 7 ≤ o
  · rw [if_pos e]; exact gTy_b (by decide)
  · rw [if_neg e]; exact h (by omega)
theorem gTy_must {m : Nat} {b : Bool} {k c : Nat} {r : NR} (h : gTy lw m b r) : gTy lw m b (gMust K V St k c r) := ite_ex (Q := gTy lw m b) h (gTy_b (by decide))
theorem gTy_o {m : Nat} {b : Bool} {k : Nat} {L : List (Nat × Nat)} (h : gP m b 1 L) (g : gFc lw L) : gTy lw m b (nOk k L) := fun _ => ⟨h, g⟩
variable {R : Nat → Nat → Nat → Nat → NR} {o : Nat}
theorem gOwe_P {m w : Nat} {b : Bool} {L : List (Nat × Nat)} (hm : 2 ≤ m) (h : gP m b (if w = 0 then 1 else 2) L) (hw : w = 0 ∨ (b = false ∧ (w = 31 ∨ w = 32)) ∨ (b = true ∧ w = 42)) : gP m b 1 (L ++ gOwe w) := by
  unfold gOwe
  by_cases e : w = 0
  · rw [if_pos e] at h ⊢
    rw [List.append_nil]; exact h
  · rw [if_neg e] at h ⊢
    refine gP_join (c := 0) h ?_ (by omega)
    rcases hw with q | ⟨q1, q2⟩ | ⟨q1, q2⟩
    · exact absurd q e
    · exact Or.inl ⟨by omega, by omega, fun z => absurd z (by rw [q1]; decide)⟩
    · exact Or.inr ⟨Or.inr q2, q1⟩
theorem gOwe_F {w : Nat} (hw : w = 0 ∨ 8 ≤ w) : gFc lw (gOwe w) := by
  unfold gOwe
  by_cases e : w = 0
  · rw [if_pos e]; exact fun x hx => by cases hx
  · rw [if_neg e]; exact gFc_1 (by omega)
theorem ww {w : Nat} (h : w = 0 ∨ w = 31 ∨ w = 32) : w = 0 ∨ (false = false ∧ (w = 31 ∨ w = 32)) ∨ (false = true ∧ w = 42) := by
  rcases h with q | q | q
  · exact Or.inl q
  · exact Or.inr (Or.inl ⟨rfl, Or.inl q⟩)
  · exact Or.inr (Or.inl ⟨rfl, Or.inr q⟩)
theorem gTy_sumL (hR : ∀ w k, gTy lw (mP o) false (R 3 w k o)) : ∀ f k w L, gP (mP o + 2) false (if w = 0 then 1 else 2) L → (w = 0 ∨ w = 31 ∨ w = 32) → gFc lw L → gTy lw (mP o + 2) false (gSumL K V R o f k w L) := by
  intro f
  induction f with
  | zero =>
    intro k w L h hw hf
    exact gTy_o (gOwe_P (by omega) h (ww hw)) (gFc_app hf (gOwe_F (by omega)))
  | succ f ih =>
    intro k w L h hw hf
    rw [gSumL]
    have st : gSt K V k = 0 ∨ (33 ≤ gSt K V k ∧ gSt K V k ≤ 35) := by
      unfold gSt
      repeat' split
      all_goals omega
    have wk : gWk K V k = 0 ∨ gWk K V k = 31 ∨ gWk K V k = 32 := by
      unfold gWk
      repeat' split
      all_goals omega
    by_cases s0 : gSt K V k = 0
    · rw [if_neg (fun q => q s0)]
      by_cases k0 : gWk K V k = 0
      · rw [if_neg (fun q => q k0)]
        exact gTy_o (gOwe_P (by omega) h (ww hw)) (gFc_app hf (gOwe_F (by omega)))
      · rw [if_pos k0]
        refine gTy_B (hR _ _) (fun k' L' h' hf' => ?_)
        refine ih _ _ _ ?_ wk (gFc_app (gFc_app hf (gOwe_F (by omega))) hf')
        rw [if_neg k0]
        exact gP_two (gOwe_P (by omega) h (ww hw)) h' (by omega)
    · rw [if_pos s0]
      refine gTy_B (hR _ _) (fun k' L' h' hf' => ?_)
      refine ih _ _ _ ?_ hw (gFc_app (gFc_app hf hf') (gFc_1 (by omega)))
      by_cases e : w = 0
      · rw [if_pos e] at h ⊢
        exact gP_join (c := 0) (gP_two h h' (by omega)) (Or.inl ⟨by omega, by omega, fun q => absurd q (by decide)⟩) (by omega)
      · rw [if_neg e] at h ⊢
        exact gP_join (c := 1) (gP_two h h' (by omega)) (Or.inl ⟨by omega, by omega, fun q => absurd q (by decide)⟩) (by unfold mP; omega)
theorem gTy_testL (hR : ∀ w k, gTy lw (mP o + 3) true (R 0 w k o)) : ∀ f k w L, gP (mP o + 5) true (if w = 0 then 1 else 2) L → (w = 0 ∨ w = 42) → gFc lw L → gTy lw (mP o + 5) true (gTestL K V R o f k w L) := by
  have w2 : ∀ w, w = 0 ∨ w = 42 → w = 0 ∨ (true = false ∧ (w = 31 ∨ w = 32)) ∨ (true = true ∧ w = 42) := fun w h => by
    rcases h with q | q
    · exact Or.inl q
    · exact Or.inr (Or.inr ⟨rfl, q⟩)
  intro f
  induction f with
  | zero =>
    intro k w L h hw hf
    exact gTy_o (gOwe_P (by omega) h (w2 w hw)) (gFc_app hf (gOwe_F (by omega)))
  | succ f ih =>
    intro k w L h hw hf
    rw [gTestL]
    by_cases a : gOw K V k 19 = true
    · rw [if_pos a]
      refine gTy_B (hR _ _) (fun k' L' h' hf' => ?_)
      refine ih _ _ _ ?_ hw (gFc_app (gFc_app hf hf') (gFc_1 (by omega)))
      by_cases e : w = 0
      · rw [if_pos e] at h ⊢
        exact gP_join (c := 0) (gP_two h h' (by omega)) (Or.inr ⟨Or.inl rfl, rfl⟩) (by omega)
      · rw [if_neg e] at h ⊢
        exact gP_join (c := 1) (gP_two h h' (by omega)) (Or.inr ⟨Or.inl rfl, rfl⟩) (by omega)
    · rw [if_neg a]
      by_cases b : gOw K V k 18 = true
      · rw [if_pos b]
        refine gTy_B (hR _ _) (fun k' L' h' hf' => ?_)
        refine ih _ _ _ ?_ (Or.inr rfl) (gFc_app (gFc_app hf (gOwe_F (by omega))) hf')
        rw [if_neg (by decide)]
        exact gP_two (gOwe_P (by omega) h (w2 w hw)) h' (by omega)
      · rw [if_neg b]
        exact gTy_o (gOwe_P (by omega) h (w2 w hw)) (gFc_app hf (gOwe_F (by omega)))
theorem gTy_call2 (ho : o < 7) (h2 : ∀ w k, gTy lw (mP (o + 1) + 2) false (R 2 w k (o + 1))) (w k : Nat) (L0 : List (Nat × Nat)) (h0 : if w = 17 then gP (mP (o + 1) + 5) true 1 L0 else L0 = []) (hf : gFc lw L0) : gTy lw (mP o) false (gCall2 K V St R w k (o + 1) L0) := by
  have em : mP o = mP (o + 1) + 5 := by unfold mP; omega
  have e1 : 1 ≤ mP (o + 1) := by unfold mP; omega
  unfold gCall2
  refine gTy_B (h2 _ _) (fun k1 L1 g1 f1 => gTy_must (gTy_B (h2 _ _) (fun k2 L2 g2 f2 => gTy_must (gTy_o ?_ ?_))))
  · by_cases e : w = 17
    · rw [if_pos e] at h0 ⊢
      exact gP_pick h0 g1 g2 (by omega) (by omega) (by omega) (by omega)
    · rw [if_neg e] at h0 ⊢
      subst h0
      rw [List.nil_append]
      have g3 : gP (mP o) false 1 L1 := gP_mono g1 (by omega)
      refine gP_join (c := 0) (gP_two g3 g2 (by omega)) ?_ (by omega)
      by_cases y : w = 22
      · rw [if_pos y]; exact Or.inl ⟨by decide, by decide, fun q => absurd q (by decide)⟩
      · rw [if_neg y]; exact Or.inl ⟨by decide, by decide, fun q => absurd q (by decide)⟩
  · refine gFc_app (gFc_app (gFc_app hf f1) f2) (gFc_1 ?_)
    by_cases e : w = 17
    · rw [if_pos e]; omega
    · rw [if_neg e]
      by_cases y : w = 22
      · rw [if_pos y]; omega
      · rw [if_neg y]; omega
theorem gFt_lw (k : Nat) : gFt K V lw k ≤ 7 ∧ (gFt K V lw k ≠ 0 → if lw = 1 then gFt K V lw k = 1 ∨ 5 ≤ gFt K V lw k else gFt K V lw k ≤ 4) := by
  unfold gFt
  by_cases e : lw = 1
  · simp only [if_pos e]
    repeat' split
    all_goals omega
  · simp only [if_neg e]
    repeat' split
    all_goals omega
theorem gTy_all (hV : ∀ k, K k = 2 → V k < 10000) : ∀ n o, o ≤ 7 → gTA K V St lw (gRec K V St lw n) o := by
  intro n
  induction n with
  | zero => intro o _; exact ⟨fun _ _ => gTy_b (by decide), fun _ _ => gTy_b (by decide), fun _ _ => gTy_b (by decide), fun _ _ => gTy_b (by decide), fun _ _ _ _ => gTy_b (by decide)⟩
  | succ n ih =>
    intro o ho
    obtain ⟨i0, i1, i2, i3, i4⟩ := ih o ho
    have up : o < 7 → gTA K V St lw (gRec K V St lw n) (o + 1) ∧ mP o = mP (o + 1) + 5 := fun h => ⟨ih (o + 1) (by omega), by unfold mP; omega⟩
    have m1 : 1 ≤ mP o := by unfold mP; omega
    have one : ∀ {m : Nat} {b : Bool} {L : List (Nat × Nat)}, gP 1 b 1 L → 1 ≤ m → gP m b 1 L := fun h e => gP_mono h e
    refine ⟨fun w k => ?_, fun w k => ?_, fun w k => ?_, fun w k => ?_, fun j w k hj => ?_⟩
    · show gTy lw (mP o + 3) true (gFact K V St (gRec K V St lw n) k o)
      unfold gFact
      refine ite_ex (Q := gTy lw (mP o + 3) true) (gTy_open (fun h => ?_)) (ite_ex (Q := gTy lw (mP o + 3) true) (gTy_open (fun h => ?_)) (ite_ex (Q := gTy lw (mP o + 3) true) ?_ ?_))
      · refine gTy_B ((up h).1.1 _ _) (fun k' L g f => gTy_o (gP_mono (gP_not g (by omega)) (by have := (up h).2; omega)) (gFc_app f (gFc_1 (by omega))))
      · refine gTy_B ((up h).1.2.1 _ _) (fun k' L g f => gTy_must (gTy_o (gP_mono g (by have := (up h).2; omega)) f))
      · exact gTy_o (one (gP_one (fun d T => Or.inr (Or.inl ⟨rfl, rfl, rfl⟩))) (by omega)) (gFc_1 (by omega))
      · refine gTy_B (i2 _ _) (fun k' L g f => ?_)
        have cm : gCm K V k' = 0 ∨ (38 ≤ gCm K V k' ∧ gCm K V k' ≤ 40) := by
          unfold gCm
          repeat' split
          all_goals omega
        by_cases c0 : gCm K V k' = 0
        · rw [if_pos c0]; exact gTy_b (by decide)
        · rw [if_neg c0]
          refine gTy_B (i2 _ _) (fun k2 L2 g2 f2 => gTy_o ?_ (gFc_app (gFc_app f f2) (gFc_1 (by omega))))
          have g' : gP (mP o + 3) false 1 L := gP_mono g (by omega)
          exact gP_join (c := 0) (gP_two g' g2 (by omega)) (Or.inl ⟨by omega, by omega, fun _ => ⟨by omega, rfl⟩⟩) (by omega)
    · show gTy lw (mP o + 5) true (gTest K V (gRec K V St lw n) k o)
      unfold gTest
      refine gTy_B (i0 _ _) (fun k' L g f => gTy_testL i0 _ _ _ _ ?_ (Or.inl rfl) f)
      rw [if_pos rfl]
      exact gP_mono g (by omega)
    · show gTy lw (mP o + 2) false (gSum K V (gRec K V St lw n) k o)
      unfold gSum
      refine gTy_B (i3 _ _) (fun k' L g f => gTy_sumL i3 _ _ _ _ ?_ (Or.inl rfl) f)
      rw [if_pos rfl]
      exact gP_mono g (by omega)
    · show gTy lw (mP o) false (gPart K V St lw (gRec K V St lw n) k o)
      unfold gPart
      by_cases k2 : K k = 2
      · rw [if_pos k2]
        exact gTy_o (one (gP_one (fun d T => Or.inl ⟨by show 0 ≤ 7; omega, fun _ => hV k k2, rfl, rfl⟩)) m1) (gFc_1 (by omega))
      rw [if_neg k2]
      by_cases f0 : gFt K V lw k = 0
      · rw [if_neg (fun q => q f0)]
        refine ite_ex (Q := gTy lw (mP o) false) (gTy_open (fun h => ?_)) (ite_ex (Q := gTy lw (mP o) false) (i4 4 _ _ (by omega)) (ite_ex (Q := gTy lw (mP o) false) (i4 4 _ _ (by omega)) (ite_ex (Q := gTy lw (mP o) false) (i4 4 _ _ (by omega)) (gTy_b (by decide)))))
        exact gTy_B ((up h).1.2.2.1 _ _) (fun k' L g f => gTy_must (gTy_o (gP_mono g (by have := (up h).2; omega)) f))
      · rw [if_pos f0]
        have fl := gFt_lw (K := K) (V := V) (lw := lw) k
        refine gTy_o (one (gP_one (fun d T => Or.inl ⟨fl.1, fun q => absurd q f0, rfl, rfl⟩)) m1) (fun x hx h1 h2 => ?_)
        have e : x = (gFt K V lw k, 0) := by simpa using hx
        rw [e]
        exact fl.2 f0
    · obtain ⟨j, rfl⟩ : ∃ i, j = i + 4 := ⟨j - 4, by omega⟩
      show gTy lw (mP o) false (gCall K V St (gRec K V St lw n) w k o)
      unfold gCall
      refine gTy_must (gTy_open (fun h => ?_))
      obtain ⟨⟨u0, u1, u2, u3, u4⟩, em⟩ := up h
      by_cases e : w = 17
      · rw [if_pos e]
        refine gTy_B (u1 _ _) (fun k' L g f => gTy_must (gTy_call2 h u2 w _ L ?_ f))
        rw [if_pos e]; exact g
      · rw [if_neg e]
        refine gTy_call2 h u2 w _ [] ?_ (fun x hx => by cases hx)
        rw [if_neg e]
/-- a formula's codes are in order -/
theorem cok_of {L : List (Nat × Nat)} {m : Nat} {b : Bool} (h : gP m b 1 L) (hm : m ≤ 100) : ∃ (D : Nat → Nat) (T : Nat → Nat → Bool), cok (fun c => (L.getD c (0, 0)).1) (fun c => (L.getD c (0, 0)).2) L.length D T ∧ (b = true → T L.length 0 = true) := by
  have go : ∀ (L : List (Nat × Nat)) (d d' : Nat) (T T' : Nat → Bool), cRn 100 L d T d' T' → ∃ (D : Nat → Nat) (U : Nat → Nat → Bool), D 0 = d ∧ U 0 = T ∧ D L.length = d' ∧ U L.length = T' ∧ ∀ c, c < L.length → D (c + 1) ≤ 100 ∧ cst (L.getD c (0, 0)).1 (L.getD c (0, 0)).2 (D c) (U c) (D (c + 1)) (U (c + 1)) := by
    intro L
    induction L with
    | nil =>
      intro d d' T T' h
      obtain ⟨a, b⟩ := h
      exact ⟨fun _ => d, fun _ => T, rfl, rfl, a.symm, b.symm, fun c hc => absurd hc (Nat.not_lt_zero _)⟩
    | cons x L ih =>
      intro d d' T T' h
      obtain ⟨d1, T1, a, b, c⟩ := h
      obtain ⟨D, U, e1, e2, e3, e4, e5⟩ := ih d1 d' T1 T' c
      refine ⟨fun c => match c with | 0 => d | c + 1 => D c, fun c => match c with | 0 => T | c + 1 => U c, rfl, rfl, e3, e4, fun c hc => ?_⟩
      cases c with
      | zero =>
        show D 0 ≤ 100 ∧ cst x.1 x.2 d T (D 0) (U 0)
        rw [e1, e2]; exact ⟨b, a⟩
      | succ c => exact e5 c (by have : (x :: L).length = L.length + 1 := rfl; omega)
  obtain ⟨T', a1, a2, a3⟩ := h 0 (fun _ => false) (by omega)
  obtain ⟨D, U, e1, e2, e3, e4, e5⟩ := go L 0 (0 + 1) _ T' a1
  exact ⟨D, U, ⟨e1, e3, e5⟩, fun q => by rw [e4]; exact a2 q 0 (by omega)⟩
end TY
