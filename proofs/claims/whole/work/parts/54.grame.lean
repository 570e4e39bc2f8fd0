section GE
variable {K V St : Nat → Nat} {lw B T' : Nat} {ks ss vs : Nat → Int32} {R : CO} {Rn : Nat → Nat → Nat → Nat → NR}
theorem gput_len (A : Nat → Int32) (c : Nat) (L M : List (Nat × Nat)) : gput (gput A c L) (c + L.length) M = gput A c (L ++ M) := (gput_app L M A c).symm
/-- the piece began earlier: what is laid counts from there -/
theorem g_call42 (h : gTok K V St B T' ks ss vs) (hd : ∀ j, cDead R (nI T') (nI lw) ks ss vs j) (o : Nat) (h2 : cLive K V St lw B T' ks ss vs R Rn 2 (o + 1)) (w : Nat) (hw : w < 1000)
    (k0 k c : Nat) (p : Int32) (A : Nat → Int32) (L0 : List (Nat × Nat)) (hk0 : k0 + 2 ≤ k) (hL0 : L0.length + k0 + 1 ≤ k) (hk : k ≤ B) (hcB : c + B ≤ 1600 + k0) :
    cG K V St B (gCall2 K V St Rn w k (o + 1) L0) p k0 o c A (mX8_call_42 R (nI w) (nI T') (nI lw) ks ss vs 0 p (nI k) (nI (K k)) (nI (St k)) (nI (V k)) (nI (o + 1)) (nI (c + L0.length)) (gput A c L0)) := by
  have hB := h.1
  unfold mX8_call_42 gCall2
  refine cG_bind (h2 0 k (c + L0.length) p _ hk (by omega) (by decide) (by omega)) (fun k1 L1 e1 e2 e3 => ?_) (fun F P s hF => ?_)
  · refine cG_must h e2 44 (by decide) (fun hk1 q => ?_) (fun F P s hF => ?_)
    · refine cG_bind (h2 0 (k1 + 1) (c + L0.length + L1.length) p _ hk1 (by omega) (by decide) (by omega)) (fun k2 L2 e4 e5 e6 => ?_) (fun F P s hF => ?_)
      · refine cG_must h e5 41 (by decide) (fun hk2 q => ?_) (fun F P s hF => ?_)
        · have len : (L0 ++ L1 ++ L2).length = L0.length + L1.length + L2.length := by rw [List.length_append, List.length_append]
          have lay : gput (gput (gput A c L0) (c + L0.length) L1) (c + L0.length + L1.length) L2 = gput A c (L0 ++ L1 ++ L2) := by
            rw [gput_len, gput_len, List.append_assoc]
          have fin : ∀ s, cG K V St B (nOk (k2 + 1) (L0 ++ L1 ++ L2 ++ [(s, 0)])) p k0 o c A (xlet (mX7_emit (ecl s 0) (nI (c + L0.length + L1.length + L2.length)) (gput (gput (gput A c L0) (c + L0.length) L1) (c + L0.length + L1.length) L2)) (xu fun q13_1 => fun q13_2 => some (0, p, nI (k2 + 1), nI (K (k2 + 1)), nI (St (k2 + 1)), nI (V (k2 + 1)), nI (o + 1) - 1, q13_1, q13_2))) := by
            intro s
            rw [s_emit _ (by omega), xlet_eq, xu_r, lay, nI_pred]
            refine Or.inl ⟨rfl, by show k0 < k2 + 1; omega, hk2, ?_, ?_⟩
            · show (L0 ++ L1 ++ L2 ++ [(s, 0)]).length + k0 ≤ k2 + 1
              rw [List.length_append, len]
              show L0.length + L1.length + L2.length + 1 + k0 ≤ k2 + 1
              omega
            · show _ = some ((0 : Int32), p, nI (k2 + 1), nI (K (k2 + 1)), nI (St (k2 + 1)), nI (V (k2 + 1)), nI o, nI (c + (L0 ++ L1 ++ L2 ++ [(s, 0)]).length), gput A c (L0 ++ L1 ++ L2 ++ [(s, 0)]))
              rw [gput_1, List.length_append, len]
              rw [show c + L0.length + L1.length + L2.length = c + (L0.length + L1.length + L2.length) by omega]
              rfl
          show cG _ _ _ _ _ _ _ _ _ _ (if nI w = 17 then _ else if nI w = 22 then _ else _)
          by_cases w17 : w = 17
          · rw [if_pos (show nI w = 17 by rw [w17]; rfl), if_pos w17]
            exact fin 44
          · rw [if_neg (show ¬ nI w = 17 from fun z => w17 ((nI_eq (b := 17) (by omega) (by decide)).mp z)), if_neg w17]
            by_cases w22 : w = 22
            · rw [if_pos (show nI w = 22 by rw [w22]; rfl), if_pos w22]
              exact fin 36
            · rw [if_neg (show ¬ nI w = 22 from fun z => w22 ((nI_eq (b := 22) (by omega) (by decide)).mp z)), if_neg w22]
              exact fin 37
        · obtain ⟨s1, s2, s3, s4⟩ := s
          simp only [xu]
          rcases mX7_emit (-23) (nI (c + L0.length + L1.length + L2.length)) (gput (gput (gput A c L0) (c + L0.length) L1) (c + L0.length + L1.length) L2) with ⟨p1, p2⟩
          rcases mX7_emit (-15) (nI (c + L0.length + L1.length + L2.length)) (gput (gput (gput A c L0) (c + L0.length) L1) (c + L0.length + L1.length) L2) with ⟨p3, p4⟩
          rcases mX7_emit (-16) (nI (c + L0.length + L1.length + L2.length)) (gput (gput (gput A c L0) (c + L0.length) L1) (c + L0.length + L1.length) L2) with ⟨p5, p6⟩
          split
          · exact ⟨_, rfl⟩
          · split
            · exact ⟨_, rfl⟩
            · exact ⟨_, rfl⟩
      · obtain ⟨c1, c2, c3, c4, c5, c6, c7⟩ := s
        simp only [xu]
        obtain ⟨⟨d1, d2, d3, d4⟩, e⟩ := s_sign_dead (nI T') ks ss vs 41 F P c1 c2 c3 c4 hF
        rw [e, xlet_eq]
        simp only [xu]
        rcases mX7_emit (-23) c6 c7 with ⟨p1, p2⟩
        rcases mX7_emit (-15) c6 c7 with ⟨p3, p4⟩
        rcases mX7_emit (-16) c6 c7 with ⟨p5, p6⟩
        split
        · exact ⟨_, rfl⟩
        · split
          · exact ⟨_, rfl⟩
          · exact ⟨_, rfl⟩
    · obtain ⟨b1, b2, b3, b4⟩ := s
      simp only [xu]
      obtain ⟨⟨c1, c2, c3, c4, c5, c6, c7⟩, e⟩ := hd 2 0 F P b1 b2 b3 b4 (nI (o + 1)) (nI (c + L0.length + L1.length)) (gput (gput A c L0) (c + L0.length) L1) hF
      rw [show (0 : Int32) = nI 0 from rfl] at e
      rw [show (0 : Int32) = nI 0 from rfl, e, obind]
      simp only [xu]
      obtain ⟨⟨d1, d2, d3, d4⟩, e⟩ := s_sign_dead (nI T') ks ss vs 41 F P c1 c2 c3 c4 hF
      rw [e, xlet_eq]
      simp only [xu]
      rcases mX7_emit (-23) c6 c7 with ⟨p1, p2⟩
      rcases mX7_emit (-15) c6 c7 with ⟨p3, p4⟩
      rcases mX7_emit (-16) c6 c7 with ⟨p5, p6⟩
      split
      · exact ⟨_, rfl⟩
      · split
        · exact ⟨_, rfl⟩
        · exact ⟨_, rfl⟩
  · obtain ⟨a1, a2, a3, a4, a5, a6, a7⟩ := s
    simp only [xu]
    obtain ⟨⟨b1, b2, b3, b4⟩, e⟩ := s_sign_dead (nI T') ks ss vs 44 F P a1 a2 a3 a4 hF
    rw [e, xlet_eq]
    simp only [xu]
    obtain ⟨⟨c1, c2, c3, c4, c5, c6, c7⟩, e⟩ := hd 2 0 F P b1 b2 b3 b4 a5 a6 a7 hF
    rw [e, obind]
    simp only [xu]
    obtain ⟨⟨d1, d2, d3, d4⟩, e⟩ := s_sign_dead (nI T') ks ss vs 41 F P c1 c2 c3 c4 hF
    rw [e, xlet_eq]
    simp only [xu]
    rcases mX7_emit (-23) c6 c7 with ⟨p1, p2⟩
    rcases mX7_emit (-15) c6 c7 with ⟨p3, p4⟩
    rcases mX7_emit (-16) c6 c7 with ⟨p5, p6⟩
    split
    · exact ⟨_, rfl⟩
    · split
      · exact ⟨_, rfl⟩
      · exact ⟨_, rfl⟩
theorem g_call (h : gTok K V St B T' ks ss vs) (hd : ∀ j, cDead R (nI T') (nI lw) ks ss vs j) (o : Nat) (ho : o ≤ 7) (h2 : o < 7 → cLive K V St lw B T' ks ss vs R Rn 2 (o + 1)) (h1 : o < 7 → cLive K V St lw B T' ks ss vs R Rn 1 (o + 1)) (w : Nat) (hw : w < 1000)
    (k c : Nat) (p : Int32) (A : Nat → Int32) (hk : k < B) (hcB : c + B ≤ 1600 + k) :
    cG K V St B (gCall K V St Rn w k o) p k o c A (mX8_call R (nI w) 0 p (nI T') (nI k) (nI (St k)) (nI o) (nI lw) ks ss vs (nI c) A) := by
  have hB := h.1
  unfold mX8_call gCall
  rw [t_next h hk, xlet_eq]
  show cG _ _ _ _ _ _ _ _ _ _ (if mX8_signNow (nI (K (k + 1))) (nI (V (k + 1))) = 40 then mX8_call_22 R (nI w) (nI T') (nI o) (nI lw) ks ss vs (nI c) A 0 p (nI (k + 1)) (nI (K (k + 1))) (nI (St (k + 1))) (nI (V (k + 1))) else _)
  have o40 : mX8_signNow (nI (K (k + 1))) (nI (V (k + 1))) = 40 ↔ gSg K V (k + 1) 40 = true := t_sgn h (show k + 1 ≤ B from hk) 40 (by decide)
  unfold gMust
  by_cases q : gSg K V (k + 1) 40 = true
  · have hk1 := t_sglt h (show k + 1 ≤ B from hk) q
    rw [if_pos (o40.mpr q), if_pos q]
    unfold mX8_call_22
    refine cG_open h hk1 (by omega) (fun ho7 => ?_) (fun F P s hF => ?_)
    · show cG _ _ _ _ _ _ _ _ _ _ (if nI w = 17 then _ else mX8_call_42 R (nI w) (nI T') (nI lw) ks ss vs 0 p (nI (k + 2)) (nI (K (k + 2))) (nI (St (k + 2))) (nI (V (k + 2))) (nI (o + 1)) (nI c) A)
      by_cases q17 : w = 17
      · rw [if_pos (show nI w = 17 by rw [q17]; rfl), if_pos q17]
        refine cG_bind (h1 ho7 0 (k + 2) c p A hk1 (by omega) (by decide) (by omega)) (fun k' L e1 e2 e3 => ?_) (fun F P s hF => ?_)
        · refine cG_must h e2 44 (by decide) (fun hk' q => ?_) (fun F P s hF => ?_)
          · exact g_call42 h hd o (h2 ho7) w hw k (k' + 1) c p A L (by omega) (by omega) hk' hcB
          · obtain ⟨b1, b2, b3, b4⟩ := s
            exact d_call42 R (nI T') (nI lw) ks ss vs (hd 2) (nI w) F P b1 b2 b3 b4 _ _ _ hF
        · obtain ⟨b1, b2, b3, b4, b5, b6, b7⟩ := s
          simp only [xu]
          obtain ⟨⟨d1, d2, d3, d4⟩, e⟩ := s_sign_dead (nI T') ks ss vs 44 F P b1 b2 b3 b4 hF
          rw [e, xlet_eq]
          exact d_call42 R (nI T') (nI lw) ks ss vs (hd 2) (nI w) F P d1 d2 d3 d4 b5 b6 b7 hF
      · rw [if_neg (show ¬ nI w = 17 from fun z => q17 ((nI_eq (b := 17) (by omega) (by decide)).mp z)), if_neg q17]
        exact g_call42 h hd o (h2 ho7) w hw k (k + 2) c p A [] (Nat.le_refl _) (by show 0 + k + 1 ≤ k + 2; omega) hk1 hcB
    · obtain ⟨a1, a2, a3, a4, a5⟩ := s
      simp only [xu]
      split
      · obtain ⟨⟨b1, b2, b3, b4, b5, b6, b7⟩, e⟩ := hd 1 0 F P a1 a2 a3 a4 a5 (nI c) A hF
        rw [e, obind]
        simp only [xu]
        obtain ⟨⟨d1, d2, d3, d4⟩, e⟩ := s_sign_dead (nI T') ks ss vs 44 F P b1 b2 b3 b4 hF
        rw [e, xlet_eq]
        exact d_call42 R (nI T') (nI lw) ks ss vs (hd 2) (nI w) F P d1 d2 d3 d4 b5 b6 b7 hF
      · exact d_call42 R (nI T') (nI lw) ks ss vs (hd 2) (nI w) F P a1 a2 a3 a4 a5 (nI c) A hF
  · rw [if_neg (fun z => q (o40.mp z)), if_neg q, t_where h (show k + 1 ≤ B from hk), show (1 : Int32) = nI 1 from rfl, t_fail, xlet_eq]
    exact cG_bad (by decide) (by decide) (d_call22 R (nI T') (nI lw) ks ss vs (hd 1) (hd 2) (nI w) (nI 1) (nI (gWh K V St (k + 1))) (nI (k + 1)) (nI (K (k + 1))) (nI (St (k + 1))) (nI (V (k + 1))) (nI o) (nI c) A (by decide))
theorem eow_ne {w : Nat} (h1 : 31 ≤ w) (h2 : w ≤ 44) : eow w = ecl w 0 ∧ ¬ eow w = 0 := by
  have := ecl_big w h1 h2
  unfold eow
  rw [if_neg (by omega)]
  exact ⟨rfl, fun q => by rw [q] at this; exact absurd this.1 (by decide)⟩
theorem gSt_rng (k : Nat) : gSt K V k = 0 ∨ (31 ≤ gSt K V k ∧ gSt K V k ≤ 44) := by
  unfold gSt
  repeat' split
  all_goals decide
theorem gWk_rng (k : Nat) : gWk K V k = 0 ∨ (31 ≤ gWk K V k ∧ gWk K V k ≤ 44) := by
  unfold gWk
  repeat' split
  all_goals decide
theorem gCm_rng (k : Nat) : gCm K V k = 0 ∨ (31 ≤ gCm K V k ∧ gCm K V k ≤ 44) := by
  unfold gCm
  repeat' split
  all_goals decide
theorem gSt_lt (h : gTok K V St B T' ks ss vs) {k : Nat} (hk : k ≤ B) (q : gSt K V k ≠ 0) : k < B := by
  unfold gSt at q
  split at q
  · rename_i z; exact t_sglt h hk z
  · split at q
    · rename_i z; exact t_sglt h hk z
    · split at q
      · rename_i z; exact t_sglt h hk z
      · exact absurd rfl q
theorem gWk_lt (h : gTok K V St B T' ks ss vs) {k : Nat} (hk : k ≤ B) (q : gWk K V k ≠ 0) : k < B := by
  unfold gWk at q
  split at q
  · rename_i z; exact t_sglt h hk z
  · split at q
    · rename_i z; exact t_sglt h hk z
    · exact absurd rfl q
theorem gCm_lt (h : gTok K V St B T' ks ss vs) {k : Nat} (hk : k ≤ B) (q : gCm K V k ≠ 0) : k < B := by
  unfold gCm at q
  split at q
  · rename_i z; exact t_sglt h hk z
  · split at q
    · rename_i z; exact t_sglt h hk z
    · split at q
      · rename_i z; exact t_sglt h hk z
      · exact absurd rfl q
theorem gOwe_len (w : Nat) : (gOwe w).length = if w = 0 then 0 else 1 := by
  unfold gOwe; split <;> rfl
/-- the end of a sum, with what is owed -/
theorem g_sum115 {k0 k c o w : Nat} {p : Int32} {A : Nat → Int32} {L : List (Nat × Nat)} (hw : w = 0 ∨ (31 ≤ w ∧ w ≤ 44)) (hk0 : k0 < k) (hk : k ≤ B) (hL : L.length + (if w = 0 then 0 else 1) + k0 ≤ k) (hc : c + B ≤ 1600 + k0) :
    cG K V St B (nOk k (L ++ gOwe w)) p k0 o c A (mX8_sum_115 (eow w) 0 p (nI k) (nI (K k)) (nI (St k)) (nI (V k)) (nI o) (nI (c + L.length)) (gput A c L)) := by
  unfold mX8_sum_115
  rcases hw with e | ⟨e1, e2⟩
  · subst e
    rw [if_pos (show eow 0 = 0 from rfl), show gOwe 0 = [] from rfl, List.append_nil]
    rw [if_pos rfl] at hL
    exact Or.inl ⟨rfl, hk0, hk, by show L.length + k0 ≤ k; omega, rfl⟩
  · obtain ⟨a, b⟩ := eow_ne e1 e2
    rw [if_neg (by omega)] at hL
    rw [if_neg b, a, s_emit _ (by omega), xlet_eq]
    have eo : gOwe w = [(w, 0)] := by unfold gOwe; rw [if_neg (by omega)]
    rw [eo]
    refine Or.inl ⟨rfl, hk0, hk, ?_, ?_⟩
    · show (L ++ [(w, 0)]).length + k0 ≤ k
      rw [List.length_append]
      show L.length + 1 + k0 ≤ k
      omega
    · show some ((0 : Int32), p, nI k, nI (K k), nI (St k), nI (V k), nI o, nI (c + L.length + 1), upd (gput A c L) (c + L.length) (ecl w 0)) = some ((0 : Int32), p, nI k, nI (K k), nI (St k), nI (V k), nI o, nI (c + (L ++ [(w, 0)]).length), gput A c (L ++ [(w, 0)]))
      rw [gput_1, List.length_append]
      rfl
theorem g_sum8 (h : gTok K V St B T' ks ss vs) (o : Nat) (h3 : cLive K V St lw B T' ks ss vs R Rn 3 o) (k0 c : Nat) (p : Int32) (A : Nat → Int32) (hcB : c + B ≤ 1600 + k0) : ∀ (f i k w : Nat) (L : List (Nat × Nat)), (w = 0 ∨ (31 ≤ w ∧ w ≤ 44)) → k0 < k → k ≤ B → L.length + (if w = 0 then 0 else 1) + k0 ≤ k →
    cG K V St B (gSumL K V Rn o f k w L) p k0 o c A (mX8_sum_8 R (nI T') (nI lw) ks ss vs f i (eow w) 0 p (nI k) (nI (K k)) (nI (St k)) (nI (V k)) (nI o) (nI (c + L.length)) (gput A c L)) := by
  have hB := h.1
  intro f
  induction f with
  | zero =>
    intro i k w L hw hk0 hk hL
    rw [mX8_sum_8, gSumL]
    exact g_sum115 hw hk0 hk hL hcB
  | succ f ih =>
    intro i k w L hw hk0 hk hL
    rw [mX8_sum_8, gSumL, if_pos rfl]
    have o43 : mX8_signNow (nI (K k)) (nI (V k)) = 43 ↔ gSg K V k 43 = true := t_sgn h hk 43 (by decide)
    have o45 : mX8_signNow (nI (K k)) (nI (V k)) = 45 ↔ gSg K V k 45 = true := t_sgn h hk 45 (by decide)
    have body : ∀ s0, s0 = eow (gWk K V k) → cG K V St B (if gSt K V k ≠ 0 then nB (Rn 3 0 (k + 1) o) (fun k' L' => gSumL K V Rn o f k' w (L ++ L' ++ [(gSt K V k, 0)])) else if gWk K V k ≠ 0 then nB (Rn 3 0 (k + 1) o) (fun k' L' => gSumL K V Rn o f k' (gWk K V k) (L ++ gOwe w ++ L')) else nOk k (L ++ gOwe w)) p k0 o c A
        (mX8_sum_56 R (nI T') (nI lw) ks ss vs 0 (nI (K k)) (nI k) (nI o) p (nI (St k)) (nI (V k)) (gput A c L) (nI (c + L.length)) (eow w) (fun zx1_8 zf_fault_8 zf_place_8 zf_now_8 zf_kind_8 zf_start_8 zf_value_8 zf_open_8 zplan_f_codes_8 zplan_a_code_8 => mX8_sum_8 R (nI T') (nI lw) ks ss vs f (i + 1) zx1_8 zf_fault_8 zf_place_8 zf_now_8 zf_kind_8 zf_start_8 zf_value_8 zf_open_8 zplan_f_codes_8 zplan_a_code_8) s0) := by
      intro s0 hs0
      unfold mX8_sum_56
      rw [t_prod h hk, hs0]
      by_cases q1 : gSt K V k = 0
      · rw [q1, if_pos (show eow 0 = 0 from rfl), if_neg (fun z => z rfl)]
        by_cases q2 : gWk K V k = 0
        · rw [q2, if_pos (show eow 0 = 0 from rfl), if_neg (fun z => z rfl)]
          exact g_sum115 hw hk0 hk hL hcB
        · have hkB := gWk_lt h hk q2
          have rng := (gWk_rng (K := K) (V := V) k).resolve_left q2
          obtain ⟨w1, w2⟩ := eow_ne rng.1 rng.2
          rw [if_neg w2, if_pos q2, t_next h hkB, xlet_eq]
          simp only [xu]
          have ol := gOwe_len w
          rcases hw with e | ⟨e1, e2⟩
          · subst e
            rw [if_pos rfl] at hL ol
            rw [if_pos (show eow 0 = 0 from rfl)]
            refine cG_bind (h3 0 (k + 1) (c + L.length) p _ hkB (by omega) (by decide) (by omega)) (fun k' L' d1 d2 d3 => ?_) (fun F P s hF => ?_)
            · have len : (L ++ gOwe 0 ++ L').length = L.length + L'.length := by rw [List.length_append, List.length_append, ol, Nat.add_zero]
              have key := ih (i + 1) k' (gWk K V k) (L ++ gOwe 0 ++ L') (Or.inr rng) (by omega) d2 (by rw [len, if_neg q2]; omega)
              rw [len] at key
              have lay : gput A c (L ++ gOwe 0 ++ L') = gput (gput A c L) (c + L.length) L' := by rw [show gOwe 0 = [] from rfl, List.append_nil, gput_app]
              rw [lay, show c + (L.length + L'.length) = c + L.length + L'.length by omega] at key
              exact key
            · obtain ⟨a1, a2, a3, a4, a5, a6, a7⟩ := s
              exact d_sum8 R (nI T') (nI lw) ks ss vs f (i + 1) _ F P a1 a2 a3 a4 a5 a6 a7 hF
          · obtain ⟨a, b⟩ := eow_ne e1 e2
            rw [if_neg (show ¬ w = 0 by omega)] at hL ol
            rw [if_neg b, a, s_emit _ (by omega), xlet_eq]
            simp only [xu]
            have eo : gOwe w = [(w, 0)] := by unfold gOwe; rw [if_neg (by omega)]
            refine cG_bind (h3 0 (k + 1) (c + L.length + 1) p _ hkB (by omega) (by decide) (by omega)) (fun k' L' d1 d2 d3 => ?_) (fun F P s hF => ?_)
            · have len : (L ++ gOwe w ++ L').length = L.length + 1 + L'.length := by rw [List.length_append, List.length_append, ol]
              have key := ih (i + 1) k' (gWk K V k) (L ++ gOwe w ++ L') (Or.inr rng) (by omega) d2 (by rw [len, if_neg q2]; omega)
              rw [len] at key
              have lay : gput A c (L ++ gOwe w ++ L') = gput (upd (gput A c L) (c + L.length) (ecl w 0)) (c + L.length + 1) L' := by
                rw [gput_app, eo, gput_1, List.length_append]; rfl
              rw [lay, show c + (L.length + 1 + L'.length) = c + L.length + 1 + L'.length by omega] at key
              exact key
            · obtain ⟨a1, a2, a3, a4, a5, a6, a7⟩ := s
              exact d_sum8 R (nI T') (nI lw) ks ss vs f (i + 1) _ F P a1 a2 a3 a4 a5 a6 a7 hF
      · have hkB := gSt_lt h hk q1
        have rng := (gSt_rng (K := K) (V := V) k).resolve_left q1
        obtain ⟨w1, w2⟩ := eow_ne rng.1 rng.2
        rw [if_neg w2, if_pos q1, t_next h hkB, xlet_eq]
        simp only [xu]
        have hL2 : L.length + k0 ≤ k := by omega
        refine cG_bind (h3 0 (k + 1) (c + L.length) p _ hkB (by omega) (by decide) (by omega)) (fun k' L' d1 d2 d3 => ?_) (fun F P s hF => ?_)
        · show cG _ _ _ _ _ _ _ _ _ _ (xlet (mX7_emit (eow (gSt K V k)) (nI (c + L.length + L'.length)) (gput (gput A c L) (c + L.length) L')) _)
          have hL3 : c + L.length + L'.length < 1600 := by omega
          rw [w1, s_emit _ hL3, xlet_eq]
          have len : (L ++ L' ++ [(gSt K V k, 0)]).length = L.length + L'.length + 1 := by rw [List.length_append, List.length_append]; rfl
          have key := ih (i + 1) k' w (L ++ L' ++ [(gSt K V k, 0)]) hw (by omega) d2 (by rw [len]; omega)
          rw [len] at key
          have lay : gput A c (L ++ L' ++ [(gSt K V k, 0)]) = upd (gput (gput A c L) (c + L.length) L') (c + L.length + L'.length) (ecl (gSt K V k) 0) := by
            rw [gput_1, ← gput_len, List.length_append]
            rw [show c + (L.length + L'.length) = c + L.length + L'.length by omega]
          rw [lay, show c + (L.length + L'.length + 1) = c + L.length + L'.length + 1 by omega] at key
          exact key
        · obtain ⟨a1, a2, a3, a4, a5, a6, a7⟩ := s
          simp only [xu]
          rcases mX7_emit (eow (gSt K V k)) a6 a7 with ⟨p1, p2⟩
          rw [xlet_eq]
          exact d_sum8 R (nI T') (nI lw) ks ss vs f (i + 1) _ F P a1 a2 a3 a4 a5 p1 p2 hF
    by_cases p43 : gSg K V k 43 = true
    · rw [if_pos (o43.mpr p43)]
      exact body _ (by unfold gWk; rw [if_pos p43]; rfl)
    · rw [if_neg (fun z => p43 (o43.mp z))]
      by_cases p45 : gSg K V k 45 = true
      · rw [if_pos (o45.mpr p45)]
        exact body _ (by unfold gWk; rw [if_neg p43, if_pos p45]; rfl)
      · rw [if_neg (fun z => p45 (o45.mp z))]
        exact body _ (by unfold gWk; rw [if_neg p43, if_neg p45]; rfl)
theorem g_sum (h : gTok K V St B T' ks ss vs) (o : Nat) (h3 : cLive K V St lw B T' ks ss vs R Rn 3 o) (k c : Nat) (p : Int32) (A : Nat → Int32) (hk : k ≤ B) (hcB : c + B ≤ 1600 + k) :
    cG K V St B (gSum K V Rn k o) p k o c A (mX8_sum R 0 p (nI T') (nI k) (nI (K k)) (nI (St k)) (nI (V k)) (nI o) (nI lw) ks ss vs (nI c) A) := by
  unfold mX8_sum gSum
  refine cG_bind (h3 0 k c p A hk (by omega) (by decide) hcB) (fun k' L d1 d2 d3 => ?_) (fun F P s hF => ?_)
  · exact g_sum8 h o h3 k c p A hcB 1600 0 k' 0 L (Or.inl rfl) d1 d2 (by rw [if_pos rfl]; omega)
  · obtain ⟨a1, a2, a3, a4, a5, a6, a7⟩ := s
    exact d_sum8 R (nI T') (nI lw) ks ss vs 1600 0 0 F P a1 a2 a3 a4 a5 a6 a7 hF
end GE
