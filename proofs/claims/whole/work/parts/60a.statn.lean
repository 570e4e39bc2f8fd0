section SN
variable {K V St : Nat → Nat} {B T' : Nat} {ks ss vs : Nat → Int32}
theorem j_link (h : gTok K V St B T' ks ss vs) {P : NP} {L : List (Nat × Nat)} (hP : nOkP P L) {k : Nat} (hk : k < B) (hL : L.length ≤ k) {un ch sm th rn cd tp p : Int32} {nm sz bg lc ln rr co cf cl : Nat → Int32} {du : Bool} (hc : cPl P L un ch sm th rn cd nm sz bg lc ln rr co cf cl du) :
    cJ K V St B T' ks ss vs (nLink K V St k P L) p sm k (xlet (mX8_linkTold (nI (St k)) 0 p (nI T') (nI k) (nI (St k)) ks ss vs th nm lc ln) (xu fun q18_1 => xu fun q18_2 => xu fun q18_3 => xu fun q18_4 => xu fun q18_5 => xu fun q18_6 => xu fun q18_7 => fun q18_8 =>
      mX8_statement_221 (nI T') ks ss vs sm q18_1 q18_2 q18_3 q18_4 q18_5 q18_6 0 tp du un ch th rn cd nm sz bg q18_7 q18_8 rr co cf cl)) := by
  obtain ⟨c1, c2, c3, c4, c5, c6, c7, c8, c9, c10, c11, c12, c13, c14⟩ := hc
  obtain ⟨p1, p2, p3, p4, p5, p6, p7, p8, p9, p10, p11⟩ := hP
  have hB := h.1
  generalize hG : (xu fun q18_1 => xu fun q18_2 => xu fun q18_3 => xu fun q18_4 => xu fun q18_5 => xu fun q18_6 => xu fun q18_7 => fun q18_8 => mX8_statement_221 (nI T') ks ss vs sm q18_1 q18_2 q18_3 q18_4 q18_5 q18_6 0 tp du un ch th rn cd nm sz bg q18_7 q18_8 rr co cf cl) = G
  have dead : ∀ (F Q : Int32) (r : Int32 × Int32 × Int32 × Int32 × Int32 × Int32 × (Nat → Int32) × (Nat → Int32)), (∃ s, r = (F, Q, s)) → ¬ F = 0 → ∃ s', xlet r G = some (F, Q, s') := by
    intro F Q r hr hF
    obtain ⟨⟨a1, a2, a3, a4, a5, a6⟩, e⟩ := hr
    rw [e, xlet_eq, ← hG]
    exact e_st221 (nI T') ks ss vs sm F Q a1 a2 a3 a4 0 tp du un ch th rn cd nm sz bg a5 a6 rr co cf cl hF
  have dead33 : ∀ (x y F Q now kd st v : Int32), ¬ F = 0 → ∃ s', xlet (mX8_linkTold_33 (nI T') ks ss vs th nm lc ln x y F Q now kd st v) G = some (F, Q, s') := fun x y F Q now kd st v hF => dead F Q _ (e_link33 (nI T') ks ss vs th nm lc ln x y F Q now kd st v hF) hF
  unfold mX8_linkTold nLink
  rw [t_next h hk, xlet_as, xlet_eq]
  simp only [xu]
  rw [c4] at dead33 ⊢
  rw [xlet_as]
  have hk1 : k + 1 ≤ B := hk
  refine c_known h hk1 p4 p7 (fun t ht => (c7 t ht).1) (fun hkB a ha hna => ?_) (fun y F Q hF => ?_)
  · simp only [xu]
    have hla := p10 a
    rw [s_at 24 a (by omega) (by decide), c9 a (by omega), xlet_if]
    by_cases h4 : P 4 a < 4
    · rw [if_pos (show nI (P 4 a) < 4 from nI_lt (b := 4) h4 (by decide)), if_neg (by omega)]
      unfold mX8_linkTold_33
      rw [t_next h hkB, xlet_as, xlet_eq]
      simp only [xu]
      rw [show (5 : Int32) = nI 5 from rfl, xlet_as]
      refine c_own h (show k + 2 ≤ B from hkB) 5 (by decide) (fun hk2 => ?_) (fun F Q s hF => ?_)
      · simp only [xu]
        rw [xlet_as]
        refine c_known h (show k + 3 ≤ B from hk2) p4 p7 (fun t ht => (c7 t ht).1) (fun hk3 b hb hnb => ?_) (fun y F Q hF => ?_)
        · simp only [xu]
          rw [t_next h hk3, xlet_as, xlet_eq]
          simp only [xu]
          rw [if_neg (zn0 (by omega)), if_neg (zn0 (by omega)), if_pos (show nI (P 4 a) < 4 from nI_lt (b := 4) h4 (by decide)), zi_k, nI_1, s_put 96 (4 * a + P 4 a) (by omega) (by decide), s_put 24 a (by omega) (by decide), xlet_eq, xlet_eq, xlet_eq, ← hG]
          refine Or.inl ⟨rfl, by show k < k + 4; omega, hk3, by show L.length ≤ k + 4; omega, ?_, tp, du, un, ch, th, rn, cd, nm, sz, bg, upd lc a (nI (P 4 a + 1)), upd ln (4 * a + P 4 a) (nI b), rr, co, cf, cl, ?_, rfl⟩
          · show nOkP (gset (gset P 5 (4 * a + P 4 a) (b + 1)) 4 a (P 4 a + 1)) L
            refine ⟨by simp [gset]; exact p1, by simp [gset]; exact p2, by simp [gset]; exact p3, by simp [gset]; exact p4, by simp [gset]; exact p5, by simp [gset]; exact p6, fun t => by simp [gset]; exact p7 t, fun t => by simp [gset]; exact p8 t, fun t => by simp [gset]; exact p9 t, fun t => ?_, fun w hw => by simp [gset]; exact p11 w hw⟩
            simp [gset]; split
            · omega
            · exact p10 t
          · show cPl (gset (gset P 5 (4 * a + P 4 a) (b + 1)) 4 a (P 4 a + 1)) L _ _ _ _ _ _ _ _ _ _ _ _ _ _ _ _
            refine ⟨by simp [gset]; exact c1, by simp [gset]; exact c2, by simp [gset]; exact c3, by simp [gset]; exact c4, by simp [gset]; exact c5, c6, fun t ht => ?_, fun t ht => by simp [gset]; exact c8 t ht, fun t ht => ?_, fun j hj => ?_, fun t ht => by simp [gset]; exact c11 t ht, fun t ht => by simp [gset]; exact c12 t ht, c13, by simp [gset]; exact c14⟩
            · have ht2 : t < P 0 3 := by simp [gset] at ht; omega
              simp [gset]; exact c7 t ht2
            · by_cases e : t = a
              · subst e; rw [pk_us]; simp [gset]
              · rw [pk_un e]; simp [gset, e]; exact c9 t ht
            · by_cases e : j = 4 * a + P 4 a
              · subst e; rw [pk_us]; simp [gset, bnoS]
              · rw [pk_un e]; simp [gset, e]; exact c10 j hj
        · simp only [xu]
          rcases mX8_next (nI T') (nI (k + 2 + 1)) (nI (St (k + 2 + 1))) ks ss vs with ⟨q1, q2, q3, q4⟩
          rw [xlet_as, xlet_eq]
          simp only [xu]
          split
          · exact dead F Q _ ⟨_, rfl⟩ hF
          · split
            · exact dead F Q _ ⟨_, rfl⟩ hF
            · split
              · exact dead F Q _ ⟨_, rfl⟩ hF
              · exact dead F Q _ ⟨_, rfl⟩ hF
      · obtain ⟨s1, s2, s3, s4⟩ := s
        simp only [xu]
        obtain ⟨z, e⟩ := e_known F Q s2 s3 s4 (nI (P 0 3)) nm hF
        rw [e, xlet_as, xlet_eq]
        simp only [xu]
        rcases mX8_next (nI T') s1 s3 ks ss vs with ⟨q1, q2, q3, q4⟩
        rw [xlet_as, xlet_eq]
        simp only [xu]
        split
        · exact dead F Q _ ⟨_, rfl⟩ hF
        · split
          · exact dead F Q _ ⟨_, rfl⟩ hF
          · split
            · exact dead F Q _ ⟨_, rfl⟩ hF
            · exact dead F Q _ ⟨_, rfl⟩ hF
    · rw [if_neg (show ¬ nI (P 4 a) < 4 from nI_nlt (b := 4) (by omega) (by omega)), if_pos (by omega), show (6 : Int32) = nI 6 from rfl, t_fail, xlet_as, xlet_eq]
      simp only [xu]
      exact cJ_bad (by decide) (by decide) (dead33 _ _ _ _ _ _ _ _ (nz _ (by decide) (by decide)))
  · simp only [xu]
    rw [xlet_if]
    split
    · exact dead33 _ _ _ _ _ _ _ _ hF
    · rw [s_fail0 _ _ F Q hF, xlet_as, xlet_eq]
      simp only [xu]
      exact dead33 _ _ _ _ _ _ _ _ hF
theorem j_root (h : gTok K V St B T' ks ss vs) {P : NP} {L : List (Nat × Nat)} (hP : nOkP P L) {k : Nat} (hk : k < B) (hL : L.length ≤ k) {un ch sm th rn cd tp p : Int32} {nm sz bg lc ln rr co cf cl : Nat → Int32} {du : Bool} (hc : cPl P L un ch sm th rn cd nm sz bg lc ln rr co cf cl du) :
    cJ K V St B T' ks ss vs (nRoot K V St k P L) p sm k (xlet (mX8_rootTold (nI (St k)) 0 p (nI T') (nI k) (nI (St k)) ks ss vs th rn nm rr) (xu fun q23_1 => xu fun q23_2 => xu fun q23_3 => xu fun q23_4 => xu fun q23_5 => xu fun q23_6 => xu fun q23_7 => fun q23_8 =>
      mX8_statement_221 (nI T') ks ss vs sm q23_1 q23_2 q23_3 q23_4 q23_5 q23_6 0 tp du un ch th q23_7 cd nm sz bg lc ln q23_8 co cf cl)) := by
  obtain ⟨c1, c2, c3, c4, c5, c6, c7, c8, c9, c10, c11, c12, c13, c14⟩ := hc
  obtain ⟨p1, p2, p3, p4, p5, p6, p7, p8, p9, p10, p11⟩ := hP
  have hB := h.1
  generalize hG : (xu fun q23_1 => xu fun q23_2 => xu fun q23_3 => xu fun q23_4 => xu fun q23_5 => xu fun q23_6 => xu fun q23_7 => fun q23_8 => mX8_statement_221 (nI T') ks ss vs sm q23_1 q23_2 q23_3 q23_4 q23_5 q23_6 0 tp du un ch th q23_7 cd nm sz bg lc ln q23_8 co cf cl) = G
  have dead : ∀ (F Q : Int32) (r : Int32 × Int32 × Int32 × Int32 × Int32 × Int32 × Int32 × (Nat → Int32)), (∃ s, r = (F, Q, s)) → ¬ F = 0 → ∃ s', xlet r G = some (F, Q, s') := by
    intro F Q r hr hF
    obtain ⟨⟨a1, a2, a3, a4, a5, a6⟩, e⟩ := hr
    rw [e, xlet_eq, ← hG]
    exact e_st221 (nI T') ks ss vs sm F Q a1 a2 a3 a4 0 tp du un ch th a5 cd nm sz bg lc ln a6 co cf cl hF
  unfold mX8_rootTold nRoot
  rw [xlet_if, c4, c5]
  by_cases h8 : P 0 4 < 8
  · rw [if_pos (show nI (P 0 4) < 8 from nI_lt (b := 8) h8 (by decide)), if_neg (by omega)]
    unfold mX8_rootTold_19
    rw [t_next h hk, xlet_as, xlet_eq]
    simp only [xu]
    rw [xlet_as]
    have hk1 : k + 1 ≤ B := hk
    refine c_known h hk1 p4 p7 (fun t ht => (c7 t ht).1) (fun hkB a ha hna => ?_) (fun y F Q hF => ?_)
    · simp only [xu]
      rw [s_put 8 (P 0 4) h8 (by decide), xlet_as, xlet_eq, t_next h hkB, xlet_as, xlet_eq]
      simp only [xu]
      rw [xlet_eq, ← hG, nI_1]
      refine Or.inl ⟨rfl, by show k < k + 2; omega, hkB, by show L.length ≤ k + 2; omega, ?_, tp, du, un, ch, th, nI (P 0 4 + 1), cd, nm, sz, bg, lc, ln, upd rr (P 0 4) (nI a), co, cf, cl, ?_, rfl⟩
      · show nOkP (gset (gset P 7 (P 0 4) (a + 1)) 0 4 (P 0 4 + 1)) L
        exact ⟨by simp [gset]; exact p1, by simp [gset]; exact p2, by simp [gset]; exact p3, by simp [gset]; exact p4, by simp [gset]; omega, by simp [gset]; exact p6, fun t => by simp [gset]; exact p7 t, fun t => by simp [gset]; exact p8 t, fun t => by simp [gset]; exact p9 t, fun t => by simp [gset]; exact p10 t, fun w hw => by simp [gset]; exact p11 w hw⟩
      · show cPl (gset (gset P 7 (P 0 4) (a + 1)) 0 4 (P 0 4 + 1)) L _ _ _ _ _ _ _ _ _ _ _ _ _ _ _ _
        refine ⟨by simp [gset]; exact c1, by simp [gset]; exact c2, by simp [gset]; exact c3, by simp [gset]; exact c4, by simp [gset], c6, fun t ht => ?_, fun t ht => by simp [gset]; exact c8 t ht, fun t ht => by simp [gset]; exact c9 t ht, fun t ht => by simp [gset]; exact c10 t ht, fun j hj => ?_, fun t ht => by simp [gset]; exact c12 t ht, c13, by simp [gset]; exact c14⟩
        · have ht2 : t < P 0 3 := by simp [gset] at ht; omega
          simp [gset]; exact c7 t ht2
        · by_cases e : j = P 0 4
          · subst e; rw [pk_us]; simp [gset, bnoS]
          · rw [pk_un e]; simp [gset, e]; exact c11 j hj
    · simp only [xu]
      rw [xlet_as, xlet_eq]
      rcases mX8_next (nI T') (nI (k + 1)) (nI (St (k + 1))) ks ss vs with ⟨q1, q2, q3, q4⟩
      exact dead F Q _ ⟨_, rfl⟩ hF
  · rw [if_neg (show ¬ nI (P 0 4) < 8 from nI_nlt (b := 8) (by omega) (by omega)), if_pos (by omega), show (6 : Int32) = nI 6 from rfl, t_fail, xlet_as, xlet_eq]
    simp only [xu]
    exact cJ_bad (by decide) (by decide) (dead _ _ _ (e_root19 (nI T') ks ss vs (nI k) (nI (St k)) (nI (P 0 3)) (nI (P 0 4)) nm rr (nI 6) (nI (St k)) (nz _ (by decide) (by decide))) (nz _ (by decide) (by decide)))
theorem j_form (h : gTok K V St B T' ks ss vs) {P : NP} {L : List (Nat × Nat)} (hP : nOkP P L) {k : Nat} (hk : k < B) (hL : L.length ≤ k) (w : Nat) (hw : w < 3) {un ch sm th rn cd p : Int32} {nm sz bg lc ln rr co cf cl : Nat → Int32} {du : Bool} (hc : cPl P L un ch sm th rn cd nm sz bg lc ln rr co cf cl du) :
    cJ K V St B T' ks ss vs (nForm K V St w k P L) p sm k ((mX8_formula (nI w) (nI (St k)) 0 p (nI T') (nI k) (nI (St k)) 0 ks ss vs cd co cf cl).bind (xu fun q30_1 => xu fun q30_2 => xu fun q30_3 => xu fun q30_4 => xu fun q30_5 => xu fun q30_6 => xu fun q30_7 => xu fun q30_8 => xu fun q30_9 => xu fun q30_10 => xu fun q30_11 => fun q30_12 =>
      mX8_statement_221 (nI T') ks ss vs sm q30_1 q30_2 q30_3 q30_4 q30_5 q30_6 q30_7 q30_8 du un ch th rn q30_9 nm sz bg lc ln rr q30_10 q30_11 q30_12)) := by
  obtain ⟨c1, c2, c3, c4, c5, c6, c7, c8, c9, c10, c11, c12, c13, c14⟩ := hc
  obtain ⟨p1, p2, p3, p4, p5, p6, p7, p8, p9, p10, p11⟩ := hP
  have hB := h.1
  obtain ⟨A0, hA⟩ := c13
  generalize hG : (xu fun q30_1 => xu fun q30_2 => xu fun q30_3 => xu fun q30_4 => xu fun q30_5 => xu fun q30_6 => xu fun q30_7 => xu fun q30_8 => xu fun q30_9 => xu fun q30_10 => xu fun q30_11 => fun q30_12 => mX8_statement_221 (nI T') ks ss vs sm q30_1 q30_2 q30_3 q30_4 q30_5 q30_6 q30_7 q30_8 du un ch th rn q30_9 nm sz bg lc ln rr q30_10 q30_11 q30_12) = G
  have dead : ∀ (F Q : Int32) (r : Option (Int32 × Int32 × Int32 × Int32 × Int32 × Int32 × Int32 × Int32 × Int32 × (Nat → Int32) × (Nat → Int32) × (Nat → Int32))), (∃ s, r = some (F, Q, s)) → ¬ F = 0 → ∃ s', r.bind G = some (F, Q, s') := by
    intro F Q r hr hF
    obtain ⟨⟨a1, a2, a3, a4, a5, a6, a7, a8, a9, a10⟩, e⟩ := hr
    rw [e, obind, ← hG]
    exact e_st221 (nI T') ks ss vs sm F Q a1 a2 a3 a4 a5 a6 du un ch th rn a7 nm sz bg lc ln rr a8 a9 a10 hF
  unfold mX8_formula nForm
  dsimp only
  rw [s_at 3 w hw (by decide), (c12 w hw).2]
  have h9 := (p11 w hw).2
  by_cases h0 : 0 < P 9 w
  · rw [if_pos (show 0 < nI (P 9 w) from nI_lt (a := 0) h0 (by omega)), if_pos h0, show (6 : Int32) = nI 6 from rfl, t_fail, xlet_eq]
    exact cJ_bad (by decide) (by decide) (dead _ _ _ (e_form21 (nI T') ks ss vs (nI w) (nI k) (nI (St k)) 0 cd co cf cl (nI 6) (nI (St k)) (nz _ (by decide) (by decide))) (nz _ (by decide) (by decide)))
  · rw [if_neg (show ¬ 0 < nI (P 9 w) from nI_nlt (a := 0) (by omega) (by decide)), if_neg h0]
    unfold mX8_formula_21
    rw [t_next h hk, xlet_eq]
    simp only [xu]
    have rec60 := g_rec h hw 60 0 (by decide)
    rw [(gNd 0).1, (gNd 0).2.1, (gNd 0).2.2.1, (gNd 0).2.2.2.1, (gNd 0).2.2.2.2] at rec60
    have fin : ∀ (r : NR) (res : Option (Int32 × Int32 × Int32 × Int32 × Int32 × Int32 × Int32 × Int32 × (Nat → Int32))), cG K V St B r p (k + 1) 0 L.length co res →
        cJ K V St B T' ks ss vs (if r.1 = 0 then sOk r.2.2.1 (gset (gset P 8 w L.length) 9 w r.2.2.2.length) (L ++ r.2.2.2) else sBad r.1 r.2.1 P) p sm k ((res.bind (xu fun q5_1 => xu fun q5_2 => xu fun q5_3 => xu fun q5_4 => xu fun q5_5 => xu fun q5_6 => xu fun q5_7 => xu fun q5_8 => fun q5_9 => mX8_formula_54 (nI w) cd cf cl q5_1 q5_2 q5_3 q5_4 q5_5 q5_6 q5_7 q5_8 q5_9)).bind G) := by
      intro r res hr
      rcases hr with ⟨r1, r2, r3, r4, r5⟩ | ⟨r1, r2, s, r5⟩
      · rw [if_pos r1, r5, obind]
        show cJ _ _ _ _ _ _ _ _ _ _ _ _ ((mX8_formula_54 (nI w) cd cf cl 0 p (nI r.2.2.1) (nI (K r.2.2.1)) (nI (St r.2.2.1)) (nI (V r.2.2.1)) (nI 0) (nI (L.length + r.2.2.2.length)) (gput co L.length r.2.2.2)).bind G)
        unfold mX8_formula_54
        have hsub : nI (L.length + r.2.2.2.length) - nI L.length = nI r.2.2.2.length := by
          rw [pk_sub (by omega)]; congr 1; omega
        rw [c6, hsub, s_put 3 w hw (by decide), s_put 3 w hw (by decide), xlet_eq, xlet_eq, obind, ← hG]
        have lay : gput co L.length r.2.2.2 = gput A0 0 (L ++ r.2.2.2) := by
          rw [hA]
          have := gput_len A0 0 L r.2.2.2
          rw [Nat.zero_add] at this
          exact this
        have len : (L ++ r.2.2.2).length = L.length + r.2.2.2.length := List.length_append
        refine Or.inl ⟨rfl, by show k < r.2.2.1; omega, r3, by show (L ++ r.2.2.2).length ≤ r.2.2.1; rw [len]; omega, ?_, nI w, du, un, ch, th, rn, nI (L.length + r.2.2.2.length), nm, sz, bg, lc, ln, rr, gput co L.length r.2.2.2, upd cf w (nI L.length), upd cl w (nI r.2.2.2.length), ?_, rfl⟩
        · show nOkP (gset (gset P 8 w L.length) 9 w r.2.2.2.length) (L ++ r.2.2.2)
          refine ⟨by simp [gset]; exact p1, by simp [gset]; exact p2, by simp [gset]; exact p3, by simp [gset]; exact p4, by simp [gset]; exact p5, by simp [gset]; exact p6, fun t => by simp [gset]; exact p7 t, fun t => by simp [gset]; exact p8 t, fun t => by simp [gset]; exact p9 t, fun t => by simp [gset]; exact p10 t, fun w' hw' => ?_⟩
          have := p11 w' hw'
          by_cases e : w' = w
          · subst e; simp [gset]; omega
          · simp [gset, e]; exact this
        · show cPl (gset (gset P 8 w L.length) 9 w r.2.2.2.length) (L ++ r.2.2.2) _ _ _ _ _ _ _ _ _ _ _ _ _ _ _ _
          refine ⟨by simp [gset]; exact c1, by simp [gset]; exact c2, by simp [gset]; exact c3, by simp [gset]; exact c4, by simp [gset]; exact c5, by rw [len], fun t ht => by simp [gset] at ht ⊢; exact c7 t ht, fun t ht => by simp [gset]; exact c8 t ht, fun t ht => by simp [gset]; exact c9 t ht, fun t ht => by simp [gset]; exact c10 t ht, fun t ht => by simp [gset]; exact c11 t ht, fun w' hw' => ?_, ⟨A0, lay⟩, by simp [gset]; exact c14⟩
          by_cases e : w' = w
          · subst e; rw [pk_us, pk_us]; simp [gset]
          · rw [pk_un e, pk_un e]; simp [gset, e]; exact c12 w' hw'
      · rw [if_neg r1, r5, obind]
        refine cJ_bad r1 r2 (dead _ _ _ ?_ (nI_ne0 (by omega) (by omega)))
        obtain ⟨s1, s2, s3, s4, s5, s6, s7⟩ := s
        exact ⟨_, rfl⟩
    have hcB : L.length + B ≤ 1600 + (k + 1) := by omega
    by_cases w2 : w = 2
    · rw [if_pos (show nI w = 2 by rw [w2]; rfl), if_pos w2]
      have key := rec60.2.2.1 (by decide) 0 (k + 1) L.length p co hk (fun q => by omega) (by decide) hcB
      unfold mtX8_sum
      rw [← c6, show nI 0 = (0 : Int32) from rfl] at key
      exact fin _ _ key
    · rw [if_neg (show ¬ nI w = 2 from fun q => w2 ((nI_eq (b := 2) (by omega) (by decide)).mp q)), if_neg w2]
      have key := rec60.2.1 (by decide) 0 (k + 1) L.length p co hk (fun q => by omega) (by decide) hcB
      unfold mtX8_test
      rw [← c6, show nI 0 = (0 : Int32) from rfl] at key
      exact fin _ _ key
end SN
