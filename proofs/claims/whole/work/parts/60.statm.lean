theorem xlet_as {α β γ : Type} (o : α) (f : α → β) (g : β → γ) : xlet (xlet o f) g = xlet o (fun x => xlet (f x) g) := rfl
theorem xlet_if {α β : Type} (c : Prop) [Decidable c] (a b : α) (g : α → β) : xlet (if c then a else b) g = if c then xlet a g else xlet b g := by
  by_cases h : c
  · rw [if_pos h, if_pos h]
  · rw [if_neg h, if_neg h]
section SM
variable {K V St : Nat → Nat} {B T' : Nat} {ks ss vs : Nat → Int32}
theorem j_thing (h : gTok K V St B T' ks ss vs) {P : NP} {L : List (Nat × Nat)} (hP : nOkP P L) {k : Nat} (hk : k < B) (hL : L.length ≤ k) {un ch sm th rn cd tp p : Int32} {nm sz bg lc ln rr co cf cl : Nat → Int32} {du : Bool} (hc : cPl P L un ch sm th rn cd nm sz bg lc ln rr co cf cl du) :
    cJ K V St B T' ks ss vs (nThing K V St k P L) p sm k (xlet (mX8_thingTold (nI (St k)) 0 p (nI T') (nI k) (nI (St k)) du ks ss vs un th nm sz bg) (xu fun q9_1 => xu fun q9_2 => xu fun q9_3 => xu fun q9_4 => xu fun q9_5 => xu fun q9_6 => xu fun q9_7 => xu fun q9_8 => xu fun q9_9 => xu fun q9_10 => fun q9_11 =>
      mX8_statement_221 (nI T') ks ss vs sm q9_1 q9_2 q9_3 q9_4 q9_5 q9_6 0 tp q9_7 un ch q9_8 rn cd q9_9 q9_10 q9_11 lc ln rr co cf cl)) := by
  obtain ⟨c1, c2, c3, c4, c5, c6, c7, c8, c9, c10, c11, c12, c13, c14⟩ := hc
  obtain ⟨p1, p2, p3, p4, p5, p6, p7, p8, p9, p10, p11⟩ := hP
  have hB := h.1
  generalize hG : (xu fun q9_1 => xu fun q9_2 => xu fun q9_3 => xu fun q9_4 => xu fun q9_5 => xu fun q9_6 => xu fun q9_7 => xu fun q9_8 => xu fun q9_9 => xu fun q9_10 => fun q9_11 => mX8_statement_221 (nI T') ks ss vs sm q9_1 q9_2 q9_3 q9_4 q9_5 q9_6 0 tp q9_7 un ch q9_8 rn cd q9_9 q9_10 q9_11 lc ln rr co cf cl) = G
  have dead : ∀ (F Q : Int32) (r : Int32 × Int32 × Int32 × Int32 × Int32 × Int32 × Bool × Int32 × (Nat → Int32) × (Nat → Int32) × (Nat → Int32)), (∃ s, r = (F, Q, s)) → ¬ F = 0 → ∃ s', xlet r G = some (F, Q, s') := by
    intro F Q r hr hF
    obtain ⟨⟨a1, a2, a3, a4, a5, a6, a7, a8, a9⟩, e⟩ := hr
    rw [e, xlet_eq, ← hG]
    exact e_st221 (nI T') ks ss vs sm F Q a1 a2 a3 a4 0 tp a5 un ch a6 rn cd a7 a8 a9 lc ln rr co cf cl hF
  have dead49 : ∀ (x F Q now kd st v : Int32), ¬ F = 0 → ∃ s', xlet (mX8_thingTold_49 (nI T') du ks ss vs un th nm sz bg x F Q now kd st v) G = some (F, Q, s') := fun x F Q now kd st v hF => dead F Q _ (e_thing49 (nI T') ks ss vs du un th nm sz bg x F Q now kd st v hF) hF
  unfold mX8_thingTold nThing
  rw [xlet_if, c4]
  rw [c4] at dead49
  by_cases h24 : P 0 3 < 24
  · rw [if_pos (show nI (P 0 3) < 24 from nI_lt (b := 24) h24 (by decide)), if_neg (by omega)]
    unfold mX8_thingTold_19
    rw [t_next h hk, xlet_as, xlet_eq]
    simp only [xu]
    have hk1 : k + 1 ≤ B := hk
    obtain ⟨_, _, _, b1, b2, _⟩ := h.2.2.2.1 (k + 1) hk1
    unfold mX8_name
    by_cases e3 : K (k + 1) = 3
    · have hkB := t_lt h hk1 (by omega)
      rw [if_pos (show nI (K (k + 1)) = 3 by rw [e3]; rfl), if_pos e3, xlet_as, xlet_eq]
      simp only [xu]
      have hnn : mX7_named (nI (V (k + 1))) (nI (P 0 3)) nm = bno (nNamed P (V (k + 1))) := t_named p4 p7 (fun t ht => (c7 t ht).1) b2 24 0 rfl
      rw [hnn, xlet_if]
      by_cases hz : nNamed P (V (k + 1)) = 0
      · rw [hz, bno0, if_pos rfl, if_pos rfl]
        unfold mX8_thingTold_49
        rw [t_next h hkB, xlet_as, xlet_eq]
        simp only [xu]
        rw [show (2 : Int32) = nI 2 from rfl, xlet_as]
        refine c_own h (show k + 2 ≤ B from hkB) 2 (by decide) (fun hk2 => ?_) (fun F Q s hF => ?_)
        · simp only [xu]
          rw [show (1 : Int32) = nI 1 from rfl, c1, xlet_as]
          refine c_num h (show k + 3 ≤ B from hk2) 1 (P 0 0) (by decide) (by omega) (fun hk3 v1 v2 => ?_) (fun y F Q s hF => ?_)
          · simp only [xu]
            rw [s_put 24 (P 0 3) h24 (by decide), s_put 24 (P 0 3) h24 (by decide), xlet_as, xlet_eq, xlet_as, xlet_eq]
            unfold mX8_thingTold_133
            have fin : ∀ x, x = nI (P 0 5) → cJ K V St B T' ks ss vs (sOk (k + 4) (gset (gset (gset (gset (gset (gset P 1 (P 0 3) (V (k + 1))) 6 (P 0 3) (k + 1)) 2 (P 0 3) (V (k + 3))) 3 (P 0 3) (P 0 5)) 0 5 0) 0 3 (P 0 3 + 1)) L) p sm k
                (xlet (xlet (mX11_put 24 (nI (P 0 3)) x bg) (fun q13 => (0, p, nI (k + 3 + 1), nI (K (k + 3 + 1)), nI (St (k + 3 + 1)), nI (V (k + 3 + 1)), false, nI (P 0 3) + 1, upd nm (P 0 3) (nI (V (k + 1))), upd sz (P 0 3) (nI (V (k + 3))), q13))) G) := by
              intro x hx
              rw [s_put 24 (P 0 3) h24 (by decide), xlet_eq, xlet_eq, ← hG, nI_1]
              have ne : ∀ a b : Nat, a ≠ b → ¬ (a = b) := fun _ _ q => q
              refine Or.inl ⟨rfl, by show k < k + 4; omega, hk3, by show L.length ≤ k + 4; omega, ?_, tp, false, un, ch, nI (P 0 3 + 1), rn, cd, upd nm (P 0 3) (nI (V (k + 1))), upd sz (P 0 3) (nI (V (k + 3))), upd bg (P 0 3) x, lc, ln, rr, co, cf, cl, ?_, rfl⟩
              · show nOkP (gset (gset (gset (gset (gset (gset P 1 (P 0 3) (V (k + 1))) 6 (P 0 3) (k + 1)) 2 (P 0 3) (V (k + 3))) 3 (P 0 3) (P 0 5)) 0 5 0) 0 3 (P 0 3 + 1)) L
                refine ⟨by simp [gset]; exact p1, by simp [gset]; exact p2, by simp [gset]; exact p3, by simp [gset]; omega, by simp [gset]; exact p5, by simp [gset], fun t => ?_, fun t => ?_, fun t => ?_, fun t => ?_, fun w hw => ?_⟩
                · simp [gset]; split
                  · exact b2
                  · exact p7 t
                · simp [gset]; split
                  · omega
                  · exact p8 t
                · simp [gset]; split
                  · exact p6
                  · exact p9 t
                · simp [gset]; exact p10 t
                · simp [gset]; exact p11 w hw
              · show cPl (gset (gset (gset (gset (gset (gset P 1 (P 0 3) (V (k + 1))) 6 (P 0 3) (k + 1)) 2 (P 0 3) (V (k + 3))) 3 (P 0 3) (P 0 5)) 0 5 0) 0 3 (P 0 3 + 1)) L _ _ _ _ _ _ _ _ _ _ _ _ _ _ _ _
                refine ⟨by simp [gset]; exact c1, by simp [gset]; exact c2, by simp [gset]; exact c3, by simp [gset], by simp [gset]; exact c5, c6, fun t ht => ?_, fun t ht => ?_, fun t ht => by simp [gset]; exact c9 t ht, fun t ht => by simp [gset]; exact c10 t ht, fun t ht => by simp [gset]; exact c11 t ht, fun t ht => by simp [gset]; exact c12 t ht, c13, by simp [gset]⟩
                · by_cases e : t = P 0 3
                  · subst e; rw [pk_us, pk_us]; simp [gset]
                  · have ht2 : t < P 0 3 := by simp [gset] at ht; omega
                    rw [pk_un e, pk_un e]; simp [gset, e]; exact c7 t ht2
                · by_cases e : t = P 0 3
                  · subst e; rw [pk_us, hx]; simp [gset]
                  · rw [pk_un e]; simp [gset, e]; exact c8 t ht
            by_cases hdu : du = true
            · rw [if_pos hdu]
              exact fin 1 (by rw [c14.mp hdu]; rfl)
            · rw [if_neg hdu]
              refine fin 0 ?_
              have : P 0 5 = 0 := by
                have : ¬ P 0 5 = 1 := fun q => hdu (c14.mpr q)
                omega
              rw [this]; rfl
          · obtain ⟨s1, s2, s3, s4⟩ := s
            simp only [xu]
            rw [xlet_as, xlet_eq, xlet_as, xlet_eq]
            unfold mX8_thingTold_133
            split
            · exact dead F Q _ ⟨_, rfl⟩ hF
            · exact dead F Q _ ⟨_, rfl⟩ hF
        · obtain ⟨s1, s2, s3, s4⟩ := s
          simp only [xu]
          obtain ⟨⟨d1, d2, d3, d4⟩, y, e⟩ := e_number (nI T') ks ss vs 1 un F Q s1 s2 s3 s4 hF
          rw [e, xlet_as, xlet_eq]
          simp only [xu]
          rw [xlet_as, xlet_eq, xlet_as, xlet_eq]
          unfold mX8_thingTold_133
          split
          · exact dead F Q _ ⟨_, rfl⟩ hF
          · exact dead F Q _ ⟨_, rfl⟩ hF
      · obtain ⟨a, ha⟩ : ∃ a, nNamed P (V (k + 1)) = a + 1 := ⟨nNamed P (V (k + 1)) - 1, by omega⟩
        have hle := nNam_le P (V (k + 1)) 24 0
        have ha2 : a < 24 := by unfold nNamed at ha; omega
        rw [ha, bnoS, if_neg (nI_m1 (by omega)), if_neg (by omega), show (2 : Int32) = nI 2 from rfl, t_fail, xlet_as, xlet_eq]
        simp only [xu]
        exact cJ_bad (by decide) (by decide) (dead49 _ _ _ _ _ _ _ (nz _ (by decide) (by decide)))
    · rw [if_neg (show ¬ nI (K (k + 1)) = 3 from fun q => e3 ((nI_eq (b := 3) (by omega) (by decide)).mp q)), if_neg e3, t_where h hk1, show (1 : Int32) = nI 1 from rfl, t_fail, xlet_as, xlet_as, xlet_eq]
      simp only [xu]
      rw [xlet_eq]
      dsimp only
      rw [xlet_if]
      split
      · exact cJ_bad (by decide) (by decide) (dead49 _ _ _ _ _ _ _ (nz _ (by decide) (by decide)))
      · rw [s_fail0 _ _ _ _ (nz 1 (by decide) (by decide)), xlet_as, xlet_eq]
        simp only [xu]
        exact cJ_bad (by decide) (by decide) (dead49 _ _ _ _ _ _ _ (nz _ (by decide) (by decide)))
  · rw [if_neg (show ¬ nI (P 0 3) < 24 from nI_nlt (b := 24) (by omega) (by omega)), if_pos (by omega), show (6 : Int32) = nI 6 from rfl, t_fail, xlet_as, xlet_eq]
    simp only [xu]
    exact cJ_bad (by decide) (by decide) (dead _ _ _ (e_thing19 (nI T') ks ss vs (nI k) (nI (St k)) du un (nI (P 0 3)) nm sz bg (nI 6) (nI (St k)) (nz 6 (by decide) (by decide))) (nz 6 (by decide) (by decide)))
end SM
