theorem ite_ex {α : Type} {c : Prop} [Decidable c] {a b : α} (Q : α → Prop) (ha : Q a) (hb : Q b) : Q (if c then a else b) := by
  by_cases h : c
  · rw [if_pos h]; exact ha
  · rw [if_neg h]; exact hb
section SE
variable (tok : Int32) (ks ss vs : Nat → Int32)
theorem e_st221 (sm F P now kd st v op tp : Int32) (du : Bool) (un ch th rn cd : Int32) (nm sz bg lc ln rr co cf cl : Nat → Int32) (h : ¬ F = 0) : ∃ s, mX8_statement_221 tok ks ss vs sm F P now kd st v op tp du un ch th rn cd nm sz bg lc ln rr co cf cl = some (F, P, s) := by
  unfold mX8_statement_221
  obtain ⟨⟨a1, a2, a3, a4⟩, e⟩ := s_sign_dead tok ks ss vs 59 F P now kd st v h
  rw [e, xlet_eq]
  simp only [xu]
  split
  · exact ⟨_, rfl⟩
  · exact ⟨_, rfl⟩
theorem e_st212 (now kd st v op tp : Int32) (du : Bool) (un ch sm th rn cd : Int32) (nm sz bg lc ln rr co cf cl : Nat → Int32) (F P : Int32) (h : ¬ F = 0) : ∃ s, mX8_statement_212 tok now kd st v op tp du ks ss vs un ch sm th rn cd nm sz bg lc ln rr co cf cl F P = some (F, P, s) := by
  unfold mX8_statement_212
  rw [s_fail0 _ _ F P h, xlet_eq]
  exact e_st221 tok ks ss vs sm F P now kd st v op tp du un ch th rn cd nm sz bg lc ln rr co cf cl h
theorem e_st32 (now kd st v op tp : Int32) (du : Bool) (un ch sm th rn cd : Int32) (nm sz bg lc ln rr co cf cl : Nat → Int32) (F P : Int32) (h : ¬ F = 0) : ∃ s, mX8_statement_32 tok now kd st v op tp du ks ss vs un ch sm th rn cd nm sz bg lc ln rr co cf cl F P = some (F, P, s) := by
  unfold mX8_statement_32
  refine ite_ex (fun r => ∃ s, r = some (F, P, s)) ?_ ?_
  · rcases mX8_next tok now st ks ss vs with ⟨q1, q2, q3, q4⟩
    rw [xlet_eq]
    simp only [xu]
    obtain ⟨⟨b1, b2, b3, b4⟩, y, e⟩ := e_number tok ks ss vs 8 99 F P q1 q2 q3 q4 h
    rw [e, xlet_eq]
    exact e_st221 tok ks ss vs sm F P b1 b2 b3 b4 op tp du y ch th rn cd nm sz bg lc ln rr co cf cl h
  · refine ite_ex (fun r => ∃ s, r = some (F, P, s)) ?_ ?_
    · have k : ∃ s, mX8_thingTold st F P tok now st du ks ss vs un th nm sz bg = (F, P, s) := by
        unfold mX8_thingTold
        rw [s_fail0 _ _ F P h]
        refine ite_ex (fun r => ∃ s, r = (F, P, s)) ?_ ?_
        · exact e_thing19 tok ks ss vs now st du un th nm sz bg F P h
        · rw [xlet_eq]
          simp only [xu]
          exact e_thing19 tok ks ss vs now st du un th nm sz bg F P h
      obtain ⟨⟨a1, a2, a3, a4, a5, a6, a7, a8, a9⟩, e⟩ := k
      rw [e, xlet_eq]
      exact e_st221 tok ks ss vs sm F P a1 a2 a3 a4 op tp a5 un ch a6 rn cd a7 a8 a9 lc ln rr co cf cl h
    · refine ite_ex (fun r => ∃ s, r = some (F, P, s)) ?_ ?_
      · exact e_st212 tok ks ss vs now kd st v op tp du un ch sm th rn cd nm sz bg lc ln rr co cf cl F P h
      · refine ite_ex (fun r => ∃ s, r = some (F, P, s)) ?_ ?_
        · rcases mX8_next tok now st ks ss vs with ⟨q1, q2, q3, q4⟩
          rw [xlet_eq]
          simp only [xu]
          unfold mX8_statement_142
          refine ite_ex (fun r => ∃ s, r = some (F, P, s)) ?_ ?_
          · exact e_st221 tok ks ss vs sm F P q1 q2 q3 q4 op tp true un ch th rn cd nm sz bg lc ln rr co cf cl h
          · exact e_st221 tok ks ss vs sm F P q1 q2 q3 q4 op tp false un ch th rn cd nm sz bg lc ln rr co cf cl h
        · refine ite_ex (fun r => ∃ s, r = some (F, P, s)) ?_ ?_
          · have k : ∃ s, mX8_linkTold st F P tok now st ks ss vs th nm lc ln = (F, P, s) := by
              unfold mX8_linkTold
              rcases mX8_next tok now st ks ss vs with ⟨q1, q2, q3, q4⟩
              rw [xlet_eq]
              simp only [xu]
              obtain ⟨z, e⟩ := e_known F P q2 q3 q4 th nm h
              rw [e, xlet_eq]
              simp only [xu]
              rw [s_fail0 _ _ F P h]
              refine ite_ex (fun r => ∃ s, r = (F, P, s)) ?_ ?_
              · exact e_link33 tok ks ss vs th nm lc ln z _ F P q1 q2 q3 q4 h
              · rw [xlet_eq]
                simp only [xu]
                exact e_link33 tok ks ss vs th nm lc ln z _ F P q1 q2 q3 q4 h
            obtain ⟨⟨a1, a2, a3, a4, a5, a6⟩, e⟩ := k
            rw [e, xlet_eq]
            exact e_st221 tok ks ss vs sm F P a1 a2 a3 a4 op tp du un ch th rn cd nm sz bg a5 a6 rr co cf cl h
          · refine ite_ex (fun r => ∃ s, r = some (F, P, s)) ?_ ?_
            · exact e_st212 tok ks ss vs now kd st v op tp du un ch sm th rn cd nm sz bg lc ln rr co cf cl F P h
            · refine ite_ex (fun r => ∃ s, r = some (F, P, s)) ?_ ?_
              · have k : ∃ s, mX8_rootTold st F P tok now st ks ss vs th rn nm rr = (F, P, s) := by
                  unfold mX8_rootTold
                  rw [s_fail0 _ _ F P h]
                  refine ite_ex (fun r => ∃ s, r = (F, P, s)) ?_ ?_
                  · exact e_root19 tok ks ss vs now st th rn nm rr F P h
                  · rw [xlet_eq]
                    simp only [xu]
                    exact e_root19 tok ks ss vs now st th rn nm rr F P h
                obtain ⟨⟨a1, a2, a3, a4, a5, a6⟩, e⟩ := k
                rw [e, xlet_eq]
                exact e_st221 tok ks ss vs sm F P a1 a2 a3 a4 op tp du un ch th a5 cd nm sz bg lc ln a6 co cf cl h
              · refine ite_ex (fun r => ∃ s, r = some (F, P, s)) ?_ ?_
                · rcases mX8_next tok now st ks ss vs with ⟨q1, q2, q3, q4⟩
                  rw [xlet_eq]
                  simp only [xu]
                  obtain ⟨⟨b1, b2, b3, b4⟩, y, e⟩ := e_number tok ks ss vs 0 100 F P q1 q2 q3 q4 h
                  rw [e, xlet_eq]
                  exact e_st221 tok ks ss vs sm F P b1 b2 b3 b4 op tp du un y th rn cd nm sz bg lc ln rr co cf cl h
                · have k : ∀ w, ∃ s, mX8_formula w st F P tok now st op ks ss vs cd co cf cl = some (F, P, s) := by
                    intro w
                    unfold mX8_formula
                    rw [s_fail0 _ _ F P h]
                    refine ite_ex (fun r => ∃ s, r = some (F, P, s)) ?_ ?_
                    · exact e_form21 tok ks ss vs w now st op cd co cf cl F P h
                    · exact e_form21 tok ks ss vs w now st op cd co cf cl F P h
                  have go : ∀ w, ∃ s, (mX8_formula w st F P tok now st op ks ss vs cd co cf cl).bind (xu fun q30_1 => xu fun q30_2 => xu fun q30_3 => xu fun q30_4 => xu fun q30_5 => xu fun q30_6 => xu fun q30_7 => xu fun q30_8 => xu fun q30_9 => xu fun q30_10 => xu fun q30_11 => fun q30_12 => mX8_statement_221 tok ks ss vs sm q30_1 q30_2 q30_3 q30_4 q30_5 q30_6 q30_7 q30_8 du un ch th rn q30_9 nm sz bg lc ln rr q30_10 q30_11 q30_12) = some (F, P, s) := by
                    intro w
                    obtain ⟨⟨a1, a2, a3, a4, a5, a6, a7, a8, a9, a10⟩, e⟩ := k w
                    rw [e, obind]
                    exact e_st221 tok ks ss vs sm F P a1 a2 a3 a4 a5 a6 du un ch th rn a7 nm sz bg lc ln rr a8 a9 a10 h
                  refine ite_ex (fun r => ∃ s, r = some (F, P, s)) ?_ ?_
                  · exact go 0
                  · refine ite_ex (fun r => ∃ s, r = some (F, P, s)) ?_ ?_
                    · exact go 1
                    · refine ite_ex (fun r => ∃ s, r = some (F, P, s)) ?_ ?_
                      · exact go 2
                      · exact e_st212 tok ks ss vs now kd st v op tp du un ch sm th rn cd nm sz bg lc ln rr co cf cl F P h
end SE
