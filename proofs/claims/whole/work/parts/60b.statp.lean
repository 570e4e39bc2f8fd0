section SP
variable {K V St : Nat → Nat} {B T' : Nat} {ks ss vs : Nat → Int32}
/-- a plan in which one cell of row 0 is another -/
theorem nOk_put {P : NP} {L : List (Nat × Nat)} (hP : nOkP P L) (c v : Nat) (h0 : c = 0 → v ≤ 99) (h1 : c = 1 → v ≤ 100) (h2 : c = 2 → v ≤ 80) (h3 : c = 3 → v ≤ 24) (h4 : c = 4 → v ≤ 8) (h5 : c = 5 → v ≤ 1) : nOkP (gset P 0 c v) L := by
  obtain ⟨p1, p2, p3, p4, p5, p6, p7, p8, p9, p10, p11⟩ := hP
  have g0 : ∀ d, gset P 0 c v 0 d = if d = c then v else P 0 d := fun d => by simp [gset]
  have g1 : ∀ a d, a ≠ 0 → gset P 0 c v a d = P a d := fun a d q => by simp [gset, q]
  refine ⟨?_, ?_, ?_, ?_, ?_, ?_, fun t => ?_, fun t => ?_, fun t => ?_, fun t => ?_, fun w hw => ?_⟩
  · rw [g0]; split
    · exact h0 (by omega)
    · exact p1
  · rw [g0]; split
    · exact h1 (by omega)
    · exact p2
  · rw [g0]; split
    · exact h2 (by omega)
    · exact p3
  · rw [g0]; split
    · exact h3 (by omega)
    · exact p4
  · rw [g0]; split
    · exact h4 (by omega)
    · exact p5
  · rw [g0]; split
    · exact h5 (by omega)
    · exact p6
  · rw [g1 _ _ (by decide)]; exact p7 t
  · rw [g1 _ _ (by decide)]; exact p8 t
  · rw [g1 _ _ (by decide)]; exact p9 t
  · rw [g1 _ _ (by decide)]; exact p10 t
  · rw [g1 _ _ (by decide), g1 _ _ (by decide)]; exact p11 w hw
theorem j_bad (h : gTok K V St B T' ks ss vs) {P : NP} {L : List (Nat × Nat)} {k : Nat} (hk : k ≤ B) {un ch sm th rn cd tp p : Int32} {nm sz bg lc ln rr co cf cl : Nat → Int32} {du : Bool} :
    cJ K V St B T' ks ss vs (sBad 1 (gWh K V St k) P) p sm k (mX8_statement_212 (nI T') (nI k) (nI (K k)) (nI (St k)) (nI (V k)) 0 tp du ks ss vs un ch sm th rn cd nm sz bg lc ln rr co cf cl 0 p) := by
  unfold mX8_statement_212
  rw [t_where h hk, show (1 : Int32) = nI 1 from rfl, t_fail, xlet_eq]
  exact cJ_bad (by decide) (by decide) (e_st221 (nI T') ks ss vs sm _ _ _ _ _ _ 0 tp du un ch th rn cd nm sz bg lc ln rr co cf cl (nz 1 (by decide) (by decide)))
theorem j_num (h : gTok K V St B T' ks ss vs) {P : NP} {L : List (Nat × Nat)} (hP : nOkP P L) {k : Nat} (hk : k < B) (hL : L.length ≤ k) {un ch sm th rn cd tp p : Int32} {nm sz bg lc ln rr co cf cl : Nat → Int32} {du : Bool} (hc : cPl P L un ch sm th rn cd nm sz bg lc ln rr co cf cl du) :
    cJ K V St B T' ks ss vs (nNum K V St (k + 1) 8 99 (fun v => sOk (k + 2) (gset P 0 0 v) L) P) p sm k (xlet (mX8_number (nI 8) (nI 99) 0 p (nI T') (nI (k + 1)) (nI (K (k + 1))) (nI (St (k + 1))) (nI (V (k + 1))) ks ss vs) (xu fun q6_1 => xu fun q6_2 => xu fun q6_3 => xu fun q6_4 => xu fun q6_5 => xu fun q6_6 => fun q6_7 =>
        mX8_statement_221 (nI T') ks ss vs sm q6_2 q6_3 q6_4 q6_5 q6_6 q6_7 0 tp du q6_1 ch th rn cd nm sz bg lc ln rr co cf cl)) := by
  refine c_num h (show k + 1 ≤ B from hk) 8 99 (by decide) (by decide) (fun hkB v1 v2 => ?_) (fun y F Q s hF => ?_)
  · simp only [xu]
    have hP' := nOk_put hP 0 (V (k + 1)) (fun _ => v2) (fun q => by omega) (fun q => by omega) (fun q => by omega) (fun q => by omega) (fun q => by omega)
    obtain ⟨c1, c2, c3, c4, c5, c6, c7, c8, c9, c10, c11, c12, c13, c14⟩ := hc
    refine Or.inl ⟨rfl, by show k < k + 2; omega, hkB, by show L.length ≤ k + 2; omega, hP', tp, du, nI (V (k + 1)), ch, th, rn, cd, nm, sz, bg, lc, ln, rr, co, cf, cl, ?_, rfl⟩
    show cPl (gset P 0 0 (V (k + 1))) L _ _ _ _ _ _ _ _ _ _ _ _ _ _ _ _
    exact ⟨by simp [gset], by simp [gset]; exact c2, by simp [gset]; exact c3, by simp [gset]; exact c4, by simp [gset]; exact c5, c6, fun t ht => by simp [gset] at ht ⊢; exact c7 t ht, fun t ht => by simp [gset]; exact c8 t ht, fun t ht => by simp [gset]; exact c9 t ht, fun t ht => by simp [gset]; exact c10 t ht, fun t ht => by simp [gset]; exact c11 t ht, fun w hw => by simp [gset]; exact c12 w hw, c13, by simp [gset]; exact c14⟩
  · obtain ⟨s1, s2, s3, s4⟩ := s
    simp only [xu]
    exact e_st221 (nI T') ks ss vs sm F Q s1 s2 s3 s4 0 tp du y ch th rn cd nm sz bg lc ln rr co cf cl hF
theorem j_num2 (h : gTok K V St B T' ks ss vs) {P : NP} {L : List (Nat × Nat)} (hP : nOkP P L) {k : Nat} (hk : k < B) (hL : L.length ≤ k) {un ch sm th rn cd tp p : Int32} {nm sz bg lc ln rr co cf cl : Nat → Int32} {du : Bool} (hc : cPl P L un ch sm th rn cd nm sz bg lc ln rr co cf cl du) :
    cJ K V St B T' ks ss vs (nNum K V St (k + 1) 0 100 (fun v => sOk (k + 2) (gset P 0 1 v) L) P) p sm k (xlet (mX8_number (nI 0) (nI 100) 0 p (nI T') (nI (k + 1)) (nI (K (k + 1))) (nI (St (k + 1))) (nI (V (k + 1))) ks ss vs) (xu fun q6_1 => xu fun q6_2 => xu fun q6_3 => xu fun q6_4 => xu fun q6_5 => xu fun q6_6 => fun q6_7 =>
        mX8_statement_221 (nI T') ks ss vs sm q6_2 q6_3 q6_4 q6_5 q6_6 q6_7 0 tp du un q6_1 th rn cd nm sz bg lc ln rr co cf cl)) := by
  refine c_num h (show k + 1 ≤ B from hk) 0 100 (by decide) (by decide) (fun hkB v1 v2 => ?_) (fun y F Q s hF => ?_)
  · simp only [xu]
    have hP' := nOk_put hP 1 (V (k + 1)) (fun q => by omega) (fun _ => v2) (fun q => by omega) (fun q => by omega) (fun q => by omega) (fun q => by omega)
    obtain ⟨c1, c2, c3, c4, c5, c6, c7, c8, c9, c10, c11, c12, c13, c14⟩ := hc
    refine Or.inl ⟨rfl, by show k < k + 2; omega, hkB, by show L.length ≤ k + 2; omega, hP', tp, du, un, nI (V (k + 1)), th, rn, cd, nm, sz, bg, lc, ln, rr, co, cf, cl, ?_, rfl⟩
    show cPl (gset P 0 1 (V (k + 1))) L _ _ _ _ _ _ _ _ _ _ _ _ _ _ _ _
    exact ⟨by simp [gset]; exact c1, by simp [gset], by simp [gset]; exact c3, by simp [gset]; exact c4, by simp [gset]; exact c5, c6, fun t ht => by simp [gset] at ht ⊢; exact c7 t ht, fun t ht => by simp [gset]; exact c8 t ht, fun t ht => by simp [gset]; exact c9 t ht, fun t ht => by simp [gset]; exact c10 t ht, fun t ht => by simp [gset]; exact c11 t ht, fun w hw => by simp [gset]; exact c12 w hw, c13, by simp [gset]; exact c14⟩
  · obtain ⟨s1, s2, s3, s4⟩ := s
    simp only [xu]
    exact e_st221 (nI T') ks ss vs sm F Q s1 s2 s3 s4 0 tp du un y th rn cd nm sz bg lc ln rr co cf cl hF
theorem j_due (h : gTok K V St B T' ks ss vs) {P : NP} {L : List (Nat × Nat)} (hP : nOkP P L) {k : Nat} (hk : k < B) (hL : L.length ≤ k) {un ch sm th rn cd tp p : Int32} {nm sz bg lc ln rr co cf cl : Nat → Int32} {du : Bool} (hc : cPl P L un ch sm th rn cd nm sz bg lc ln rr co cf cl du) (d : Bool) (hd : d = decide (0 < P 0 3)) :
    cJ K V St B T' ks ss vs (sOk (k + 1) (gset P 0 5 (if 0 < P 0 3 then 1 else 0)) L) p sm k (mX8_statement_221 (nI T') ks ss vs sm 0 p (nI (k + 1)) (nI (K (k + 1))) (nI (St (k + 1))) (nI (V (k + 1))) 0 tp d un ch th rn cd nm sz bg lc ln rr co cf cl) := by
  have hP' := nOk_put hP 5 (if 0 < P 0 3 then 1 else 0) (fun q => by omega) (fun q => by omega) (fun q => by omega) (fun q => by omega) (fun q => by omega) (fun _ => by split <;> omega)
  obtain ⟨c1, c2, c3, c4, c5, c6, c7, c8, c9, c10, c11, c12, c13, c14⟩ := hc
  refine Or.inl ⟨rfl, by show k < k + 1; omega, hk, by show L.length ≤ k + 1; omega, hP', tp, d, un, ch, th, rn, cd, nm, sz, bg, lc, ln, rr, co, cf, cl, ?_, rfl⟩
  show cPl (gset P 0 5 (if 0 < P 0 3 then 1 else 0)) L _ _ _ _ _ _ _ _ _ _ _ _ _ _ _ _
  refine ⟨by simp [gset]; exact c1, by simp [gset]; exact c2, by simp [gset]; exact c3, by simp [gset]; exact c4, by simp [gset]; exact c5, c6, fun t ht => by simp [gset] at ht ⊢; exact c7 t ht, fun t ht => by simp [gset]; exact c8 t ht, fun t ht => by simp [gset]; exact c9 t ht, fun t ht => by simp [gset]; exact c10 t ht, fun t ht => by simp [gset]; exact c11 t ht, fun w hw => by simp [gset]; exact c12 w hw, c13, ?_⟩
  have g : gset P 0 5 (if 0 < P 0 3 then 1 else 0) 0 5 = if 0 < P 0 3 then 1 else 0 := by simp [gset]
  rw [g, hd]
  by_cases q : 0 < P 0 3
  · rw [if_pos q]; exact ⟨fun _ => rfl, fun _ => decide_eq_true q⟩
  · rw [if_neg q]; exact ⟨fun z => absurd (of_decide_eq_true z) q, fun z => absurd z (by decide)⟩
theorem j_tell (h : gTok K V St B T' ks ss vs) {P : NP} {L : List (Nat × Nat)} (hP : nOkP P L) {k : Nat} (hk : k ≤ B) (hL : L.length ≤ k) {un ch sm th rn cd tp p : Int32} {nm sz bg lc ln rr co cf cl : Nat → Int32} {du : Bool} (hc : cPl P L un ch sm th rn cd nm sz bg lc ln rr co cf cl du) :
    cJ K V St B T' ks ss vs (nTell K V St k P L) p sm k (mX8_statement_32 (nI T') (nI k) (nI (K k)) (nI (St k)) (nI (V k)) 0 tp du ks ss vs un ch sm th rn cd nm sz bg lc ln rr co cf cl 0 p) := by
  have own : ∀ w, w < 1000 → (mX8_ownNow (nI (K k)) (nI (V k)) = nI w ↔ gOw K V k w = true) := fun w hw => t_own h hk w hw
  have o0 : mX8_ownNow (nI (K k)) (nI (V k)) = (0 : Int32) ↔ gOw K V k 0 = true := own 0 (by decide)
  have o1 : mX8_ownNow (nI (K k)) (nI (V k)) = (1 : Int32) ↔ gOw K V k 1 = true := own 1 (by decide)
  have o2 : mX8_ownNow (nI (K k)) (nI (V k)) = (2 : Int32) ↔ gOw K V k 2 = true := own 2 (by decide)
  have o3 : mX8_ownNow (nI (K k)) (nI (V k)) = (3 : Int32) ↔ gOw K V k 3 = true := own 3 (by decide)
  have o4 : mX8_ownNow (nI (K k)) (nI (V k)) = (4 : Int32) ↔ gOw K V k 4 = true := own 4 (by decide)
  have o5 : mX8_ownNow (nI (K k)) (nI (V k)) = (5 : Int32) ↔ gOw K V k 5 = true := own 5 (by decide)
  have o6 : mX8_ownNow (nI (K k)) (nI (V k)) = (6 : Int32) ↔ gOw K V k 6 = true := own 6 (by decide)
  have o7 : mX8_ownNow (nI (K k)) (nI (V k)) = (7 : Int32) ↔ gOw K V k 7 = true := own 7 (by decide)
  have o8 : mX8_ownNow (nI (K k)) (nI (V k)) = (8 : Int32) ↔ gOw K V k 8 = true := own 8 (by decide)
  have o9 : mX8_ownNow (nI (K k)) (nI (V k)) = (9 : Int32) ↔ gOw K V k 9 = true := own 9 (by decide)
  have o10 : mX8_ownNow (nI (K k)) (nI (V k)) = (10 : Int32) ↔ gOw K V k 10 = true := own 10 (by decide)
  have lt : ∀ w, gOw K V k w = true → k < B := fun w q => t_owlt h hk q
  have bad := j_bad (P := P) (L := L) h hk (un := un) (ch := ch) (sm := sm) (th := th) (rn := rn) (cd := cd) (tp := tp) (p := p) (nm := nm) (sz := sz) (bg := bg) (lc := lc) (ln := ln) (rr := rr) (co := co) (cf := cf) (cl := cl) (du := du)
  have one : ∀ a b, gOw K V k a = true → a ≠ b → ¬ gOw K V k b = true := fun a b q ab z => by rw [gOw_one q ab] at z; exact Bool.noConfusion z
  unfold mX8_statement_32 nTell
  by_cases w0 : gOw K V k 0 = true
  · have hkB := lt 0 w0
    rw [if_pos (o0.mpr w0), if_pos w0, t_next h hkB, xlet_eq]
    exact j_num h hP hkB hL hc
  rw [if_neg (fun q => w0 (o0.mp q)), if_neg w0]
  by_cases w1 : gOw K V k 1 = true
  · rw [if_pos (o1.mpr w1), if_pos w1]
    exact j_thing h hP (lt 1 w1) hL hc
  rw [if_neg (fun q => w1 (o1.mp q)), if_neg w1]
  by_cases w2 : gOw K V k 2 = true
  · rw [if_pos (o2.mpr w2), if_neg (one 2 3 w2 (by decide)), if_neg (one 2 4 w2 (by decide)), if_neg (one 2 6 w2 (by decide)), if_neg (one 2 7 w2 (by decide)), if_neg (one 2 8 w2 (by decide)), if_neg (one 2 9 w2 (by decide)), if_neg (one 2 10 w2 (by decide))]
    exact bad
  rw [if_neg (fun q => w2 (o2.mp q))]
  by_cases w3 : gOw K V k 3 = true
  · have hkB := lt 3 w3
    rw [if_pos (o3.mpr w3), if_pos w3, t_next h hkB, xlet_eq]
    have e4 : th = nI (P 0 3) := hc.2.2.2.1
    have b4 : P 0 3 ≤ 24 := hP.2.2.2.1
    simp only [xu]
    by_cases q : 0 < P 0 3
    · rw [if_pos (show 0 < th by rw [e4]; exact nI_lt (a := 0) q (by omega))]
      exact j_due h hP hkB hL hc true (decide_eq_true q).symm
    · rw [if_neg (show ¬ 0 < th by rw [e4]; exact nI_nlt (a := 0) (by omega) (by decide))]
      exact j_due h hP hkB hL hc false (decide_eq_false q).symm
  rw [if_neg (fun q => w3 (o3.mp q)), if_neg w3]
  by_cases w4 : gOw K V k 4 = true
  · rw [if_pos (o4.mpr w4), if_pos w4]
    exact j_link h hP (lt 4 w4) hL hc
  rw [if_neg (fun q => w4 (o4.mp q)), if_neg w4]
  by_cases w5 : gOw K V k 5 = true
  · rw [if_pos (o5.mpr w5), if_neg (one 5 6 w5 (by decide)), if_neg (one 5 7 w5 (by decide)), if_neg (one 5 8 w5 (by decide)), if_neg (one 5 9 w5 (by decide)), if_neg (one 5 10 w5 (by decide))]
    exact bad
  rw [if_neg (fun q => w5 (o5.mp q))]
  by_cases w6 : gOw K V k 6 = true
  · rw [if_pos (o6.mpr w6), if_pos w6]
    exact j_root h hP (lt 6 w6) hL hc
  rw [if_neg (fun q => w6 (o6.mp q)), if_neg w6]
  by_cases w7 : gOw K V k 7 = true
  · have hkB := lt 7 w7
    rw [if_pos (o7.mpr w7), if_pos w7, t_next h hkB, xlet_eq]
    exact j_num2 h hP hkB hL hc
  rw [if_neg (fun q => w7 (o7.mp q)), if_neg w7]
  by_cases w8 : gOw K V k 8 = true
  · rw [if_pos (o8.mpr w8), if_pos w8]
    exact j_form h hP (lt 8 w8) hL 0 (by decide) hc
  rw [if_neg (fun q => w8 (o8.mp q)), if_neg w8]
  by_cases w9 : gOw K V k 9 = true
  · rw [if_pos (o9.mpr w9), if_pos w9]
    exact j_form h hP (lt 9 w9) hL 1 (by decide) hc
  rw [if_neg (fun q => w9 (o9.mp q)), if_neg w9]
  by_cases w10 : gOw K V k 10 = true
  · rw [if_pos (o10.mpr w10), if_pos w10]
    exact j_form h hP (lt 10 w10) hL 2 (by decide) hc
  rw [if_neg (fun q => w10 (o10.mp q)), if_neg w10]
  exact bad
end SP
