section SQ
variable (K V St : Nat → Nat) (B T' : Nat) (ks ss vs : Nat → Int32)
/-- a statement told, its end too -/
def cS (r : NS) (p : Int32) (i : Nat) (res : SO) : Prop :=
  (r.1 = 0 ∧ r.2.2.1 ≤ B ∧ r.2.2.2.2.length ≤ r.2.2.1 ∧ nOkP r.2.2.2.1 r.2.2.2.2 ∧ r.2.2.2.1 0 2 = i ∧ ∃ (tp : Int32) (du : Bool) (un ch th rn cd : Int32) (nm sz bg lc ln rr co cf cl : Nat → Int32), cPl r.2.2.2.1 r.2.2.2.2 un ch (nI i) th rn cd nm sz bg lc ln rr co cf cl du ∧
    res = some (0, p, nI r.2.2.1, nI (K r.2.2.1), nI (St r.2.2.1), nI (V r.2.2.1), 0, tp, du, un, ch, nI i, th, rn, cd, nm, sz, bg, lc, ln, rr, co, cf, cl)) ∨
  (r.1 ≠ 0 ∧ r.1 < 10 ∧ ∃ s, res = some (nI r.1, nI r.2.1, s))
abbrev SR : Type := Option (Bool × Int32 × Int32 × Int32 × Int32 × Int32 × Int32 × Int32 × Int32 × Int32 × Bool × (Nat → Int32) × (Nat → Int32) × (Nat → Int32) × Int32 × Int32 × Int32 × Int32 × Int32 × Int32 × (Nat → Int32) × (Nat → Int32) × (Nat → Int32) × (Nat → Int32) × (Nat → Int32) × (Nat → Int32) × (Nat → Int32) × (Nat → Int32) × (Nat → Int32))
/-- the whole text read -/
def cR (r : NS) (p : Int32) (res : SR) : Prop :=
  (r.1 = 0 ∧ nOkP r.2.2.2.1 r.2.2.2.2 ∧ r.2.2.2.2.length ≤ 1600 ∧ 0 < r.2.2.2.1 0 2 ∧ ∃ (now kd st v tp : Int32) (du : Bool) (un ch sm th rn cd : Int32) (nm sz bg lc ln rr co cf cl : Nat → Int32), cPl r.2.2.2.1 r.2.2.2.2 un ch sm th rn cd nm sz bg lc ln rr co cf cl du ∧
    res = some (true, 0, p, nI T', now, kd, st, v, 0, tp, du, ks, ss, vs, un, ch, sm, th, rn, cd, nm, sz, bg, lc, ln, rr, co, cf, cl)) ∨
  (r.1 ≠ 0 ∧ r.1 < 10 ∧ ∃ s, res = some (false, nI r.1, nI r.2.1, s))
def nFin (n : Nat) (r : NS) : NS := if r.1 = 0 then (if r.2.2.2.1 0 2 = 0 then sBad 1 n r.2.2.2.1 else r) else r
variable {K V St B T' ks ss vs}
theorem j_stat1 (h : gTok K V St B T' ks ss vs) {P : NP} {L : List (Nat × Nat)} (hP : nOkP P L) (h80 : P 0 2 < 80) {k : Nat} (hk : k ≤ B) (hL : L.length ≤ k) {un ch sm th rn cd tp p : Int32} {nm sz bg lc ln rr co cf cl : Nat → Int32} {du : Bool} (hc : cPl P L un ch sm th rn cd nm sz bg lc ln rr co cf cl du) :
    cS K V St B (if (nTell K V St k P L).1 = 0 then nSgn K V St (nTell K V St k P L).2.2.1 59 (sOk ((nTell K V St k P L).2.2.1 + 1) (gset (nTell K V St k P L).2.2.2.1 0 2 ((nTell K V St k P L).2.2.2.1 0 2 + 1)) (nTell K V St k P L).2.2.2.2) (nTell K V St k P L).2.2.2.1 else nTell K V St k P L) p (P 0 2 + 1)
      (mX8_statement_32 (nI T') (nI k) (nI (K k)) (nI (St k)) (nI (V k)) 0 tp du ks ss vs un ch sm th rn cd nm sz bg lc ln rr co cf cl 0 p) := by
  have hj := j_tell h hP hk hL (tp := tp) (p := p) hc
  have hsm : sm = nI (P 0 2) := hc.2.2.1
  generalize mX8_statement_32 (nI T') (nI k) (nI (K k)) (nI (St k)) (nI (V k)) 0 tp du ks ss vs un ch sm th rn cd nm sz bg lc ln rr co cf cl 0 p = res at hj ⊢
  generalize nTell K V St k P L = r at hj ⊢
  obtain ⟨r1, r2, k', P', L'⟩ := r
  rcases hj with ⟨q1, q2, q3, q4, q5, tp', du', un', ch', th', rn', cd', nm', sz', bg', lc', ln', rr', co', cf', cl', hc', e⟩ | ⟨q1, q2, s, e⟩
  · dsimp only at q1 q2 q3 q4 q5 hc' e ⊢
    have hB := h.1
    have p2 : P' 0 2 = P 0 2 := by
      have a : nI (P' 0 2) = nI (P 0 2) := by rw [← hc'.2.2.1, hsm]
      have b := q5.2.2.1
      exact (nI_eq (by omega) (by omega)).mp a
    rw [if_pos q1, e]
    unfold mX8_statement_221 mX8_sign nSgn
    by_cases sg : gSg K V k' 59 = true
    · have hkB := t_sglt h q3 sg
      have sn : mX8_signNow (nI (K k')) (nI (V k')) = (59 : Int32) := (t_sgn h q3 59 (by decide)).mpr sg
      rw [if_pos sn, if_pos sg, t_next h hkB]
      simp only [xlet_eq, xu]
      rw [if_pos trivial]
      have hP' := nOk_put q5 2 (P' 0 2 + 1) (fun q => by omega) (fun q => by omega) (fun _ => by omega) (fun q => by omega) (fun q => by omega) (fun q => by omega)
      obtain ⟨c1, c2, c3, c4, c5, c6, c7, c8, c9, c10, c11, c12, c13, c14⟩ := hc'
      refine Or.inl ⟨rfl, hkB, by show L'.length ≤ k' + 1; omega, hP', by show gset P' 0 2 (P' 0 2 + 1) 0 2 = P 0 2 + 1; simp [gset]; omega, tp', du', un', ch', th', rn', cd', nm', sz', bg', lc', ln', rr', co', cf', cl', ?_, ?_⟩
      · show cPl (gset P' 0 2 (P' 0 2 + 1)) L' _ _ _ _ _ _ _ _ _ _ _ _ _ _ _ _
        exact ⟨by simp [gset]; exact c1, by simp [gset]; exact c2, by simp [gset]; rw [p2], by simp [gset]; exact c4, by simp [gset]; exact c5, c6, fun t ht => by simp [gset] at ht ⊢; exact c7 t ht, fun t ht => by simp [gset]; exact c8 t ht, fun t ht => by simp [gset]; exact c9 t ht, fun t ht => by simp [gset]; exact c10 t ht, fun t ht => by simp [gset]; exact c11 t ht, fun w hw => by simp [gset]; exact c12 w hw, c13, by simp [gset]; exact c14⟩
      · rw [hsm, nI_1]; rfl
    · have sn : ¬ mX8_signNow (nI (K k')) (nI (V k')) = (59 : Int32) := fun q => sg ((t_sgn h q3 59 (by decide)).mp q)
      rw [if_neg sn, if_neg sg, t_where h q3, show (1 : Int32) = nI 1 from rfl, t_fail]
      rcases mX8_next (nI T') (nI k') (nI (St k')) ks ss vs with ⟨a1, a2, a3, a4⟩
      simp only [xlet_eq, xu]
      rw [if_neg (nz 1 (by decide) (by decide))]
      exact Or.inr ⟨(by decide : (1 : Nat) ≠ 0), (by decide : (1 : Nat) < 10), _, rfl⟩
  · dsimp only at q1 q2 e ⊢
    rw [if_neg q1, e]
    exact Or.inr ⟨q1, q2, s, rfl⟩
theorem j_stat (h : gTok K V St B T' ks ss vs) {P : NP} {L : List (Nat × Nat)} (hP : nOkP P L) (h80 : P 0 2 < 80) {k : Nat} (hk : k ≤ B) (hL : L.length ≤ k) {un ch sm th rn cd tp p : Int32} {nm sz bg lc ln rr co cf cl : Nat → Int32} {du : Bool} (hc : cPl P L un ch sm th rn cd nm sz bg lc ln rr co cf cl du) (first : Bool) :
    cS K V St B (nStat K V St first k P L) p (P 0 2 + 1) (mX8_statement first 0 p (nI T') (nI k) (nI (K k)) (nI (St k)) (nI (V k)) 0 tp du ks ss vs un ch sm th rn cd nm sz bg lc ln rr co cf cl) := by
  have live := j_stat1 h hP h80 hk hL (tp := tp) (p := p) hc
  have own0 : mX8_ownNow (nI (K k)) (nI (V k)) = (0 : Int32) ↔ gOw K V k 0 = true := t_own h hk 0 (by decide)
  have dead : cS K V St B (sBad 1 (gWh K V St k) P) p (P 0 2 + 1) (xlet (mX8_fail 1 (mX8_where (nI (K k)) (nI (St k)) (nI (V k))) 0 p) (xu fun q3_1 => fun q3_2 =>
      mX8_statement_32 (nI T') (nI k) (nI (K k)) (nI (St k)) (nI (V k)) 0 tp du ks ss vs un ch sm th rn cd nm sz bg lc ln rr co cf cl q3_1 q3_2)) := by
    rw [t_where h hk, show (1 : Int32) = nI 1 from rfl, t_fail, xlet_eq]
    exact Or.inr ⟨(by decide : (1 : Nat) ≠ 0), (by decide : (1 : Nat) < 10), e_st32 (nI T') ks ss vs _ _ _ _ 0 tp du un ch sm th rn cd nm sz bg lc ln rr co cf cl _ _ (nz 1 (by decide) (by decide))⟩
  unfold mX8_statement nStat
  by_cases w0 : gOw K V k 0 = true
  · rw [if_pos (own0.mpr w0), w0]
    unfold mX8_statement_20
    cases first with
    | true =>
      rw [if_pos (show xb true = 1 from rfl), if_pos rfl]
      exact live
    | false =>
      rw [if_neg (show ¬ xb false = 1 by decide), if_neg (by decide)]
      exact dead
  · rw [if_neg (fun q => w0 (own0.mp q)), Bool.eq_false_iff.mpr w0]
    unfold mX8_statement_20
    cases first with
    | true =>
      rw [if_neg (show ¬ xb true = 0 by decide), if_neg (by decide)]
      exact dead
    | false =>
      rw [if_pos (show xb false = 0 from rfl), if_pos rfl]
      exact live
theorem e_r102 (len F P tok now kd st v op tp : Int32) (du : Bool) (un ch sm th rn cd : Int32) (nm sz bg lc ln rr co cf cl : Nat → Int32) (hF : ¬ F = 0) : ∃ s, mX8_read_102 len F P tok now kd st v op tp du ks ss vs un ch sm th rn cd nm sz bg lc ln rr co cf cl = some (false, F, P, s) := by
  unfold mX8_read_102
  rw [s_fail0 _ _ F P hF, xlet_eq]
  simp only [xu]
  refine ite_ex (fun r => ∃ s, r = some (false, F, P, s)) ?_ ?_
  · rw [if_neg hF]; exact ⟨_, rfl⟩
  · rw [if_neg hF]; exact ⟨_, rfl⟩
theorem e_r44 (len F P tok now kd st v op tp : Int32) (du : Bool) (un ch sm th rn cd : Int32) (nm sz bg lc ln rr co cf cl : Nat → Int32) (hF : ¬ F = 0) (f i : Nat) : ∃ s, mX8_read_44 len f i F P tok now kd st v op tp du ks ss vs un ch sm th rn cd nm sz bg lc ln rr co cf cl = some (false, F, P, s) := by
  cases f with
  | zero => rw [mX8_read_44]; exact e_r102 len F P tok now kd st v op tp du un ch sm th rn cd nm sz bg lc ln rr co cf cl hF
  | succ f => rw [mX8_read_44, if_neg hF]; exact e_r102 len F P tok now kd st v op tp du un ch sm th rn cd nm sz bg lc ln rr co cf cl hF
theorem j_read (h : gTok K V St B T' ks ss vs) (n : Nat) : ∀ (f i k : Nat) (P : NP) (L : List (Nat × Nat)) (un ch sm th rn cd tp p : Int32) (nm sz bg lc ln rr co cf cl : Nat → Int32) (du : Bool), i + f = 81 → P 0 2 = i → nOkP P L → k ≤ B → L.length ≤ k → cPl P L un ch sm th rn cd nm sz bg lc ln rr co cf cl du →
    cR T' ks ss vs (nFin n (nRead K V St f i k P L)) p (mX8_read_44 (nI n) f i 0 p (nI T') (nI k) (nI (K k)) (nI (St k)) (nI (V k)) 0 tp du ks ss vs un ch sm th rn cd nm sz bg lc ln rr co cf cl) := by
  intro f
  induction f with
  | zero =>
    intro i k P L un ch sm th rn cd tp p nm sz bg lc ln rr co cf cl du hi h2 hP
    have := hP.2.2.1
    omega
  | succ f ih =>
    intro i k P L un ch sm th rn cd tp p nm sz bg lc ln rr co cf cl du hi h2 hP hk hL hc
    have hB := h.1
    have hK := (h.2.2.2.1 k hk).2.2.2.1
    have hsm : sm = nI (P 0 2) := hc.2.2.1
    have b2 := hP.2.2.1
    rw [mX8_read_44, nRead, if_pos rfl]
    by_cases k0 : K k = 0
    · rw [if_pos (show nI (K k) = 0 by rw [k0]; rfl), if_pos k0]
      unfold mX8_read_102 nFin
      rw [if_pos rfl, hsm]
      show cR T' ks ss vs (if P 0 2 = 0 then sBad 1 n P else sOk k P L) p _
      by_cases z : P 0 2 = 0
      · rw [if_pos (show nI (P 0 2) = 0 by rw [z]; rfl), if_pos z, show (1 : Int32) = nI 1 from rfl, t_fail, xlet_eq]
        simp only [xu]
        rw [if_neg (nz 1 (by decide) (by decide))]
        exact Or.inr ⟨(by decide : (1 : Nat) ≠ 0), (by decide : (1 : Nat) < 10), _, rfl⟩
      · rw [if_neg (nI_ne0 (Nat.pos_of_ne_zero z) (by omega)), if_neg z]
        rw [hsm] at hc
        exact Or.inl ⟨rfl, hP, by show L.length ≤ 1600; omega, by show 0 < P 0 2; omega, nI k, nI (K k), nI (St k), nI (V k), tp, du, un, ch, nI (P 0 2), th, rn, cd, nm, sz, bg, lc, ln, rr, co, cf, cl, hc, rfl⟩
    · rw [if_neg (nI_ne0 (Nat.pos_of_ne_zero k0) (by omega)), if_neg k0]
      by_cases i80 : i = 80
      · rw [if_pos (show nI i = 80 by rw [i80]; rfl), if_pos i80, show (6 : Int32) = nI 6 from rfl, t_fail, xlet_eq]
        obtain ⟨s, e⟩ := e_r44 (ks := ks) (ss := ss) (vs := vs) (nI n) (nI 6) (nI (St k)) (nI T') (nI k) (nI (K k)) (nI (St k)) (nI (V k)) 0 tp du un ch sm th rn cd nm sz bg lc ln rr co cf cl (nz 6 (by decide) (by decide)) f (i + 1)
        exact Or.inr ⟨(by decide : (6 : Nat) ≠ 0), (by decide : (6 : Nat) < 10), s, e⟩
      · rw [if_neg (show ¬ nI i = 80 from fun q => i80 ((nI_eq (b := 80) (by omega) (by decide)).mp q)), if_neg i80]
        have go : ∀ first : Bool, first = decide (i = 0) → cR T' ks ss vs (nFin n (if (nStat K V St (decide (i = 0)) k P L).1 = 0 then nRead K V St f (i + 1) (nStat K V St (decide (i = 0)) k P L).2.2.1 (nStat K V St (decide (i = 0)) k P L).2.2.2.1 (nStat K V St (decide (i = 0)) k P L).2.2.2.2 else nStat K V St (decide (i = 0)) k P L)) p
            ((mX8_statement first 0 p (nI T') (nI k) (nI (K k)) (nI (St k)) (nI (V k)) 0 tp du ks ss vs un ch sm th rn cd nm sz bg lc ln rr co cf cl).bind (xu fun q9_1 => xu fun q9_2 => xu fun q9_3 => xu fun q9_4 => xu fun q9_5 => xu fun q9_6 => xu fun q9_7 => xu fun q9_8 => xu fun q9_9 => xu fun q9_10 => xu fun q9_11 => xu fun q9_12 => xu fun q9_13 => xu fun q9_14 => xu fun q9_15 => xu fun q9_16 => xu fun q9_17 => xu fun q9_18 => xu fun q9_19 => xu fun q9_20 => xu fun q9_21 => xu fun q9_22 => xu fun q9_23 => fun q9_24 => mX8_read_44 (nI n) f (i + 1) q9_1 q9_2 (nI T') q9_3 q9_4 q9_5 q9_6 q9_7 q9_8 q9_9 ks ss vs q9_10 q9_11 q9_12 q9_13 q9_14 q9_15 q9_16 q9_17 q9_18 q9_19 q9_20 q9_21 q9_22 q9_23 q9_24)) := by
          intro first hf
          rw [← hf]
          have hs := j_stat h hP (show P 0 2 < 80 by omega) hk hL (tp := tp) (p := p) hc first
          generalize mX8_statement first 0 p (nI T') (nI k) (nI (K k)) (nI (St k)) (nI (V k)) 0 tp du ks ss vs un ch sm th rn cd nm sz bg lc ln rr co cf cl = res at hs ⊢
          generalize nStat K V St first k P L = r at hs ⊢
          obtain ⟨r1, r2, k', P', L'⟩ := r
          rcases hs with ⟨q1, q2, q3, q4, q5, tp', du', un', ch', th', rn', cd', nm', sz', bg', lc', ln', rr', co', cf', cl', hc', e⟩ | ⟨q1, q2, s, e⟩
          · dsimp only at q1 q2 q3 q4 q5 hc' e ⊢
            rw [if_pos q1, e, obind]
            rw [h2] at q5 hc'
            exact ih (i + 1) k' P' L' un' ch' (nI (P 0 2 + 1)) th' rn' cd' tp' p nm' sz' bg' lc' ln' rr' co' cf' cl' du' (by omega) q5 q4 q2 q3 (by rw [h2]; exact hc')
          · dsimp only at q1 q2 e ⊢
            rw [if_neg q1, e, obind]
            obtain ⟨a1, a2, a3, a4, a5, a6, a7, a8, a9, a10, a11, a12, a13, a14, a15, a16, a17, a18, a19, a20, a21, a22⟩ := s
            obtain ⟨s', e'⟩ := e_r44 (ks := ks) (ss := ss) (vs := vs) (nI n) (nI r1) (nI r2) (nI T') a1 a2 a3 a4 a5 a6 a7 a8 a9 a10 a11 a12 a13 a14 a15 a16 a17 a18 a19 a20 a21 a22 (nI_ne0 (Nat.pos_of_ne_zero q1) (by omega)) f (i + 1)
            unfold nFin
            rw [if_neg q1]
            exact Or.inr ⟨q1, q2, s', e'⟩
        by_cases i0 : i = 0
        · rw [if_pos (show nI i = 0 by rw [i0]; rfl)]
          exact go true (decide_eq_true i0).symm
        · rw [if_neg (nI_ne0 (Nat.pos_of_ne_zero i0) (by omega))]
          exact go false (decide_eq_false i0).symm
end SQ
