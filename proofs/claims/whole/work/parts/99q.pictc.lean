/-- the ghost that an image tells; its sign; what makes it good -/
def gIm (tx : Nat → Nat) : GH := fun a t => if a ≤ 5 then (if t < 40 then iV tx a t else 0) else if a = 6 then (if t < 160 then iL tx t else 0) else if a = 7 then (if t < 8 then iTo (tx (2 + t)) else 0) else if a = 8 ∧ t = 0 then 256 * tx 0 + tx 1 else 0
def ckF (tx : Nat → Nat) : Nat → Nat
  | 0 => 239
  | m + 1 => (5 * ckF tx m + tx m) % 251
def iHd (tx : Nat → Nat) (n : Nat) : Prop := 50 < n ∧ n ≤ 411 ∧ ckF tx (n - 1) = tx (n - 1) ∧ 256 * tx 0 + tx 1 ≤ 999
def iTh (tx : Nat → Nat) (n U : Nat) : Prop := iP tx 40 = n - 1 ∧ ∀ j, j < 40 → iOk tx n U j
def iBo (tx : Nat → Nat) : Prop := (∀ j, j < 8 → iAim tx (tx (2 + j)) = true) ∧ ∀ j, j < 160 → iLk tx j = true
def iUn (tx : Nat → Nat) (U : Nat) : Prop := ∀ t, t < 40 → 0 < gIm tx 0 t → gUs (gIm tx) (gIm tx 1 t) (gIm tx 2 t) ≤ U
def iAll (tx : Nat → Nat) (n U : Nat) : Prop := iHd tx n ∧ iTh tx n U ∧ iBo tx ∧ gOrd (gIm tx) ∧ iUn tx U
section IG
variable {tx : Nat → Nat} {n U : Nat}
theorem gIm_v {a t : Nat} (ha : a ≤ 5) (ht : t < 40) : gIm tx a t = iV tx a t := by
  unfold gIm; rw [if_pos ha, if_pos ht]
theorem gIm_6 {j : Nat} (hj : j < 160) : gIm tx 6 j = iL tx j := by
  unfold gIm; rw [if_neg (by decide), if_pos rfl, if_pos hj]
theorem gIm_7 {k : Nat} (hk : k < 8) : gIm tx 7 k = iTo (tx (2 + k)) := by
  unfold gIm; rw [if_neg (by decide), if_neg (by decide), if_pos rfl, if_pos hk]
theorem gIm_8 : gIm tx 8 0 = 256 * tx 0 + tx 1 := by
  unfold gIm; rw [if_neg (by decide), if_neg (by decide), if_neg (by decide), if_pos ⟨rfl, rfl⟩]
theorem iV_lt (hb : ∀ i, i < n → tx i < 256) (h0 : 0 < n) (hT : iTh tx n U) {a t : Nat} (ha : a ≤ 9) (ht : t < 40) : iV tx a t < 256 := by
  unfold iV
  by_cases z : tx (iP tx t) = 0
  · rw [if_pos z]; decide
  · rw [if_neg z]
    rcases hT.2 t ht with q | q
    · exact absurd q z
    · exact hb _ (by omega)
theorem gIm_by (hb : ∀ i, i < n → tx i < 256) (h0 : 0 < n) (hT : iTh tx n U) : gByt (gIm tx) := fun t ht => by
  rw [gIm_v (by decide) ht, gIm_v (by decide) ht, gIm_v (by decide) ht, gIm_v (by decide) ht]
  exact ⟨iV_lt hb h0 hT (by decide) ht, iV_lt hb h0 hT (by decide) ht, iV_lt hb h0 hT (by decide) ht, iV_lt hb h0 hT (by decide) ht⟩
theorem iTo_ok {x : Nat} (h : iAim tx x = true) : iTo x ≤ 40 ∧ ∀ t, iTo x = t + 1 → gTh (gIm tx) t = true := by
  unfold iTo
  by_cases z : x = 255
  · rw [if_pos z]; exact ⟨Nat.zero_le _, fun t q => absurd q (by omega)⟩
  · rw [if_neg z]
    obtain ⟨p, q⟩ := (of_decide_eq_true h).resolve_left z
    refine ⟨by omega, fun t e => ?_⟩
    have : t = x := by omega
    subst this
    exact decide_eq_true (by rw [gIm_v (by decide) p]; exact q)
/-- a good image tells a state between STEPS -/
theorem gIm_W (hb : ∀ i, i < n → tx i < 256) (hU : U ≤ 99) (h0 : 0 < n) (hT : iTh tx n U) (hB : iBo tx) (O : gOrd (gIm tx)) : gW (gIm tx) := by
  obtain ⟨o1, o2, o3, o4⟩ := ord_w O
  refine ⟨fun t ht => ?_, o1, o2, o3, o4, ⟨fun j hj => ?_, fun k hk => ?_⟩, fun t ht e k hk => ?_⟩
  · rw [gIm_v (by decide) ht, gIm_v (by decide) ht, gIm_v (by decide) ht]
    have z9 : gIm tx 9 t = 0 := by
      unfold gIm; rw [if_neg (by decide), if_neg (by decide), if_neg (by decide), if_neg (fun q => absurd q.1 (by decide))]
    unfold iV
    by_cases z : tx (iP tx t) = 0
    · rw [if_pos z, if_pos z, if_pos z]
      exact ⟨by decide, by decide, by decide, fun _ => rfl, z9⟩
    · rw [if_neg z, if_neg z, if_neg z, Nat.add_zero]
      rcases hT.2 t ht with q | q
      · exact absurd q z
      · exact ⟨by omega, q.2.2.1, q.2.2.2, fun y => absurd y z, z9⟩
  · rw [gIm_6 hj]
    have q := hB.2 j hj
    unfold iLk at q
    unfold iL
    by_cases z : tx (iP tx (j / 4)) = 0
    · rw [if_pos z]; exact ⟨Nat.zero_le _, fun t y => absurd y (by omega)⟩
    · rw [decide_eq_false z, Bool.false_or] at q
      rw [if_neg z]
      exact iTo_ok q
  · rw [gIm_7 hk]
    exact iTo_ok (hB.1 k hk)
  · rw [gIm_v (by decide) ht] at e
    rw [gIm_6 (by omega)]
    unfold iV at e
    unfold iL
    rw [show (4 * t + k) / 4 = t by omega]
    by_cases z : tx (iP tx t) = 0
    · exact if_pos z
    · rw [if_neg z] at e
      exact absurd e z
theorem ckF_lt : ∀ m, ckF tx m < 251
  | 0 => by show 239 < 251; decide
  | m + 1 => Nat.mod_lt _ (by decide)
theorem ic_check {tc : Nat → Int32} {m : Nat} (ht : ∀ i, i < m → tc i = nI (tx i)) (hb : ∀ i, i < m → tx i < 256) (hm : m ≤ 1600) : mX6_check 1600 (nI m) tc = nI (ckF tx m) := by
  have go : ∀ k i, i + k = 1600 → i ≤ m → mX6_check_6 (nI m) tc k i (nI (ckF tx i)) = nI (ckF tx m) := by
    intro k
    induction k with
    | zero =>
      intro i hi h
      have : i = m := by omega
      subst this
      rw [mX6_check_6, ite_self]
    | succ k ih =>
      intro i hi h
      rw [mX6_check_6]
      by_cases e : i < m
      · have b := hb i e
        have c := ckF_lt (tx := tx) i
        rw [if_pos (nI_lt e (by omega)), zc i (by omega), ht i e, show (5 : Int32) * nI (ckF tx i) + nI (tx i) = nI (5 * ckF tx i + tx i) by rw [show (5 : Int32) = nI 5 from rfl, pk_mul, nI_add], show nI (5 * ckF tx i + tx i) - nI (5 * ckF tx i + tx i) / 251 * 251 = nI ((5 * ckF tx i + tx i) % 251) from md_n (d := 251) (by omega) (by decide) (by decide)]
        exact ih (i + 1) (by omega) (by omega)
      · have : i = m := by omega
        subst this
        rw [if_neg (nI_nlt (Nat.le_refl _) (by omega))]
  unfold mX6_check
  exact go 1600 0 rfl (Nat.zero_le _)
/-- the class reads an image -/
theorem ic_read {tc : Nat → Int32} (ht : ∀ i, i < n → tc i = nI (tx i)) (hb : ∀ i, i < n → tx i < 256) (hn : n ≤ 1600) (hU : U ≤ 99) (sz ag tr ca pl lk rt cs : Nat → Int32) (fr : Nat → Int64) : (iAll tx n U ∧ ∃ (th mk : Int64) (tn sp : Int32) (sz' ag' tr' ca' pl' lk' rt' cs' : Nat → Int32) (fr' : Nat → Int64), mX6_read 1600 (nI n) (nI U) tc sz ag tr ca pl lk rt cs fr = (true, th, mk, tn, sp, sz', ag', tr', ca', pl', lk', rt', cs', fr') ∧ cY (gIm tx) sz' ag' tr' ca' pl' lk' rt' cs' fr' th mk tn sp) ∨ (¬ iAll tx n U ∧ ∃ s : CB, mX6_read 1600 (nI n) (nI U) tc sz ag tr ca pl lk rt cs fr = (false, s)) := by
  have cl : mX10_clear sz ag lk rt cs fr = ((0 : Int64), (0 : Int64), (0 : Int32), (0 : Int32), mJ7_fill_53178 40 (0 : Int32) sz, mJ7_fill_53178 40 (0 : Int32) ag, mJ7_fill_53178 160 ((-1) : Int32) lk, mJ7_fill_53178 8 ((-1) : Int32) rt, mJ7_fill_53178 42 (0 : Int32) cs, mJ7_fill_d0a16 40 (0 : Int64) fr) := by
    unfold mX10_clear
    simp only [xlet_eq]
  have stp : 50 < n → mX11_at 1600 (0 : Int32) tc * 256 + mX11_at 1600 (1 : Int32) tc = nI (256 * tx 0 + tx 1) := fun h => by
    rw [show mX11_at 1600 (0 : Int32) tc = tc 0 from s_at 1600 0 (by decide) (by decide) tc, show mX11_at 1600 (1 : Int32) tc = tc 1 from s_at 1600 1 (by decide) (by decide) tc, ht 0 (by omega), ht 1 (by omega), show (256 : Int32) = nI 256 from rfl, pk_mul, nI_add, Nat.mul_comm]
  unfold mX6_read
  rw [cl, xlet_eq]
  simp only [xu_q]
  generalize hfr : mJ7_fill_d0a16 40 (0 : Int64) fr = fr0
  have f0 : ∀ t, t < 40 → fr0 t = 0 := fun t h => by rw [← hfr]; exact s_fillL 40 (by decide) 0 fr t h
  by_cases h50 : 50 < n
  · rw [if_pos (show (50 : Int32) < nI n from nI_lt (a := 50) h50 (by omega))]
    by_cases h411 : n ≤ 411
    · rw [if_neg (show ¬ (411 : Int32) < nI n from nI_nlt (a := 411) h411 (by decide)), show nI n - 1 = nI (n - 1) from pk_sub (b := 1) (by omega), ic_check (fun i h => ht i (by omega)) (fun i h => hb i (by omega)) (by omega), s_at 1600 _ (by omega) (by decide), ht _ (by omega), show mX11_at 1600 (0 : Int32) tc = tc 0 from s_at 1600 0 (by decide) (by decide) tc, show mX11_at 1600 (1 : Int32) tc = tc 1 from s_at 1600 1 (by decide) (by decide) tc, ht 0 (by omega), ht 1 (by omega), show nI (tx 0) * 256 + nI (tx 1) = nI (256 * tx 0 + tx 1) by rw [show (256 : Int32) = nI 256 from rfl, pk_mul, nI_add, Nat.mul_comm]]
      have b0 := hb 0 (by omega)
      have b1 := hb 1 (by omega)
      have bn := hb (n - 1) (by omega)
      have ck := ckF_lt (tx := tx) (n - 1)
      by_cases hc : ckF tx (n - 1) = tx (n - 1)
      · rw [if_pos (show nI (ckF tx (n - 1)) = nI (tx (n - 1)) by rw [hc])]
        by_cases hs : 256 * tx 0 + tx 1 ≤ 999
        · rw [if_neg (show ¬ (999 : Int32) < nI (256 * tx 0 + tx 1) from nI_nlt (a := 999) hs (by decide))]
          have C0 : iCs tx 0 0 0 (mJ7_fill_53178 40 (0 : Int32) sz) (mJ7_fill_53178 40 (0 : Int32) ag) tr ca pl := ⟨zh_cong zh_0 (fun t _ => (decide_eq_false (fun q => absurd q.1 (Nat.not_lt_zero _))).symm), zh_cong zh_0 (fun t _ => (decide_eq_false (fun q => absurd q.1 (Nat.not_lt_zero _))).symm), fun t h => ⟨by rw [s_fill 40 (by decide) 0 sz t h, if_neg (Nat.not_lt_zero _)]; rfl, by rw [s_fill 40 (by decide) 0 ag t h, if_neg (Nat.not_lt_zero _)]; rfl⟩, fun t h => absurd h (Nat.not_lt_zero _)⟩
          have L0 : iCl tx 0 (mJ7_fill_53178 160 ((-1) : Int32) lk) fr0 := ⟨fun j hj => s_fill 160 (by decide) (-1) lk j hj, fun t h => by
            rw [f0 t h]
            refine zh_cong zh_0 (fun u _ => (Bool.eq_false_iff.mpr (fun q => ?_)).symm)
            obtain ⟨k, hk, e⟩ := (gLk_iff _ _ _).mp q
            exact absurd e (show ¬ 0 = t + 1 by omega)⟩
          rw [show (10 : Int32) = nI (iP tx 0) from rfl]
          rcases ic_loop h411 ht hb hU 0 (mJ7_fill_53178 160 ((-1) : Int32) lk) (mJ7_fill_53178 8 ((-1) : Int32) rt) (mJ7_fill_53178 42 (0 : Int32) cs) fr0 40 0 0 0 _ _ tr ca pl rfl C0 with ⟨⟨a1, a2⟩, th, mk, sz1, ag1, tr1, ca1, pl1, e, C⟩ | ⟨a, s, e⟩
          · rw [e]
            unfold mX6_read_160
            rw [if_neg (show ¬ (1 : Int32) = 0 by decide), show nI n - 1 = nI (n - 1) from pk_sub (b := 1) (by omega)]
            have p40 := iP_le (tx := tx) 40
            by_cases hend : iP tx 40 = n - 1
            · have hT : iTh tx n U := ⟨hend, fun j h => a2 j (Nat.zero_le _) h⟩
              have B := gIm_by hb (by omega) hT
              obtain ⟨c1, c2, c3, c4⟩ := C
              have Y : cIm (gIm tx) sz1 tr1 ca1 pl1 := ⟨fun t h => by rw [(c3 t h).1, if_pos h, gIm_v (by decide) h], fun t h p => by
                rw [gIm_v (by decide) h] at p
                rw [gIm_v (by decide) h, gIm_v (by decide) h, gIm_v (by decide) h]
                exact c4 t h p⟩
              have hth : zh th (gTh (gIm tx)) := zh_cong c1 (fun t h => by
                unfold gTh
                rw [gIm_v (by decide) h, decide_eq_decide]
                exact ⟨fun q => q.2, fun q => ⟨h, q⟩⟩)
              rw [if_pos (show nI (iP tx 40) = nI (n - 1) by rw [hend])]
              unfold mX6_readBonds
              rcases ib_roots ht hb h411 h50 c1 (by omega) _ fr0 L0 8 0 (mJ7_fill_53178 8 ((-1) : Int32) rt) rfl (fun j h => absurd h (Nat.not_lt_zero _)) (fun j h => absurd h (Nat.not_lt_zero _)) with ⟨b, lk1, rt1, fr1, e2, l1, l2⟩ | ⟨b, s, e2⟩
              · rw [e2, xlet_eq]
                simp only [xu_q]
                rw [if_pos True.intro]
                unfold mX6_countCars
                rcases ci_count B Y hth 40 0 0 (mJ7_fill_53178 42 (0 : Int32) cs) rfl ⟨rfl, fun w hw => s_fill 42 (by decide) 0 cs w hw⟩ with ⟨d, tn, cs1, e3, N⟩ | ⟨d, tn, cs1, e3⟩
                · have O : gOrd (gIm tx) := fun t h p => d t (Nat.zero_le _) h p
                  rw [e3, xlet_eq]
                  simp only [xu_q]
                  rw [if_pos True.intro]
                  unfold mX6_carsHold
                  rcases ci_hold B Y hth hU 40 0 rfl with ⟨u, e4⟩ | ⟨u, e4⟩
                  · rw [e4, if_pos rfl]
                    refine Or.inl ⟨⟨⟨h50, h411, hc, hs⟩, hT, b, O, fun t h p => u t (Nat.zero_le _) h p⟩, th, mk, tn, _, sz1, ag1, tr1, ca1, pl1, lk1, rt1, cs1, fr1, rfl, Y.1, fun t h p => ?_, ⟨fun j hj => ?_, fun k hk => ?_⟩, fun w hw => ?_, fun t h => ?_, hth, ?_, N.1, by rw [gIm_8]; exact stp h50⟩
                    · obtain ⟨y1, y2, y3⟩ := Y.2 t h p
                      exact ⟨by rw [(c3 t h).2, if_pos h, gIm_v (by decide) h], y1, y2, y3⟩
                    · rw [l1.1 j hj, gIm_6 hj]
                      show bno (if 6 = 6 ∧ j < 160 then iL tx j else 0) = _
                      rw [if_pos ⟨rfl, hj⟩]
                    · rw [l2 k hk, gIm_7 hk]
                    · have : gTr (gIm tx) ≤ 40 := bmx_le (fun t h p => (ord_40 O h (of_decide_eq_true p)).1)
                      exact N.2 w (by omega)
                    · refine zh_cong (l1.2 t h) (fun u hu => ?_)
                      rw [Bool.eq_iff_iff, gLk_iff, gLk_iff]
                      have eq : ∀ k, k < 4 → gLm tx 160 6 (4 * u + k) = gIm tx 6 (4 * u + k) := fun k hk => by
                        rw [gIm_6 (by omega)]
                        exact if_pos ⟨rfl, by omega⟩
                      exact ⟨fun ⟨k, hk, q⟩ => ⟨k, hk, by rw [← eq k hk]; exact q⟩, fun ⟨k, hk, q⟩ => ⟨k, hk, by rw [eq k hk]; exact q⟩⟩
                    · refine zh_cong c2 (fun t h => ?_)
                      rw [gIm_v (by decide) h, decide_eq_decide]
                      exact ⟨fun q => q.2, fun q => ⟨h, q⟩⟩
                  · rw [e4, if_neg (by decide)]
                    exact Or.inr ⟨fun q => u (fun t _ h p => q.2.2.2.2 t h p), _, rfl⟩
                · rw [e3, xlet_eq]
                  simp only [xu_q]
                  rw [if_neg (by decide)]
                  exact Or.inr ⟨fun q => d (fun t _ h p => q.2.2.2.1 t h p), _, rfl⟩
              · obtain ⟨s1, s2, s3⟩ := s
                rw [e2, xlet_eq]
                simp only [xu_q]
                rw [if_neg (by decide)]
                exact Or.inr ⟨fun q => b q.2.2.1, _, rfl⟩
            · rw [if_neg (fun q => hend ((nI_eq (by omega) (by omega)).mp q))]
              exact Or.inr ⟨fun q => hend q.2.1.1, _, rfl⟩
          · exact Or.inr ⟨fun q => a ⟨by have := q.2.1.1; omega, fun j _ h => q.2.1.2 j h⟩, s, e⟩
        · rw [if_pos (show (999 : Int32) < nI (256 * tx 0 + tx 1) from nI_lt (a := 999) (by omega) (by omega))]
          exact Or.inr ⟨fun q => hs q.1.2.2.2, ic_0 40 0 _ _ _ _ _ _ _ _ _ _ _ _ _⟩
      · rw [if_neg (fun q => hc ((nI_eq (by omega) (by omega)).mp q))]
        exact Or.inr ⟨fun q => hc q.1.2.2.1, _, rfl⟩
    · rw [if_pos (show (411 : Int32) < nI n from nI_lt (a := 411) (by omega) (by omega))]
      exact Or.inr ⟨fun q => h411 q.1.2.1, _, rfl⟩
  · rw [if_neg (show ¬ (50 : Int32) < nI n from nI_nlt (a := 50) (by omega) (by decide))]
    exact Or.inr ⟨fun q => h50 q.1.1, _, rfl⟩
end IG
