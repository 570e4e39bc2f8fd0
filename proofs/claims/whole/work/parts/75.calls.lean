def gRider (g : GH) (τ c : Int32) (u : Nat) : Bool := decide (0 < g 0 u ∧ nI (g 1 u) = τ ∧ (c = -1 ∨ nI (g 2 u) = c))
/-- refs to t from outside a group -/
def gFrom (g : GH) (p : Nat → Bool) (t : Nat) : Nat := fb_ct (fun r => decide (g 7 r = t + 1)) 8 + fb_sm (fun u => if (gTh g u && !p u) = true then fb_ct (fun r => decide (g 6 (4 * u + r) = t + 1)) 4 else 0) 40
def gInto (g : GH) (p : Nat → Bool) : Nat := fb_sm (fun t => if p t = true then gFrom g p t else 0) 40
section CAL
variable {g : GH} {K : GK} {so sz tr ca pl ag mk lk rt km kr : Nat → Int32} {τ c : Int32}
theorem r_c141 (W : gW g) (S : rS 0 g K so sz tr ca pl ag mk lk rt km kr) {t u : Nat} (ht : t < 40) (hu : u < 40) (KK) : ∀ k i x, i + k = 4 → mX12_callsTo_141 lk t u KK k i (nI (x + fb_ct (fun r => decide (g 6 (4 * u + r) = t + 1)) i)) = KK (nI (x + fb_ct (fun r => decide (g 6 (4 * u + r) = t + 1)) 4)) := by
  intro k
  induction k with
  | zero =>
    intro i x hi
    have : i = 4 := by omega
    subst this
    rw [mX12_callsTo_141]
  | succ k ih =>
    intro i x hi
    have ix := ih (i + 1) x (by omega)
    rw [fb_ct_succ] at ix
    have b := ((gW_N W).2.2.1 (4 * u + i) (by omega)).1
    have e1 : (4 : Int32) * nI u + nI i = nI (4 * u + i) := by rw [show (4 : Int32) = nI 4 from rfl, pk_mul, nI_add]
    rw [mX12_callsTo_141, e1, zc _ (by omega), (rS_0 S).2.2.1 _ (by omega)]
    have cc : (bno (g 6 (4 * u + i)) = nI t) ↔ g 6 (4 * u + i) = t + 1 := bno_nI (by omega) (by omega)
    by_cases q : g 6 (4 * u + i) = t + 1
    · rw [if_pos (cc.mpr q), nI_1]
      rw [if_pos (decide_eq_true q)] at ix
      exact ix
    · rw [if_neg (fun w => q (cc.mp w)), Int32.add_zero]
      rw [if_neg (fun w => q (of_decide_eq_true w))] at ix
      exact ix
theorem r_c91 (W : gW g) (S : rS 0 g K so sz tr ca pl ag mk lk rt km kr) {t : Nat} (ht : t < 40) (KK) : ∀ k i x, i + k = 40 → mX12_callsTo_91 τ c sz tr ca lk t KK k i (nI (x + fb_sm (fun u => if (gTh g u && !gRider g τ c u) = true then fb_ct (fun r => decide (g 6 (4 * u + r) = t + 1)) 4 else 0) i)) = KK (nI (x + fb_sm (fun u => if (gTh g u && !gRider g τ c u) = true then fb_ct (fun r => decide (g 6 (4 * u + r) = t + 1)) 4 else 0) 40)) := by
  intro k
  induction k with
  | zero =>
    intro i x hi
    have : i = 40 := by omega
    subst this
    rw [mX12_callsTo_91]
  | succ k ih =>
    intro i x hi
    have hi40 : i < 40 := by omega
    have ix := ih (i + 1) x (by omega)
    rw [fb_sm_succ] at ix
    rw [mX12_callsTo_91, show mX12_isThere (0 : Int32) (nI i) sz = _ from r_there (v := 0) (by decide) (rS_M S) (gW_N W) hi40, obind, zc i (by omega)]
    have eT : decide (0 < g 0 i) = gTh g i := rfl
    rw [eT]
    by_cases p : gTh g i = true
    · have p0 : 0 < g 0 i := of_decide_eq_true p
      obtain ⟨t1, t2, -, -, -⟩ := (rS_0 S).2.1 i hi40 p0
      have go : gRider g τ c i = false → mX12_callsTo_141 lk t i (fun zx3_91 => mX12_callsTo_91 τ c sz tr ca lk t KK k (i + 1) zx3_91) 4 0 (nI (x + fb_sm (fun u => if (gTh g u && !gRider g τ c u) = true then fb_ct (fun r => decide (g 6 (4 * u + r) = t + 1)) 4 else 0) i)) = KK (nI (x + fb_sm (fun u => if (gTh g u && !gRider g τ c u) = true then fb_ct (fun r => decide (g 6 (4 * u + r) = t + 1)) 4 else 0) 40)) := by
        intro r
        rw [p, r, if_pos (show (true && !false) = true from rfl)] at ix
        have := r_c141 W S ht hi40 (fun zx3_91 => mX12_callsTo_91 τ c sz tr ca lk t KK k (i + 1) zx3_91) 4 0 (x + fb_sm (fun u => if (gTh g u && !gRider g τ c u) = true then fb_ct (fun r => decide (g 6 (4 * u + r) = t + 1)) 4 else 0) i) rfl
        rw [show fb_ct (fun r => decide (g 6 (4 * i + r) = t + 1)) 0 = 0 from rfl, Nat.add_zero (x + _), Nat.add_assoc x] at this
        rw [this]
        exact ix
      have stay : gRider g τ c i = true → mX12_callsTo_91 τ c sz tr ca lk t KK k (i + 1) (nI (x + fb_sm (fun u => if (gTh g u && !gRider g τ c u) = true then fb_ct (fun r => decide (g 6 (4 * u + r) = t + 1)) 4 else 0) i)) = KK (nI (x + fb_sm (fun u => if (gTh g u && !gRider g τ c u) = true then fb_ct (fun r => decide (g 6 (4 * u + r) = t + 1)) 4 else 0) 40)) := by
        intro r
        rw [p, r, if_neg (show ¬ (true && !true) = true by decide)] at ix
        exact ix
      rw [if_pos p, t1, t2]
      by_cases a : nI (g 1 i) = τ
      · rw [if_pos a]
        by_cases b : c = -1
        · rw [if_pos b]
          exact stay (decide_eq_true ⟨p0, a, Or.inl b⟩)
        · rw [if_neg b]
          by_cases d : nI (g 2 i) = c
          · rw [if_pos d]
            exact stay (decide_eq_true ⟨p0, a, Or.inr d⟩)
          · rw [if_neg d]
            exact go (decide_eq_false (fun q => q.2.2.elim b d))
      · rw [if_neg a]
        exact go (decide_eq_false (fun q => a q.2.1))
    · rw [if_neg p]
      rw [Bool.eq_false_iff.mpr p, if_neg (show ¬ (false && !gRider g τ c i) = true by rw [Bool.false_and]; decide)] at ix
      exact ix
theorem r_c55 (W : gW g) (S : rS 0 g K so sz tr ca pl ag mk lk rt km kr) {t : Nat} (ht : t < 40) (KK) : ∀ k i x, i + k = 8 → mX12_callsTo_55 τ c sz tr ca lk rt t KK k i (nI (x + fb_ct (fun r => decide (g 7 r = t + 1)) i)) = KK (nI (x + gFrom g (gRider g τ c) t)) := by
  intro k
  induction k with
  | zero =>
    intro i x hi
    have : i = 8 := by omega
    subst this
    have := r_c91 (τ := τ) (c := c) W S ht KK 40 0 (x + fb_ct (fun r => decide (g 7 r = t + 1)) 8) rfl
    rw [show fb_sm (fun u => if (gTh g u && !gRider g τ c u) = true then fb_ct (fun r => decide (g 6 (4 * u + r) = t + 1)) 4 else 0) 0 = 0 from rfl, Nat.add_zero (x + _), Nat.add_assoc x] at this
    rw [mX12_callsTo_55, this]
    rfl
  | succ k ih =>
    intro i x hi
    have ix := ih (i + 1) x (by omega)
    rw [fb_ct_succ] at ix
    have b := ((gW_N W).2.2.2 i (by omega)).1
    rw [mX12_callsTo_55, zc i (by omega), (rS_0 S).2.2.2 i (by omega)]
    have cc : (bno (g 7 i) = nI t) ↔ g 7 i = t + 1 := bno_nI (by omega) (by omega)
    by_cases q : g 7 i = t + 1
    · rw [if_pos (cc.mpr q), nI_1]
      rw [if_pos (decide_eq_true q)] at ix
      exact ix
    · rw [if_neg (fun w => q (cc.mp w)), Int32.add_zero]
      rw [if_neg (fun w => q (of_decide_eq_true w))] at ix
      exact ix
/-- the reference: refs into a group -/
theorem r_callsTo (W : gW g) (S : rS 0 g K so sz tr ca pl ag mk lk rt km kr) : mX12_callsTo τ c sz tr ca lk rt = some (nI (gInto g (gRider g τ c))) := by
  unfold mX12_callsTo
  have go : ∀ k i, i + k = 40 → mX12_callsTo_5 τ c sz tr ca lk rt k i (nI (fb_sm (fun t => if gRider g τ c t = true then gFrom g (gRider g τ c) t else 0) i)) = some (nI (gInto g (gRider g τ c))) := by
    intro k
    induction k with
    | zero =>
      intro i hi
      have : i = 40 := by omega
      subst this
      rw [mX12_callsTo_5]
      rfl
    | succ k ih =>
      intro i hi
      have hi40 : i < 40 := by omega
      have ix := ih (i + 1) (by omega)
      rw [fb_sm_succ] at ix
      rw [mX12_callsTo_5, show mX12_isThere (0 : Int32) (nI i) sz = _ from r_there (v := 0) (by decide) (rS_M S) (gW_N W) hi40, obind, zc i (by omega)]
      by_cases p : 0 < g 0 i
      · obtain ⟨t1, t2, -, -, -⟩ := (rS_0 S).2.1 i hi40 p
        rw [if_pos (decide_eq_true p), t1, t2]
        have yes : gRider g τ c i = true → mX12_callsTo_55 τ c sz tr ca lk rt i (fun zx3_5 => mX12_callsTo_5 τ c sz tr ca lk rt k (i + 1) zx3_5) 8 0 (nI (fb_sm (fun t => if gRider g τ c t = true then gFrom g (gRider g τ c) t else 0) i)) = some (nI (gInto g (gRider g τ c))) := by
          intro r
          rw [if_pos r] at ix
          have := r_c55 (τ := τ) (c := c) W S hi40 (fun zx3_5 => mX12_callsTo_5 τ c sz tr ca lk rt k (i + 1) zx3_5) 8 0 (fb_sm (fun t => if gRider g τ c t = true then gFrom g (gRider g τ c) t else 0) i) rfl
          rw [show fb_ct (fun r => decide (g 7 r = i + 1)) 0 = 0 from rfl, Nat.add_zero (fb_sm _ i)] at this
          rw [this]
          exact ix
        have no : gRider g τ c i = false → mX12_callsTo_5 τ c sz tr ca lk rt k (i + 1) (nI (fb_sm (fun t => if gRider g τ c t = true then gFrom g (gRider g τ c) t else 0) i)) = some (nI (gInto g (gRider g τ c))) := by
          intro r
          rw [r, if_neg (by decide)] at ix
          exact ix
        by_cases a : nI (g 1 i) = τ
        · rw [if_pos a]
          by_cases b : c = -1
          · rw [if_pos b]
            exact yes (decide_eq_true ⟨p, a, Or.inl b⟩)
          · rw [if_neg b]
            by_cases d : nI (g 2 i) = c
            · rw [if_pos d]
              exact yes (decide_eq_true ⟨p, a, Or.inr d⟩)
            · rw [if_neg d]
              exact no (decide_eq_false (fun q => q.2.2.elim b d))
        · rw [if_neg a]
          exact no (decide_eq_false (fun q => a q.2.1))
      · rw [if_neg (by rw [decide_eq_false p]; decide)]
        rw [show gRider g τ c i = false from decide_eq_false (fun q => p q.1), if_neg (by decide)] at ix
        exact ix
  exact go 40 0 rfl
/-- the class: refs into a group -/
theorem c_into (W : gW g) {csz cag ctr cca cpl clk crt ccs : Nat → Int32} {cfr : Nat → Int64} {cth cmk : Int64} {ctn csp : Int32} (Y : cY g csz cag ctr cca cpl clk crt ccs cfr cth cmk ctn csp) {m : Int64} {p : Nat → Bool} (hm : zh m p) : mX10_refsInto m clk crt cfr = nI (gInto g p) := by
  have N := (gW_N W).2.2
  refine s_refsInto m p hm clk crt cfr (gFrom g p) (fun t ht _ => ?_)
  rw [s_refs t ht m p hm clk crt cfr _ (Y.2.2.2.2.1 t ht)]
  unfold gFrom
  congr 2
  · refine fb_ct_cong (fun r hr => ?_)
    rw [decide_eq_decide, Y.2.2.1.2 r hr]
    exact bno_nI (by have := (N.2 r hr).1; omega) (by omega)
  · refine fb_sm_cong (fun u hu => ?_)
    have e : fb_ct (fun r => decide (clk (4 * u + r) = nI t)) 4 = fb_ct (fun r => decide (g 6 (4 * u + r) = t + 1)) 4 := fb_ct_cong (fun r hr => by
      rw [decide_eq_decide, Y.2.2.1.1 _ (by omega)]
      exact bno_nI (by have := (N.1 (4 * u + r) (by omega)).1; omega) (by omega))
    rw [e]
    cases hp : p u with
    | true => rw [Bool.not_true, Bool.and_false, Bool.and_false]
    | false =>
      rw [Bool.not_false, Bool.and_true, Bool.and_true]
      by_cases l : gLk g u t = true
      · have : gTh g u = true := by
          refine Decidable.byContradiction (fun w => ?_)
          obtain ⟨r, hr, q⟩ := (gLk_iff g u t).mp l
          have z : g 0 u = 0 := by
            have : ¬ 0 < g 0 u := fun x => w (decide_eq_true x)
            omega
          rw [W.2.2.2.2.2.2 u hu z r hr] at q
          omega
        rw [if_pos l, if_pos this]
      · rw [if_neg l]
        split
        · symm
          refine fb_ct_zero.mpr (fun r hr => decide_eq_false (fun q => l ((gLk_iff g u t).mpr ⟨r, hr, q⟩)))
        · rfl
end CAL
