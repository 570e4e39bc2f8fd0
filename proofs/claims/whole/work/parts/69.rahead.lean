abbrev FT : Type := Int32 × Int32 × Int32 × Int32 × Int32 × Bool × (Nat → Int32) × (Nat → Int32) × (Nat → Int32) × (Nat → Int32) × (Nat → Int32) × (Nat → Int32) × (Nat → Int32) × (Nat → Int32) × (Nat → Int32) × (Nat → Int32) × (Nat → Int32) × (Nat → Int64) × (Nat → Int32) × (Nat → Int32) × (Nat → Int32) × (Nat → Int32) × (Nat → Int32)
/-- layers other than v stay -/
def rY (v : Nat) (so sz tr ca pl ag mk lk rt km kr so' sz' tr' ca' pl' ag' mk' lk' rt' km' kr' : Nat → Int32) : Prop := ∀ u g' K', u ≠ v → rS u g' K' so sz tr ca pl ag mk lk rt km kr → rS u g' K' so' sz' tr' ca' pl' ag' mk' lk' rt' km' kr'
def fOk (x : Int32) (so sz tr ca pl ag mk lk rt km kr : Nat → Int32) (r : Option FT) : Prop := ∃ rn fe we co fu so' sz' tr' ca' pl' ag' mk' lk' rt' km' kr' sk ask np im st sT, r = some (x, rn, fe, we, co, fu, so', sz', tr', ca', pl', ag', mk', lk', rt', km', kr', sk, ask, np, im, st, sT) ∧ rY 1 so sz tr ca pl ag mk lk rt km kr so' sz' tr' ca' pl' ag' mk' lk' rt' km' kr'
theorem fOk_tr {x : Int32} {so sz tr ca pl ag mk lk rt km kr so1 sz1 tr1 ca1 pl1 ag1 mk1 lk1 rt1 km1 kr1 : Nat → Int32} {r : Option FT} (h : rY 1 so sz tr ca pl ag mk lk rt km kr so1 sz1 tr1 ca1 pl1 ag1 mk1 lk1 rt1 km1 kr1) (q : fOk x so1 sz1 tr1 ca1 pl1 ag1 mk1 lk1 rt1 km1 kr1 r) : fOk x so sz tr ca pl ag mk lk rt km kr r := by
  obtain ⟨rn, fe, we, co, fu, so', sz', tr', ca', pl', ag', mk', lk', rt', km', kr', sk, ask, np, im, st, sT, e, y⟩ := q
  exact ⟨rn, fe, we, co, fu, so', sz', tr', ca', pl', ag', mk', lk', rt', km', kr', sk, ask, np, im, st, sT, e, fun u g' K' hu hS => y u g' K' hu (h u g' K' hu hS)⟩
theorem xu_q {α β γ : Type} (f : α → β → γ) (a : α) (b : β) : xu f (a, b) = f a b := Eq.trans (xu_r f a b) (Eq.trans (Eq.symm (xu_r f a b)) (xu_r f a b))
theorem ffs_stay {p : Nat → Bool} {n m : Nat} (h : ffs p n ≠ 0) (hm : n ≤ m) : ffs p m = ffs p n := by
  induction m with
  | zero => have : n = 0 := by omega
            rw [this]
  | succ m ih =>
    by_cases e : n = m + 1
    · rw [e]
    · have := ih (by omega)
      rw [ffs, if_neg (fun q => h (by rw [← this]; exact q.1)), this]
theorem r_ahead {g : GH} {so : Nat → Int32} (h3 : so 0 = nI (g 8 0)) (h8 : g 8 0 ≤ 999) {y a : Nat} (hy : y ≤ 100) (ha : a ≤ 1) : mX12_isAhead (nI y) (nI a) 60 true so = decide (a ≤ y ∧ y ≤ gR g) := by
  unfold mX12_isAhead
  rw [if_pos rfl, z_is]
  have z0 : (so (0 : Int32).toNatClampNeg) = nI (g 8 0) := h3
  rw [z0, show (999 : Int32) - nI y = nI (999 - y) from pk_sub (a := 999) (by omega)]
  have l1 : (nI y < nI a) ↔ y < a := nI_ltI (by omega) (by omega)
  have l2 : ((60 : Int32) < nI y) ↔ 60 < y := nI_ltI (a := 60) (by omega) (by omega)
  have l3 : (nI (999 - y) < nI (g 8 0)) ↔ 999 - y < g 8 0 := nI_ltI (by omega) (by omega)
  have hR : gR g = if 999 - g 8 0 < 60 then 999 - g 8 0 else 60 := rfl
  by_cases q : a ≤ y ∧ y ≤ gR g
  · have b : y ≤ 60 ∧ y ≤ 999 - g 8 0 := by
      have := q.2
      rw [hR] at this
      split at this <;> omega
    rw [decide_eq_false (fun w => by have := l1.mp w; omega), decide_eq_false (fun w => by have := l2.mp w; omega), if_pos (show (!false && !false) = true from rfl), if_neg (fun w => by have := l3.mp w; omega), decide_eq_true q]
  · rw [decide_eq_false q]
    by_cases w1 : y < a
    · rw [decide_eq_true (l1.mpr w1)]; rfl
    · rw [decide_eq_false (fun w => w1 (l1.mp w))]
      by_cases w2 : 60 < y
      · rw [decide_eq_true (l2.mpr w2)]; rfl
      · rw [decide_eq_false (fun w => w2 (l2.mp w)), if_pos (show (!false && !false) = true from rfl), if_pos]
        refine l3.mpr ?_
        have : ¬ y ≤ gR g := fun w => q ⟨by omega, w⟩
        rw [hR] at this
        split at this <;> omega
section RA
variable {b : Nat} {g : GH} {sf sb cs cv ut : Nat → Int32} {P : GP}
theorem rS_M {v : Nat} {g : GH} {K : GK} {so sz tr ca pl ag mk lk rt km kr : Nat → Int32} (S : rS v g K so sz tr ca pl ag mk lk rt km kr) : rM v g sz tr ca pl ag mk lk rt (fun _ => 0) (fun _ => 0) := S.1 _ _ (fun _ _ => rfl)
theorem r_falls18 (hb : b < 2) (hF : rF b sf sb cs cv P) (hU : ut b = nI P.2.2) (hU2 : P.2.2 < 1000) (W : gW g) (h8 : g 8 0 ≤ 999) {t : Nat} (ht : t < 40) (K0 : GK) : ∀ k j f (rn fe we co : Int32) (fu : Bool) (so sz tr ca pl ag mk lk rt km kr : Nat → Int32) (sk : Nat → Int64) (ask np im st sT : Nat → Int32) (K : GK), j + k = gR g → k < f → rS 1 (gA P g j) K so sz tr ca pl ag mk lk rt km kr → rS 0 g K0 so sz tr ca pl ag mk lk rt km kr → gFl P g t j = 0 →
    fOk (bnz (gFl P g t (gR g))) so sz tr ca pl ag mk lk rt km kr (mX12_falls_18 (nI t) (nI b) true ut sf sb cs cv f (nI (j + 1)) rn fe we co fu so sz tr ca pl ag mk lk rt km kr sk ask np im st sT) := by
  have hR := gR_le g
  intro k
  induction k with
  | zero =>
    intro j f rn fe we co fu so sz tr ca pl ag mk lk rt km kr sk ask np im st sT K hj hf S S0 h0
    obtain ⟨f, rfl⟩ : ∃ q, f = q + 1 := ⟨f - 1, by omega⟩
    have : j = gR g := by omega
    subst this
    rw [mX12_falls_18, show (1 : Int32) = nI 1 from rfl, r_ahead S0.2.2 h8 (by omega) (Nat.le_refl 1), decide_eq_false (fun q => by omega), if_neg (by decide), h0]
    exact ⟨_, _, _, _, _, _, _, _, _, _, _, _, _, _, _, _, _, _, _, _, _, _, rfl, fun _ _ _ _ h => h⟩
  | succ k ih =>
    intro j f rn fe we co fu so sz tr ca pl ag mk lk rt km kr sk ask np im st sT K hj hf S S0 h0
    obtain ⟨f, rfl⟩ : ∃ q, f = q + 1 := ⟨f - 1, by omega⟩
    obtain ⟨Wj, e8⟩ := gA_W P W j
    obtain ⟨W1, rn', so', sz', tr', ca', pl', ag', mk', lk', km', kr', sk', ask', np', im', st', sT', e, S', e8', Y⟩ := r_tickS (v := 1) (by decide) hb hF hU hU2 Wj S (by rw [e8]; have := hR.2 h8; omega) rn sk ask np im st sT
    rw [mX12_falls_18, show (1 : Int32) = nI 1 from rfl, r_ahead S0.2.2 h8 (by omega) (Nat.le_refl 1), decide_eq_true ⟨by omega, by omega⟩, if_pos rfl, e, obind]
    simp only [xu_r]
    have S' : rS 1 (gA P g (j + 1)) (kAdd K (gA P g j 8 0) (gTick P (gA P g j)).2.1 (gTick P (gA P g j)).2.2.1) so' sz' tr' ca' pl' ag' mk' lk' rt km' kr' := S'
    have W1 : gW (gA P g (j + 1)) := W1
    rw [r_there (by decide) (rS_M S') (gW_N W1) ht, obind]
    have ew : gFl P g t (j + 1) = if gFl P g t j = 0 ∧ (!gTh (gA P g (j + 1)) t) = true then j + 1 else gFl P g t j := rfl
    by_cases q : gTh (gA P g (j + 1)) t = true
    · have q2 : decide (0 < gA P g (j + 1) 0 t) = true := q
      rw [q2, if_pos rfl, show nI (j + 1) + nI 1 = nI (j + 1 + 1) from nI_1 _]
      refine fOk_tr (fun u g' K' hu hS => Y u g' K' hu hS) (ih (j + 1) f _ _ _ _ _ _ _ _ _ _ _ _ _ _ _ _ _ _ _ _ _ _ _ (by omega) (by omega) S' (Y 0 g K0 (by decide) S0) ?_)
      rw [ew, if_neg (fun w => by rw [q] at w; exact absurd w.2 (by decide)), h0]
    · have q2 : decide (0 < gA P g (j + 1) 0 t) = false := Bool.eq_false_iff.mpr q
      rw [q2, if_neg (by decide)]
      have : gFl P g t (j + 1) = j + 1 := by
        rw [ew, if_pos ⟨h0, by rw [Bool.eq_false_iff.mpr q]; rfl⟩]
      have z : gFl P g t (gR g) = j + 1 := by
        rw [← this]
        exact ffs_stay (n := j + 1) (by have : ffs (fun k => !gTh (gA P g k) t) (j + 1) = j + 1 := this
                                        rw [this]; omega) (by omega)
      rw [z, bnz_nI (by omega)]
      exact ⟨_, _, _, _, _, _, _, _, _, _, _, _, _, _, _, _, _, _, _, _, _, _, rfl, Y⟩
theorem r_lt60 (g : GH) : gR g < xfuel := Nat.lt_of_le_of_lt (gR_le g).1 (by decide)
theorem r_falls (hb : b < 2) (hF : rF b sf sb cs cv P) (hU : ut b = nI P.2.2) (hU2 : P.2.2 < 1000) (W : gW g) (h8 : g 8 0 ≤ 999) {t : Nat} (ht : t < 40) (hg : gTh g t = true) {K0 : GK} {so sz tr ca pl ag mk lk rt km kr : Nat → Int32} (S0 : rS 0 g K0 so sz tr ca pl ag mk lk rt km kr) (rn fe we co : Int32) (fu : Bool) (sk : Nat → Int64) (ask np im st sT : Nat → Int32) :
    fOk (bnz (gFl P g t (gR g))) so sz tr ca pl ag mk lk rt km kr (mX12_falls (nI t) (nI b) true rn fe we co fu ut sf sb cs cv so sz tr ca pl ag mk lk rt km kr sk ask np im st sT) := by
  unfold mX12_falls
  have e0 : sz t = nI (g 0 t) := by have := ((rS_M S0).1 t ht).1; rw [Nat.mul_zero, Nat.zero_add] at this; exact this
  have p : 0 < g 0 t := of_decide_eq_true hg
  rw [z_isThing t ht, e0, decide_eq_true ((nIp (by have := (gW_N W).1 t ht; omega)).mpr p), obind, if_pos rfl]
  obtain ⟨so1, sz1, tr1, ca1, pl1, ag1, mk1, lk1, rt1, km1, kr1, e, S1, -, Y⟩ := r_copies (to := 1) (fm := 0) (by decide) (by decide) (by decide) S0
  rw [show (1 : Int32) = nI 1 from rfl, show (0 : Int32) = nI 0 from rfl, e, obind]
  simp only [xu_q]
  have := r_falls18 hb hF hU hU2 W h8 ht K0 (gR g) 0 xfuel rn fe we co fu so1 sz1 tr1 ca1 pl1 ag1 mk1 lk1 rt1 km1 kr1 sk ask np im st sT K0 (Nat.zero_add _) (r_lt60 g) S1 (Y 0 g K0 (by decide) S0) rfl
  rw [Nat.zero_add] at this
  exact fOk_tr Y this
end RA
