abbrev FT3 : Type := Int32 × Int32 × Int32 × Int32 × Int32 × Bool × (Nat → Int32) × (Nat → Int32) × (Nat → Int32) × (Nat → Int32) × (Nat → Int32) × (Nat → Int32) × (Nat → Int32) × (Nat → Int32) × (Nat → Int32) × (Nat → Int32) × (Nat → Int32) × (Nat → Int64) × (Nat → Int32) × (Nat → Int32) × (Nat → Int32) × (Nat → Int32) × (Nat → Int32) × (Nat → Int32) × (Nat → Int32) × (Nat → Int32)
def fO3 (x : Int32) (so sz tr ca pl ag mk lk rt km kr : Nat → Int32) (r : Option FT3) : Prop := ∃ rn fe we co fu so' sz' tr' ca' pl' ag' mk' lk' rt' km' kr' sk ask np im st sT af aq ir, r = some (x, rn, fe, we, co, fu, so', sz', tr', ca', pl', ag', mk', lk', rt', km', kr', sk, ask, np, im, st, sT, af, aq, ir) ∧ rY 1 so sz tr ca pl ag mk lk rt km kr so' sz' tr' ca' pl' ag' mk' lk' rt' km' kr'
theorem fO3_tr {x : Int32} {so sz tr ca pl ag mk lk rt km kr so1 sz1 tr1 ca1 pl1 ag1 mk1 lk1 rt1 km1 kr1 : Nat → Int32} {r : Option FT3} (h : rY 1 so sz tr ca pl ag mk lk rt km kr so1 sz1 tr1 ca1 pl1 ag1 mk1 lk1 rt1 km1 kr1) (q : fO3 x so1 sz1 tr1 ca1 pl1 ag1 mk1 lk1 rt1 km1 kr1 r) : fO3 x so sz tr ca pl ag mk lk rt km kr r := by
  obtain ⟨rn, fe, we, co, fu, so', sz', tr', ca', pl', ag', mk', lk', rt', km', kr', sk, ask, np, im, st, sT, af, aq, ir, e, y⟩ := q
  exact ⟨rn, fe, we, co, fu, so', sz', tr', ca', pl', ag', mk', lk', rt', km', kr', sk, ask, np, im, st, sT, af, aq, ir, e, fun u g' K' hu hS => y u g' K' hu (h u g' K' hu hS)⟩
theorem gCl0_at {P : GP} {g : GH} {n j : Nat} (hj : j ≤ n) (hn60 : n < 1000) (h : gCn P g j = true) (hn : ∀ i, i < j → gCn P g i = false) : gCl0 P g n = nI j := by
  unfold gCl0
  by_cases e : j = 0
  · subst e
    rw [if_pos h]; rfl
  · rw [if_neg (fun q => by rw [hn 0 (by omega)] at q; exact absurd q (by decide)), ffs_some (m := j) (by omega) hj h (fun k _ hk => hn k hk), bnz_nI e]
theorem gCl0_none {P : GP} {g : GH} {n : Nat} (hn : ∀ i, i ≤ n → gCn P g i = false) : gCl0 P g n = -1 := by
  unfold gCl0
  rw [if_neg (fun q => by rw [hn 0 (by omega)] at q; exact absurd q (by decide)), ffs_none (fun k _ hk => hn k hk)]
  rfl
section RC1
variable {b : Nat} {g : GH} {sf sb cs cv ut : Nat → Int32} {P : GP}
theorem r_clean83 (ru : Nat → Bool) (h : GH) (bk : Int32) (ag ask ca af im ir st km kr lk mk np pl aq rt sz : Nat → Int32) (sk : Nat → Int64) (sT so tr : Nat → Int32) (co fe : Int32) (fu : Bool) (rn we x1 : Int32) (K68) (hir : ∀ t, t < 40 → ir t = if ru t = true then 1 else 0) (hth : ∀ t, t < 40 → mX12_isThere (1 : Int32) (nI t) sz = some (gTh h t)) : ∀ k i (q : Bool), i + k = 40 →
    mX12_clean_83 bk ut sf sb cs cv ag ask ca af im ir st km kr lk mk np pl aq rt sz sk sT so tr co fe fu rn we x1 K68 k i (if q = true then 1 else 0) = mX12_clean_83 bk ut sf sb cs cv ag ask ca af im ir st km kr lk mk np pl aq rt sz sk sT so tr co fe fu rn we x1 K68 0 40 (if (q && !bex (fun t => ru t && gTh h t) k i) = true then 1 else 0) := by
  intro k
  induction k with
  | zero =>
    intro i q hi
    have : i = 40 := by omega
    subst this
    rw [show bex (fun t => ru t && gTh h t) 0 40 = false from rfl, Bool.not_false, Bool.and_true]
  | succ k ih =>
    intro i q hi
    have hi40 : i < 40 := by omega
    have a1 : ((if q = true then (1 : Int32) else 0) &&& 1) = if q = true then 1 else 0 := by cases q <;> decide
    have a0 : ((if q = true then (1 : Int32) else 0) &&& 0) = if false = true then 1 else 0 := by cases q <;> decide
    conv => lhs; rw [mX12_clean_83]
    rw [zc i (by omega), hir i hi40, hth i hi40, bex]
    by_cases r : ru i = true
    · rw [if_neg (show ¬ (if ru i = true then (1 : Int32) else 0) = 0 by rw [if_pos r]; decide), obind]
      by_cases t : gTh h i = true
      · rw [if_pos t, a0, ih (i + 1) false (by omega), r, t]
        have e : (false && !bex (fun t => ru t && gTh h t) k (i + 1)) = (q && !(true && true || bex (fun t => ru t && gTh h t) k (i + 1))) := by cases q <;> rfl
        rw [e]
      · rw [if_neg t, a1, ih (i + 1) q (by omega), Bool.eq_false_iff.mpr t, Bool.and_false, Bool.false_or]
    · rw [if_pos (show (if ru i = true then (1 : Int32) else 0) = 0 by rw [if_neg r]), a1, ih (i + 1) q (by omega), Bool.eq_false_iff.mpr r, Bool.false_and, Bool.false_or]
theorem r_clean68 (hb : b < 2) (hF : rF b sf sb cs cv P) (hU : ut b = nI P.2.2) (hU2 : P.2.2 < 1000) (W : gW g) (h8 : g 8 0 ≤ 999) (K0 : GK) (af aq ir : Nat → Int32) (hir : ∀ t, t < 40 → ir t = if gRb g t = true then 1 else 0) : ∀ k j f (rn fe we co : Int32) (fu : Bool) (so sz tr ca pl ag mk lk rt km kr : Nat → Int32) (sk : Nat → Int64) (ask np im st sT : Nat → Int32) (K : GK), j + k = gR g + 1 → k < f → rS 1 (gA P g j) K so sz tr ca pl ag mk lk rt km kr → rS 0 g K0 so sz tr ca pl ag mk lk rt km kr → (∀ i, i < j → gCn P g i = false) →
    fO3 (gCl0 P g (gR g)) so sz tr ca pl ag mk lk rt km kr (mX12_clean_68 (nI b) true ut sf sb cs cv f (nI j) rn fe we co fu so sz tr ca pl ag mk lk rt km kr sk ask np im st sT af aq ir) := by
  have hR := gR_le g
  intro k
  induction k with
  | zero =>
    intro j f rn fe we co fu so sz tr ca pl ag mk lk rt km kr sk ask np im st sT K hj hf S S0 h0
    obtain ⟨f, rfl⟩ : ∃ q, f = q + 1 := ⟨f - 1, by omega⟩
    have : j = gR g + 1 := by omega
    subst this
    rw [mX12_clean_68, show (0 : Int32) = nI 0 from rfl, r_ahead S0.2.2 h8 (by omega) (by omega), decide_eq_false (fun q => by omega), if_neg (by decide), gCl0_none (fun i hi => h0 i (by omega))]
    exact ⟨_, _, _, _, _, _, _, _, _, _, _, _, _, _, _, _, _, _, _, _, _, _, _, _, _, rfl, fun _ _ _ _ h => h⟩
  | succ k ih =>
    intro j f rn fe we co fu so sz tr ca pl ag mk lk rt km kr sk ask np im st sT K hj hf S S0 h0
    obtain ⟨f, rfl⟩ : ∃ q, f = q + 1 := ⟨f - 1, by omega⟩
    obtain ⟨Wj, e8⟩ := gA_W P W j
    obtain ⟨W1, rn', so', sz', tr', ca', pl', ag', mk', lk', km', kr', sk', ask', np', im', st', sT', e, S', e8', Y⟩ := r_tickS (v := 1) (by decide) hb hF hU hU2 Wj S (by rw [e8]; have := hR.2 h8; omega) rn sk ask np im st sT
    have e : mX12_ticks (1 : Int32) (nI b) rn ut sf sb cs cv so sz tr ca pl ag mk lk rt km kr sk ask np im st sT = _ := e
    rw [mX12_clean_68, show (mX12_isAhead (nI j) (0 : Int32) 60 true so) = _ from r_ahead (a := 0) S0.2.2 h8 (by omega) (by omega), decide_eq_true ⟨by omega, by omega⟩, if_pos rfl]
    have q := r_clean83 (sf := sf) (sb := sb) (cs := cs) (cv := cv) (ut := ut) (gRb g) (gA P g j) (nI b) ag ask ca af im ir st km kr lk mk np pl aq rt sz sk sT so tr co fe fu rn we (nI j) (fun zx1_68 zf_ruleNow_68 zf_fell_68 zf_went_68 zf_cost_68 zf_isFutile_68 za_stepOf_68 za_sizeOf_68 za_trainOf_68 za_carOf_68 za_placeOf_68 za_ageOf_68 za_markOf_68 za_linkTo_68 za_rootTo_68 za_keptMany_68 za_keptRow_68 za_stack_68 za_asked_68 za_newPlace_68 za_isMoved_68 za_isStaying_68 za_stayTrain_68 za_farOf_68 za_queue_68 za_isRubbish_68 => mX12_clean_68 (nI b) true ut sf sb cs cv f zx1_68 zf_ruleNow_68 zf_fell_68 zf_went_68 zf_cost_68 zf_isFutile_68 za_stepOf_68 za_sizeOf_68 za_trainOf_68 za_carOf_68 za_placeOf_68 za_ageOf_68 za_markOf_68 za_linkTo_68 za_rootTo_68 za_keptMany_68 za_keptRow_68 za_stack_68 za_asked_68 za_newPlace_68 za_isMoved_68 za_isStaying_68 za_stayTrain_68 za_farOf_68 za_queue_68 za_isRubbish_68) hir (fun t ht => r_there (v := 1) (by decide) (rS_M S) (gW_N Wj) ht) 40 0 true rfl
    rw [show (if true = true then (1 : Int32) else 0) = 1 from rfl] at q
    rw [q, mX12_clean_83, Bool.true_and]
    have ec : gCn P g j = !bex (fun t => gRb g t && gTh (gA P g j) t) 40 0 := rfl
    rw [← ec]
    by_cases z : gCn P g j = true
    · rw [if_neg (show ¬ (if gCn P g j = true then (1 : Int32) else 0) = 0 by rw [if_pos z]; decide), gCl0_at (j := j) (by omega) (by omega) z h0]
      exact ⟨_, _, _, _, _, _, _, _, _, _, _, _, _, _, _, _, _, _, _, _, _, _, _, _, _, rfl, fun _ _ _ _ h => h⟩
    · rw [if_pos (show (if gCn P g j = true then (1 : Int32) else 0) = 0 by rw [if_neg z]), e, obind]
      simp only [xu_q]
      rw [nI_1]
      have S' : rS 1 (gA P g (j + 1)) (kAdd K (gA P g j 8 0) (gTick P (gA P g j)).2.1 (gTick P (gA P g j)).2.2.1) so' sz' tr' ca' pl' ag' mk' lk' rt km' kr' := S'
      refine fO3_tr (fun u g' K' hu hS => Y u g' K' hu hS) (ih (j + 1) f _ _ _ _ _ _ _ _ _ _ _ _ _ _ _ _ _ _ _ _ _ _ _ (by omega) (by omega) S' (Y 0 g K0 (by decide) S0) (fun i hi => ?_))
      by_cases w : i = j
      · rw [w]; exact Bool.eq_false_iff.mpr z
      · exact h0 i (by omega)
theorem r_clean16 (W : gW g) {K0 : GK} {so sz tr ca pl ag mk lk rt km kr : Nat → Int32} (S0 : rS 0 g K0 so sz tr ca pl ag mk lk rt km kr) {af : Nat → Int32} (haf : ∀ t, t < 40 → (af t = 100000000 ↔ gL g t = false)) (bk rn fe we co : Int32) (fu : Bool) (sk : Nat → Int64) (ask np im st sT aq : Nat → Int32) : ∀ k i (ir : Nat → Int32), i + k = 40 → (∀ t, t < i → ir t = if gRb g t = true then 1 else 0) →
    ∃ ir', (∀ t, t < 40 → ir' t = if gRb g t = true then 1 else 0) ∧ mX12_clean_16 bk true rn fe we co fu ut sf sb cs cv so sz tr ca pl ag mk lk rt km kr sk ask np im st sT k i af aq ir = mX12_clean_16 bk true rn fe we co fu ut sf sb cs cv so sz tr ca pl ag mk lk rt km kr sk ask np im st sT 0 40 af aq ir' := by
  intro k
  induction k with
  | zero =>
    intro i ir hi h
    have : i = 40 := by omega
    subst this
    exact ⟨ir, h, rfl⟩
  | succ k ih =>
    intro i ir hi h
    have hi40 : i < 40 := by omega
    have up : ∀ x : Int32, x = (if gRb g i = true then 1 else 0) → ∀ t, t < i + 1 → upd ir i x t = if gRb g t = true then 1 else 0 := by
      intro x hx t ht
      by_cases e : t = i
      · subst e; rw [pk_us]; exact hx
      · rw [pk_un e]; exact h t (by omega)
    rw [mX12_clean_16, show mX12_isThere (0 : Int32) (nI i) sz = _ from r_there (v := 0) (by decide) (rS_M S0) (gW_N W) hi40, obind, zc i (by omega)]
    have eT : decide (0 < g 0 i) = gTh g i := rfl
    rw [eT]
    by_cases t : gTh g i = true
    · rw [if_pos t]
      by_cases l : gL g i = false
      · rw [if_pos ((haf i hi40).mpr l)]
        exact ih (i + 1) _ (by omega) (up 1 (by rw [if_pos]; unfold gRb; rw [t, l]; rfl))
      · rw [if_neg (fun q => l ((haf i hi40).mp q))]
        exact ih (i + 1) _ (by omega) (up 0 (by rw [if_neg]; unfold gRb; rw [t, Bool.not_eq_false _ |>.mp l]; decide))
    · rw [if_neg t]
      exact ih (i + 1) _ (by omega) (up 0 (by rw [if_neg]; unfold gRb; rw [Bool.eq_false_iff.mpr t, Bool.false_and]; decide))
theorem r_cleanT (hb : b < 2) (hF : rF b sf sb cs cv P) (hU : ut b = nI P.2.2) (hU2 : P.2.2 < 1000) (W : gW g) (h8 : g 8 0 ≤ 999) {K0 : GK} {so sz tr ca pl ag mk lk rt km kr : Nat → Int32} (S0 : rS 0 g K0 so sz tr ca pl ag mk lk rt km kr) (rn fe we co : Int32) (fu : Bool) (sk : Nat → Int64) (ask np im st sT af aq ir : Nat → Int32) :
    fO3 (gCl0 P g (gR g)) so sz tr ca pl ag mk lk rt km kr (mX12_clean (nI b) true rn fe we co fu ut sf sb cs cv so sz tr ca pl ag mk lk rt km kr sk ask np im st sT af aq ir) := by
  unfold mX12_clean
  rw [if_pos rfl, livesNow_eq]
  have M := rS_M S0
  obtain ⟨af', aq', d, e, hd⟩ := z_lives (lk := lk) (rt := rt) (gW_N W).2.2 0 (by decide) M.2.2.2.1 M.2.2.2.2 af aq
  rw [show mX12_lives (0 : Int32) (-1) (-1) (-1) lk rt af aq = _ from e, obind]
  simp only [xu_q]
  have haf : ∀ t, t < 40 → (af' t = 100000000 ↔ gL g t = false) := by
    intro t ht
    constructor
    · intro q
      refine Bool.eq_false_iff.mpr (fun w => ?_)
      obtain ⟨a, a2, -⟩ := (hd t ht).1 w
      rw [a] at q
      exact nI_ne_far (by omega) q
    · intro q
      exact (hd t ht).2 (fun w => by have w : gL g t = true := w; rw [q] at w; exact absurd w (by decide))
  obtain ⟨ir', hir, e2⟩ := r_clean16 (sf := sf) (sb := sb) (cs := cs) (cv := cv) (ut := ut) W S0 haf (nI b) rn fe we co fu sk ask np im st sT aq' 40 0 ir rfl (fun t ht => absurd ht (Nat.not_lt_zero t))
  rw [e2, mX12_clean_16]
  obtain ⟨so1, sz1, tr1, ca1, pl1, ag1, mk1, lk1, rt1, km1, kr1, e3, S1, -, Y⟩ := r_copies (to := 1) (fm := 0) (by decide) (by decide) (by decide) S0
  rw [show mX12_copies (1 : Int32) (0 : Int32) so sz tr ca pl ag mk lk rt km kr = _ from e3, obind]
  simp only [xu_q]
  have := r_clean68 hb hF hU hU2 W h8 K0 af' aq' ir' hir (gR g + 1) 0 xfuel rn fe we co fu so1 sz1 tr1 ca1 pl1 ag1 mk1 lk1 rt1 km1 kr1 sk ask np im st sT K0 (Nat.zero_add _) (Nat.lt_of_le_of_lt (Nat.succ_le_succ (gR_le g).1) (by decide)) S1 (Y 0 g K0 (by decide) S0) (fun i hi => absurd hi (Nat.not_lt_zero i))
  rw [show nI 0 = 0 from rfl] at this
  exact fO3_tr Y this
end RC1
