abbrev BT : Type := Bool × Int32 × Int32 × Int32 × Int32 × Bool × (Nat → Int32) × (Nat → Int32) × (Nat → Int32) × (Nat → Int32) × (Nat → Int32) × (Nat → Int32) × (Nat → Int32) × (Nat → Int32) × (Nat → Int32) × (Nat → Int32) × (Nat → Int32) × (Nat → Int64) × (Nat → Int32) × (Nat → Int32) × (Nat → Int32) × (Nat → Int32) × (Nat → Int32) × (Nat → Int32)
/-- the table by SIZE z, for steps below n -/
def mbT (P : GP) (g : GH) (t z n : Nat) (mb mb' : Nat → Int32) : Prop := (∀ m, m < n → ∀ k, k < 3 → mb' (63 * z + 3 * m + k) = nI (gQ P g t z m k)) ∧ ∀ j, (j < 63 * z ∨ 63 * z + 63 ≤ j) → mb' j = mb j
def bOk (x : Bool) (Q : (Nat → Int32) → Prop) (so sz tr ca pl ag mk lk rt km kr : Nat → Int32) (r : Option BT) : Prop := ∃ rn fe we co fu so' sz' tr' ca' pl' ag' mk' lk' rt' km' kr' sk ask np im st sT mb, r = some (x, rn, fe, we, co, fu, so', sz', tr', ca', pl', ag', mk', lk', rt', km', kr', sk, ask, np, im, st, sT, mb) ∧ Q mb ∧ rY 1 so sz tr ca pl ag mk lk rt km kr so' sz' tr' ca' pl' ag' mk' lk' rt' km' kr'
theorem bOk_tr {x : Bool} {Q : (Nat → Int32) → Prop} {so sz tr ca pl ag mk lk rt km kr so1 sz1 tr1 ca1 pl1 ag1 mk1 lk1 rt1 km1 kr1 : Nat → Int32} {r : Option BT} (h : rY 1 so sz tr ca pl ag mk lk rt km kr so1 sz1 tr1 ca1 pl1 ag1 mk1 lk1 rt1 km1 kr1) (q : bOk x Q so1 sz1 tr1 ca1 pl1 ag1 mk1 lk1 rt1 km1 kr1 r) : bOk x Q so sz tr ca pl ag mk lk rt km kr r := by
  obtain ⟨rn, fe, we, co, fu, so', sz', tr', ca', pl', ag', mk', lk', rt', km', kr', sk, ask, np, im, st, sT, mb, e, hq, y⟩ := q
  exact ⟨rn, fe, we, co, fu, so', sz', tr', ca', pl', ag', mk', lk', rt', km', kr', sk, ask, np, im, st, sT, mb, e, hq, fun u g' K' hu hS => y u g' K' hu (h u g' K' hu hS)⟩
/-- rows met, as kept -/
def rMet (M : Nat) (R : Nat → Nat) (mm : Int32) (ms mw mn : Nat → Int32) : Prop := mm = nI M ∧ ∀ i, i < M → ms i = nI (R (3 * i)) ∧ mw i = nI (R (3 * i + 1)) ∧ mn i = nI (R (3 * i + 2))
section RCB
variable {b : Nat} {g : GH} {sf sb cs cv ut : Nat → Int32} {P : GP} {M : Nat} {R : Nat → Nat} {mm : Int32} {ms mw mn : Nat → Int32}
theorem r_can87 (hM : gMet M R) (hr : rMet M R mm ms mw mn) {t z n : Nat} (hz : z ≤ 99) (hn : n ≤ 20) (V : Nat → Nat) (hV : ∀ k, k < 3 → V k ≤ 1000) (bk : Int32) (ag ask ca im st km kr lk mk np pl rt sz : Nat → Int32) (sk : Nat → Int64) (sT so tr : Nat → Int32) (rn : Int32) (K21) (mb : Nat → Int32) (hmb : ∀ k, k < 3 → mb (63 * z + 3 * n + k) = nI (V k)) : ∀ k i f x, i + k = M → k < f →
    mX12_canBe_87 (nI z) bk mm ut sf sb cs cv ms mw mn ag ask ca im st km kr lk mk np pl rt sz sk sT so tr rn (nI n) K21 f (nI (x + fb_ct (fun i => decide (R (3 * i) = n) && decide (V (R (3 * i + 1)) = R (3 * i + 2))) i)) (nI i) mb =
      mX12_canBe_87 (nI z) bk mm ut sf sb cs cv ms mw mn ag ask ca im st km kr lk mk np pl rt sz sk sT so tr rn (nI n) K21 1 (nI (x + fb_ct (fun i => decide (R (3 * i) = n) && decide (V (R (3 * i + 1)) = R (3 * i + 2))) M)) (nI M) mb := by
  obtain ⟨hm, hr⟩ := hr
  obtain ⟨hM1, hM2⟩ := hM
  intro k
  induction k with
  | zero =>
    intro i f x hi hf
    obtain ⟨f, rfl⟩ : ∃ q, f = q + 1 := ⟨f - 1, by omega⟩
    have : i = M := by omega
    subst this
    rw [mX12_canBe_87, mX12_canBe_87, hm, if_neg (nI_nlt (Nat.le_refl i) (by omega)), if_neg (nI_nlt (Nat.le_refl i) (by omega))]
  | succ k ih =>
    intro i f x hi hf
    obtain ⟨f, rfl⟩ : ∃ q, f = q + 1 := ⟨f - 1, by omega⟩
    have hiM : i < M := by omega
    obtain ⟨a1, a2, a3⟩ := hM2 i hiM
    obtain ⟨b1, b2, b3⟩ := hr i hiM
    have ix := ih (i + 1) f x (by omega) (by omega)
    rw [fb_ct_succ] at ix
    conv => lhs; rw [mX12_canBe_87]
    rw [hm] at ix ⊢
    have e63 : (63 : Int32) * nI z = nI (63 * z) := by rw [show (63 : Int32) = nI 63 from rfl, pk_mul]
    have e3 : (3 : Int32) * nI n = nI (3 * n) := by rw [show (3 : Int32) = nI 3 from rfl, pk_mul]
    rw [if_pos (nI_lt (show i < M by omega) (by omega)), zb i 16 (by omega) (by decide), if_pos rfl, zc i (by omega), b1, b2, b3, e63, e3, nI_add, nI_add, zb _ 6300 (by omega) (by decide), zc _ (by omega), hmb _ (by omega), nI_1 i]
    have c1 : (nI (R (3 * i)) = nI n) ↔ R (3 * i) = n := nI_eq (by omega) (by omega)
    have hVk := hV (R (3 * i + 1)) (by omega)
    have c2 : (nI (V (R (3 * i + 1))) = nI (R (3 * i + 2))) ↔ V (R (3 * i + 1)) = R (3 * i + 2) := nI_eq (by omega) (by omega)
    by_cases q1 : R (3 * i) = n
    · rw [if_pos (c1.mpr q1), if_pos rfl]
      by_cases q2 : V (R (3 * i + 1)) = R (3 * i + 2)
      · rw [if_pos (c2.mpr q2), nI_1]
        rw [if_pos (show (decide (R (3 * i) = n) && decide (V (R (3 * i + 1)) = R (3 * i + 2))) = true by rw [decide_eq_true q1, decide_eq_true q2]; rfl), ← Nat.add_assoc] at ix
        exact ix
      · rw [if_neg (fun w => q2 (c2.mp w)), Int32.add_zero]
        rw [if_neg (show ¬ (decide (R (3 * i) = n) && decide (V (R (3 * i + 1)) = R (3 * i + 2))) = true by rw [decide_eq_false q2, Bool.and_false]; decide)] at ix
        exact ix
    · rw [if_neg (fun w => q1 (c1.mp w)), Int32.add_zero]
      rw [if_neg (show ¬ (decide (R (3 * i) = n) && decide (V (R (3 * i + 1)) = R (3 * i + 2))) = true by rw [decide_eq_false q1, Bool.false_and]; decide)] at ix
      exact ix
/-- rows with steps below n that fit -/
def gFb' (P : GP) (g : GH) (t : Nat) (R : Nat → Nat) (z n i : Nat) : Bool := decide (R (3 * i) < n) && decide (gQ P g t z (R (3 * i)) (R (3 * i + 1)) = R (3 * i + 2))
theorem gFb'_up (P : GP) (g : GH) (t : Nat) (R : Nat → Nat) (z n M : Nat) : fb_ct (gFb' P g t R z n) M + fb_ct (fun i => decide (R (3 * i) = n) && decide (gQ P g t z n (R (3 * i + 1)) = R (3 * i + 2))) M = fb_ct (gFb' P g t R z (n + 1)) M := by
  rw [← fb_ct_or]
  · refine fb_ct_cong (fun i _ => ?_)
    unfold gFb'
    by_cases e : R (3 * i) = n
    · rw [decide_eq_true e, e, decide_eq_false (show ¬ n < n by omega), decide_eq_true (show n < n + 1 by omega), Bool.false_and, Bool.false_or]
    · rw [decide_eq_false e, Bool.false_and, Bool.or_false]
      congr 1
      rw [decide_eq_decide]
      omega
  · rintro i _ ⟨a, c⟩
    have a := of_decide_eq_true ((Bool.and_eq_true _ _).mp a).1
    have c := of_decide_eq_true ((Bool.and_eq_true _ _).mp c).1
    omega
theorem r_can21 (hb : b < 2) (hF : rF b sf sb cs cv P) (hU : ut b = nI P.2.2) (hU2 : P.2.2 < 1000) (W : gW g) (h8 : g 8 0 ≤ 999) (K0 : GK) (hM : gMet M R) (hr : rMet M R mm ms mw mn) {t z : Nat} (hg : 0 < g 0 t) (hz0 : 0 < z) (hz : z ≤ 99) (mb0 : Nat → Int32) : ∀ k n f (rn fe we co : Int32) (fu : Bool) (so sz tr ca pl ag mk lk rt km kr : Nat → Int32) (sk : Nat → Int64) (ask np im st sT : Nat → Int32) (mb : Nat → Int32) (K : GK), n + k = gR20 g + 1 → k < f → rS 1 (gA P (gZ' g t z) n) K so sz tr ca pl ag mk lk rt km kr → rS 0 g K0 so sz tr ca pl ag mk lk rt km kr → mbT P g t z n mb0 mb →
    bOk (gFits P g t M R z) (mbT P g t z (gR20 g + 1) mb0) so sz tr ca pl ag mk lk rt km kr (mX12_canBe_21 (nI z) (nI b) true mm ut sf sb cs cv ms mw mn f (nI (fb_ct (gFb' P g t R z n) M)) (nI n) rn fe we co fu so sz tr ca pl ag mk lk rt km kr sk ask np im st sT mb) := by
  have hR := gR20_le g
  have Wz := gW_z W hg hz0 hz
  intro k
  induction k with
  | zero =>
    intro n f rn fe we co fu so sz tr ca pl ag mk lk rt km kr sk ask np im st sT mb K hn hf S S0 B
    obtain ⟨f, rfl⟩ : ∃ q, f = q + 1 := ⟨f - 1, by omega⟩
    have : n = gR20 g + 1 := by omega
    subst this
    rw [mX12_canBe_21, show mX12_isAhead (nI (gR20 g + 1)) (0 : Int32) 20 true so = _ from r_ahead20 (a := 0) S0.2.2 h8 (by omega) (by omega), decide_eq_false (fun q => by omega), if_neg (show ¬ false = true by decide), hr.1]
    have ef : fb_ct (gFb' P g t R z (gR20 g + 1)) M = fb_ct (gF1' P g t R z) M := fb_ct_cong (fun i _ => by
      unfold gFb' gF1'
      congr 1
      rw [decide_eq_decide]
      omega)
    have l := fb_ct_le (gF1' P g t R z) M
    have hM1 := hM.1
    have c : (nI (fb_ct (gF1' P g t R z) M) = nI M) ↔ fb_ct (gF1' P g t R z) M = M := nI_eq (by omega) (by omega)
    rw [ef]
    unfold gFits
    by_cases q : fb_ct (gF1' P g t R z) M = M
    · rw [if_pos (c.mpr q), decide_eq_true q]
      exact ⟨_, _, _, _, _, _, _, _, _, _, _, _, _, _, _, _, _, _, _, _, _, _, _, rfl, B, fun _ _ _ _ h => h⟩
    · rw [if_neg (fun w => q (c.mp w)), decide_eq_false q]
      exact ⟨_, _, _, _, _, _, _, _, _, _, _, _, _, _, _, _, _, _, _, _, _, _, _, rfl, B, fun _ _ _ _ h => h⟩
  | succ k ih =>
    intro n f rn fe we co fu so sz tr ca pl ag mk lk rt km kr sk ask np im st sT mb K hn hf S S0 B
    obtain ⟨f, rfl⟩ : ∃ q, f = q + 1 := ⟨f - 1, by omega⟩
    obtain ⟨Wj, e8⟩ := gA_W P Wz n
    have e80 : gZ' g t z 8 0 = g 8 0 := gZ'_o (by decide) 0
    have N := gW_N Wj
    obtain ⟨W1, rn', so', sz', tr', ca', pl', ag', mk', lk', km', kr', sk', ask', np', im', st', sT', e, S', e8', Y⟩ := r_tickS (v := 1) (by decide) hb hF hU hU2 Wj S (by rw [e8, e80]; have := hR.2 h8; omega) rn sk ask np im st sT
    have e : mX12_ticks (1 : Int32) (nI b) rn ut sf sb cs cv so sz tr ca pl ag mk lk rt km kr sk ask np im st sT = _ := e
    have e63 : (63 : Int32) * nI z = nI (63 * z) := by rw [show (63 : Int32) = nI 63 from rfl, pk_mul]
    have e3 : (3 : Int32) * nI n = nI (3 * n) := by rw [show (3 : Int32) = nI 3 from rfl, pk_mul]
    have hn20 : n ≤ 20 := by omega
    rw [mX12_canBe_21, show mX12_isAhead (nI n) (0 : Int32) 20 true so = _ from r_ahead20 (a := 0) S0.2.2 h8 (by omega) (by omega), decide_eq_true ⟨by omega, by omega⟩, if_pos rfl, show mX12_trainsOf (1 : Int32) sz tr = _ from r_trains (v := 1) (by decide) (rS_M S) N, obind, e63, e3, nI_add, zb _ 6300 (by omega) (by decide), if_pos rfl, show mX12_allCars (1 : Int32) sz tr ca = _ from r_allCars (v := 1) (by decide) (rS_M S) N Wj, obind, nI_1, zb _ 6300 (by omega) (by decide), if_pos rfl, show mX12_thingsOf (1 : Int32) sz = _ from r_thingsOf (v := 1) (by decide) (rS_M S) N, obind, show nI (63 * z + 3 * n) + 2 = nI (63 * z + 3 * n + 2) from nI_add _ 2, zb _ 6300 (by omega) (by decide), if_pos rfl, zc _ (by omega), zc _ (by omega), zc _ (by omega)]
    have hmb : ∀ k, k < 3 → (upd (upd (upd mb (63 * z + 3 * n) (nI (gTr (gA P (gZ' g t z) n)))) (63 * z + 3 * n + 1) (nI (gCars (gA P (gZ' g t z) n)))) (63 * z + 3 * n + 2) (nI (gThs (gA P (gZ' g t z) n)))) (63 * z + 3 * n + k) = nI (gQ P g t z n k) := by
      intro k hk
      unfold gQ
      rcases (by omega : k = 0 ∨ k = 1 ∨ k = 2) with rfl | rfl | rfl
      · rw [if_pos rfl, Nat.add_zero (63 * z + 3 * n), pk_un (by omega), pk_un (by omega), pk_us]
      · rw [if_neg (by decide), if_pos rfl, pk_un (by omega), pk_us]
      · rw [if_neg (by decide), if_neg (by decide), pk_us]
    have B' : mbT P g t z (n + 1) mb0 (upd (upd (upd mb (63 * z + 3 * n) (nI (gTr (gA P (gZ' g t z) n)))) (63 * z + 3 * n + 1) (nI (gCars (gA P (gZ' g t z) n)))) (63 * z + 3 * n + 2) (nI (gThs (gA P (gZ' g t z) n)))) := by
      refine ⟨fun m hm k hk => ?_, fun j hj => ?_⟩
      · by_cases w : m = n
        · subst w; exact hmb k hk
        · rw [pk_un (by omega), pk_un (by omega), pk_un (by omega)]
          exact B.1 m (by omega) k hk
      · rw [pk_un (by omega), pk_un (by omega), pk_un (by omega)]
        exact B.2 j hj
    generalize (upd (upd (upd mb (63 * z + 3 * n) (nI (gTr (gA P (gZ' g t z) n)))) (63 * z + 3 * n + 1) (nI (gCars (gA P (gZ' g t z) n)))) (63 * z + 3 * n + 2) (nI (gThs (gA P (gZ' g t z) n)))) = mb2 at hmb B' ⊢
    have q := r_can87 (sf := sf) (sb := sb) (cs := cs) (cv := cv) (ut := ut) (t := t) hM hr hz hn20 (gQ P g t z n) (fun k hk => by have := gQ_40 P W hg hz0 hz n k; omega) (nI b) ag ask ca im st km kr lk mk np pl rt sz sk sT so tr rn (fun zx3_21 zx4_21 zf_ruleNow_21 zf_fell_21 zf_went_21 zf_cost_21 zf_isFutile_21 za_stepOf_21 za_sizeOf_21 za_trainOf_21 za_carOf_21 za_placeOf_21 za_ageOf_21 za_markOf_21 za_linkTo_21 za_rootTo_21 za_keptMany_21 za_keptRow_21 za_stack_21 za_asked_21 za_newPlace_21 za_isMoved_21 za_isStaying_21 za_stayTrain_21 za_manyBy_21 => mX12_canBe_21 (nI z) (nI b) true mm ut sf sb cs cv ms mw mn f zx3_21 zx4_21 zf_ruleNow_21 zf_fell_21 zf_went_21 zf_cost_21 zf_isFutile_21 za_stepOf_21 za_sizeOf_21 za_trainOf_21 za_carOf_21 za_placeOf_21 za_ageOf_21 za_markOf_21 za_linkTo_21 za_rootTo_21 za_keptMany_21 za_keptRow_21 za_stack_21 za_asked_21 za_newPlace_21 za_isMoved_21 za_isStaying_21 za_stayTrain_21 za_manyBy_21) mb2 hmb M 0 xfuel (fb_ct (gFb' P g t R z n) M) (Nat.zero_add _) (Nat.lt_of_le_of_lt hM.1 (by decide))
    rw [show fb_ct (fun i => decide (R (3 * i) = n) && decide (gQ P g t z n (R (3 * i + 1)) = R (3 * i + 2))) 0 = 0 from rfl, Nat.add_zero, show nI 0 = 0 from rfl, gFb'_up] at q
    have hM1 := hM.1
    rw [q, mX12_canBe_87, hr.1, if_neg (nI_nlt (Nat.le_refl M) (by omega)), e, obind]
    simp only [xu_q]
    rw [nI_1]
    have S' : rS 1 (gA P (gZ' g t z) (n + 1)) (kAdd K (gA P (gZ' g t z) n 8 0) (gTick P (gA P (gZ' g t z) n)).2.1 (gTick P (gA P (gZ' g t z) n)).2.2.1) so' sz' tr' ca' pl' ag' mk' lk' rt km' kr' := S'
    have ix := ih (n + 1) f rn' (nI (gTick P (gA P (gZ' g t z) n)).2.1) (nI (gTick P (gA P (gZ' g t z) n)).2.2.1) (nI (gTick P (gA P (gZ' g t z) n)).2.2.2.1) (gTick P (gA P (gZ' g t z) n)).2.2.2.2 so' sz' tr' ca' pl' ag' mk' lk' rt km' kr' sk' ask' np' im' st' sT' mb2 _ (by omega) (by omega) S' (Y 0 g K0 (by decide) S0) B'
    rw [hr.1] at ix
    exact bOk_tr (fun u g' K' hu hS => Y u g' K' hu hS) ix
theorem r_canBe (hb : b < 2) (hF : rF b sf sb cs cv P) (hU : ut b = nI P.2.2) (hU2 : P.2.2 < 1000) (W : gW g) (h8 : g 8 0 ≤ 999) {K0 : GK} (hM : gMet M R) (hr : rMet M R mm ms mw mn) {t z : Nat} (ht : t < 40) (hg : 0 < g 0 t) (hz0 : 0 < z) (hz : z ≤ 99) {so sz tr ca pl ag mk lk rt km kr : Nat → Int32} (S0 : rS 0 g K0 so sz tr ca pl ag mk lk rt km kr) (rn fe we co : Int32) (fu : Bool) (sk : Nat → Int64) (ask np im st sT mb : Nat → Int32) :
    bOk (gFits P g t M R z) (mbT P g t z (gR20 g + 1) mb) so sz tr ca pl ag mk lk rt km kr (mX12_canBe (nI t) (nI z) (nI b) true rn fe we co fu mm ut sf sb cs cv so sz tr ca pl ag mk lk rt km kr sk ask np im st sT ms mw mn mb) := by
  unfold mX12_canBe
  obtain ⟨so1, sz1, tr1, ca1, pl1, ag1, mk1, lk1, rt1, km1, kr1, e3, S1, -, Y⟩ := r_copies (to := 1) (fm := 0) (by decide) (by decide) (by decide) S0
  rw [show mX12_copies (1 : Int32) (0 : Int32) so sz tr ca pl ag mk lk rt km kr = _ from e3, obind]
  simp only [xu_q]
  rw [show (40 : Int32) + nI t = nI (40 + t) from nI_add 40 t, zb _ 880 (by omega) (by decide), if_pos rfl, zc _ (by omega)]
  have Y2 : rY 1 so sz tr ca pl ag mk lk rt km kr so1 (upd sz1 (40 + t) (nI z)) tr1 ca1 pl1 ag1 mk1 lk1 rt1 km1 kr1 := fun u g' K' hu hS => by
    refine rS_fr hu (Y u g' K' hu hS) (fun _ _ => rfl) (fun i hi => pk_un (by omega)) (fun _ _ => rfl) (fun _ _ => rfl) (fun _ _ => rfl) (fun _ _ => rfl) (fun _ _ => rfl) (fun _ _ => rfl) (fun _ _ => rfl) (fun _ _ => rfl) (fun _ _ => rfl)
  have := r_can21 hb hF hU hU2 W h8 K0 hM hr hg hz0 hz mb (gR20 g + 1) 0 xfuel rn fe we co fu so1 (upd sz1 (40 + t) (nI z)) tr1 ca1 pl1 ag1 mk1 lk1 rt1 km1 kr1 sk ask np im st sT mb K0 (Nat.zero_add _) (Nat.lt_of_le_of_lt (Nat.succ_le_succ (gR20_le g).1) (by decide)) (rS_z S1 ht hg hz0) (Y2 0 g K0 (by decide) S0) ⟨fun m hm => absurd hm (Nat.not_lt_zero m), fun _ _ => rfl⟩
  rw [show fb_ct (gFb' P g t R z 0) M = 0 from fb_ct_zero.mpr (fun i _ => by unfold gFb'; rw [decide_eq_false (Nat.not_lt_zero _), Bool.false_and]), show nI 0 = 0 from rfl] at this
  exact bOk_tr Y2 this
end RCB
