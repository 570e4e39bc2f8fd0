def tOk (x : Int32) (so sz tr ca pl ag mk lk rt km kr : Nat → Int32) (r : Option FT3) : Prop := fO3 x so sz tr ca pl ag mk lk rt km kr r
section RTL
variable {b : Nat} {g : GH} {sf sb cs cv ut : Nat → Int32} {P : GP} {M : Nat} {R : Nat → Nat} {mm : Int32} {ms mw mn : Nat → Int32}
theorem r_tells106 {s : Nat × Nat} (hs : s.1 ≤ 1000) {w : Nat} (hw : w ≤ 2) (rn fe we co : Int32) (fu : Bool) (so sz tr ca pl ag mk lk rt km kr : Nat → Int32) (sk : Nat → Int64) (ask np im st sT il mb many : Nat → Int32) :
    mX12_tells_106 (nI w) (te4 s) (te5 s) rn fe we co fu so sz tr ca pl ag mk lk rt km kr sk ask np im st sT il mb many = some (gTv s (nI w), rn, fe, we, co, fu, so, sz, tr, ca, pl, ag, mk, lk, rt, km, kr, sk, ask, np, im, st, sT, il, mb, many) := by
  unfold mX12_tells_106 te4 te5 gTv
  by_cases z : s.1 = 0
  · rw [if_pos z, if_pos rfl, if_pos z]
  · rw [if_neg z, if_neg (nI_m1 (by omega)), if_neg z, if_neg z, show nI (s.1 + 2) / 3 = nI ((s.1 + 2) / 3) from pk_div (d := 3) (by omega) (by decide) (by decide), show nI ((s.1 + 2) / 3) * 3 = nI ((s.1 + 2) / 3 * 3) from pk_mul _ 3, pk_sub (by omega), show s.1 + 2 - (s.1 + 2) / 3 * 3 = (s.1 + 2) % 3 by omega]
    split
    · rfl
    · split <;> rfl
theorem r_tells36 (hb : b < 2) (hU : ut b = nI P.2.2) (hU2 : P.2.2 ≤ 99) (W : gW g) (h8 : g 8 0 ≤ 999) {t : Nat} (hg : 0 < g 0 t) {il mb : Nat → Int32} (L : lT P g t M R (P.2.2 + 1) il mb) {w : Nat} (hw : w ≤ 2) {X : Nat} (hX : X ≤ 99) (rn fe we co : Int32) (fu : Bool) (so sz tr ca pl ag mk lk rt km kr : Nat → Int32) (sk : Nat → Int64) (ask np im st sT : Nat → Int32) (h3 : so 0 = nI (g 8 0)) : ∀ k n f (many : Nat → Int32), n + k = gR20 g + 1 → k < f → 0 < n → (X = 0 → n = 1) →
    ∃ many', mX12_tells_36 (nI w) (nI b) true ut f (nI X) (te4 (gTe P g t M R (3 * (n - 1)))) (te5 (gTe P g t M R (3 * (n - 1)))) (nI n) rn fe we co fu so sz tr ca pl ag mk lk rt km kr sk ask np im st sT il mb many = some (if X = 0 then -1 else gTv (gTe P g t M R (3 * gR20 g)) (nI w), rn, fe, we, co, fu, so, sz, tr, ca, pl, ag, mk, lk, rt, km, kr, sk, ask, np, im, st, sT, il, mb, many') := by
  have hR := gR20_le g
  intro k
  induction k with
  | zero =>
    intro n f many hn hf h0 hX1
    obtain ⟨f, rfl⟩ : ∃ q, f = q + 1 := ⟨f - 1, by omega⟩
    have l := gTe_le P g t M R (3 * (n - 1))
    rw [mX12_tells_36, show mX12_isAhead (nI n) (1 : Int32) 20 true so = _ from r_ahead20 (a := 1) h3 h8 (by omega) (Nat.le_refl 1), decide_eq_false (fun q => by omega), if_neg (show ¬ false = true by decide), r_tells106 (s := gTe P g t M R (3 * (n - 1))) (by omega) hw]
    refine ⟨many, ?_⟩
    by_cases z : X = 0
    · rw [if_pos z]
      have : n = 1 := hX1 z
      subst this
      rfl
    · rw [if_neg z, show 3 * (n - 1) = 3 * gR20 g by omega]
  | succ k ih =>
    intro n f many hn hf h0 hX1
    obtain ⟨f, rfl⟩ : ∃ q, f = q + 1 := ⟨f - 1, by omega⟩
    rw [mX12_tells_36, show mX12_isAhead (nI n) (1 : Int32) 20 true so = _ from r_ahead20 (a := 1) h3 h8 (by omega) (Nat.le_refl 1), decide_eq_true ⟨by omega, by omega⟩, if_pos rfl]
    have c : (0 < nI X) ↔ 0 < X := nIp (by omega)
    by_cases z : X = 0
    · rw [if_neg (fun q => by have := c.mp q; omega), r_tells106 (s := gTe P g t M R (3 * (n - 1))) (by have := gTe_le P g t M R (3 * (n - 1)); omega) hw, if_pos z]
      have : n = 1 := hX1 z
      subst this
      exact ⟨many, rfl⟩
    · rw [if_pos (c.mpr (by omega))]
      obtain ⟨many1, e⟩ := r_tells55 (M := M) (R := R) hb hU hU2 W hg L h0 (show n ≤ gR20 g by omega) ag ask ca im st km kr lk mk np pl rt sz sk sT so tr co fe fu rn we (nI X) (nI n) rfl (fun zx3_36 zx4_36 zx5_36 zx6_36 zf_ruleNow_36 zf_fell_36 zf_went_36 zf_cost_36 zf_isFutile_36 za_stepOf_36 za_sizeOf_36 za_trainOf_36 za_carOf_36 za_placeOf_36 za_ageOf_36 za_markOf_36 za_linkTo_36 za_rootTo_36 za_keptMany_36 za_keptRow_36 za_stack_36 za_asked_36 za_newPlace_36 za_isMoved_36 za_isStaying_36 za_stayTrain_36 za_isLeft_36 za_manyBy_36 za_many_36 => mX12_tells_36 (nI w) (nI b) true ut f zx3_36 zx4_36 zx5_36 zx6_36 zf_ruleNow_36 zf_fell_36 zf_went_36 zf_cost_36 zf_isFutile_36 za_stepOf_36 za_sizeOf_36 za_trainOf_36 za_carOf_36 za_placeOf_36 za_ageOf_36 za_markOf_36 za_linkTo_36 za_rootTo_36 za_keptMany_36 za_keptRow_36 za_stack_36 za_asked_36 za_newPlace_36 za_isMoved_36 za_isStaying_36 za_stayTrain_36 za_isLeft_36 za_manyBy_36 za_many_36) 3 0 many rfl
      rw [Nat.add_zero (3 * (n - 1))] at e
      rw [e, nI_1]
      have ix := ih (n + 1) f many1 (by omega) (by omega) (by omega) (fun q => absurd q z)
      rw [Nat.add_sub_cancel] at ix
      exact ix
theorem r_tells (hb : b < 2) (hF : rF b sf sb cs cv P) (hU : ut b = nI P.2.2) (hU2 : P.2.2 ≤ 99) (W : gW g) (h8 : g 8 0 ≤ 999) {K0 : GK} (hM : gMet M R) (hr : rMet M R mm ms mw mn) {t : Nat} (ht : t < 40) (hg : 0 < g 0 t) {so sz tr ca pl ag mk lk rt km kr : Nat → Int32} (S0 : rS 0 g K0 so sz tr ca pl ag mk lk rt km kr) {w : Nat} (hw : w ≤ 2) (rn fe we co : Int32) (fu : Bool) (sk : Nat → Int64) (ask np im st sT il mb many : Nat → Int32) :
    tOk (if gLeft P g t M R P.2.2 = 0 then -1 else gTv (gTe P g t M R (3 * gR20 g)) (nI w)) so sz tr ca pl ag mk lk rt km kr (mX12_tells (nI t) (nI w) (nI b) true rn fe we co fu mm ut sf sb cs cv so sz tr ca pl ag mk lk rt km kr sk ask np im st sT ms mw mn il mb many) := by
  unfold mX12_tells
  have e0 : sz t = nI (g 0 t) := by have := ((rS_M S0).1 t ht).1; rw [Nat.mul_zero, Nat.zero_add] at this; exact this
  have l1 : ¬ nI w < 0 := nI_nlt (a := w) (b := 0) (by omega) (by omega)
  have l2 : ¬ (2 : Int32) < nI w := nI_nlt (a := 2) (b := w) hw (by decide)
  rw [z_isThing t ht, e0, decide_eq_true ((nIp (by have := (gW_N W).1 t ht; omega)).mpr hg), obind, if_pos rfl, z_is, decide_eq_false l1, decide_eq_false l2, if_pos (show (!false && !false) = true from rfl)]
  obtain ⟨rn1, fe1, we1, co1, fu1, so1, sz1, tr1, ca1, pl1, ag1, mk1, lk1, rt1, km1, kr1, sk1, ask1, np1, im1, st1, sT1, il1, mb1, e, L, Y⟩ := r_leaves hb hF hU hU2 W h8 hM hr ht hg S0 rn fe we co fu sk ask np im st sT il mb
  rw [e, obind]
  simp only [xu_q]
  have lX : gLeft P g t M R P.2.2 ≤ P.2.2 := fb_ct_le _ _
  obtain ⟨many', q⟩ := r_tells36 (M := M) (R := R) hb hU hU2 W h8 hg L hw (X := gLeft P g t M R P.2.2) (by omega) rn1 fe1 we1 co1 fu1 so1 sz1 tr1 ca1 pl1 ag1 mk1 lk1 rt1 km1 kr1 sk1 ask1 np1 im1 st1 sT1 (Y 0 g K0 (by decide) S0).2.2 (gR20 g) 1 xfuel many (Nat.add_comm _ _) (Nat.lt_of_le_of_lt (gR20_le g).1 (by decide)) (by decide) (fun _ => rfl)
  have e1 : te4 (gTe P g t M R (3 * (1 - 1))) = -1 := rfl
  have e2 : te5 (gTe P g t M R (3 * (1 - 1))) = 100000000 := rfl
  rw [e1, e2, show nI 1 = 1 from rfl] at q
  rw [q]
  exact ⟨_, _, _, _, _, _, _, _, _, _, _, _, _, _, _, _, _, _, _, _, _, _, _, _, _, rfl, Y⟩
end RTL
