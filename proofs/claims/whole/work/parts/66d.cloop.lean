def cS2 (X : GM) (mo co sy syT : Int32) (on : Bool) : Prop := mo = nI X.2.2.2.2.1 ∧ co = nI X.2.2.2.2.2 ∧ on = X.2.2.2.1 ∧ (∃ q, sy = nI q ∧ q + fb_ct (gWt X.1) 40 ≤ 40 ∧ (q = 0 ↔ X.2.2.1 = 0)) ∧ (X.2.2.1 ≠ 0 → syT = nI (X.2.2.1 - 1))
theorem cW_lay {h : GH} {T s n t w U : Nat} {f : Nat → Nat} {wa : Nat → Int32} (I : mI h T s) (hW : cW h n f wa) (ht : t < 40) (hw : gWt h t = true) (h0 : w = 0 → gZ0 h) : cW (gLy h t w U) n f wa := by
  have z := (gLy_Z (U := U) I ht hw h0).1
  refine ⟨hW.1, fun i hi => ?_, fun u hu p a b => ?_⟩
  · obtain ⟨x, y, p, q⟩ := hW.2.1 i hi
    refine ⟨x, y, by rw [gLy_o h t w U (by decide)]; exact p, fun a b => ?_⟩
    by_cases e : f i = t
    · rw [e] at a b; exact absurd ⟨a, b⟩ z.2.2
    · rw [gLy_n h t w U e] at a b ⊢; exact q a b
  · by_cases e : u = t
    · subst e; exact absurd ⟨a, b⟩ z.2.2
    · rw [gLy_n h t w U e] at p a b ⊢; exact hW.2.2 u hu p a b
theorem cW_stay {h : GH} {n t w : Nat} {f : Nat → Nat} {wa : Nat → Int32} (hW : cW h n f wa) : cW (gSy h t w) n f wa := by
  have v : ∀ {a : Nat}, (a ≠ 9 ∧ a ≠ 10 ∧ a ≠ 5) → ∀ u, gSy h t w a u = h a u := fun e => gSy_o h t w e
  refine ⟨hW.1, fun i hi => ?_, fun u hu p a b => ?_⟩
  · rw [v (a := 0) (by decide), v (a := 1) (by decide), v (a := 2) (by decide), v (a := 3) (by decide)]; exact hW.2.1 i hi
  · rw [v (by decide)] at p a b
    rw [v (by decide)]; exact hW.2.2 u hu p a b
section CL
variable {n : Nat} {f : Nat → Nat} {sz ag tr ca pl lk rt cs wa code cf cl : Nat → Int32} {fr ab : Nat → Int64} {th mk ro le : Int64} {tn sp un : Int32} {P : GP}
theorem c_m99 (mo le' t r on ab' mk' to co sy syT top tn') (fa sk tr' ca' pl' cs' : Nat → Int32) : mX3_move_99 mo le' t r on ab' mk' to co sy syT top fa sk tn' tr' ca' pl' cs' =
    (mo + 1, co, le' &&& ((mX11_bit t) ^^^ (-1)), sy, syT, on && decide (r = 4), top, fa, sk, mX11_putMask 42 to ((mX11_maskAt 42 to (vp_updL ab' (0 : Int32).toNatClampNeg ((ab' (0 : Int32).toNatClampNeg) &&& ((mX11_bit t) ^^^ (-1))))) ||| (mX11_bit t)) (vp_updL ab' (0 : Int32).toNatClampNeg ((ab' (0 : Int32).toNatClampNeg) &&& ((mX11_bit t) ^^^ (-1)))), mk' &&& ((mX11_bit t) ^^^ (-1)), tn', tr', ca', pl', cs') := by
  unfold mX3_move_99
  rw [xlet_eq]
  cases on with
  | true =>
    rw [if_pos rfl]
    by_cases e : r = 4
    · rw [if_pos e, decide_eq_true e]; rfl
    · rw [if_neg e, decide_eq_false e]; rfl
  | false => rw [if_neg (by decide)]; rfl
theorem c_move (hF : cF code cf cl P) (hU : un = nI P.2.2) (hU2 : P.2.2 < 1000) {X : GM} (I : mI X.1 X.2.1 X.2.2.1) (M : cM X.1 X.2.1 sz ag tr ca pl lk rt cs fr mk tn sp ab ro le) (hW : cW X.1 n f wa) (hs2 : X.1 8 0 ≤ 1000) {r t : Nat} (hp : gPk X.1 = (r, t + 1)) {mo co sy syT : Int32} {on : Bool} (hS : cS2 X mo co sy syT on) (top : Int32) (fa sk : Nat → Int32) :
    ∃ mo' co' le' sy' syT' on' top' fa' sk' ab' mk' tn' tr' ca' pl' cs', mX3_move mo co le (nI t) (nI r) sy syT on top fa sk ab mk tn sp sz ag tr ca pl lk rt cs fr un code cf cl = (mo', co', le', sy', syT', on', top', fa', sk', ab', mk', tn', tr', ca', pl', cs') ∧
      cM (gMv P X r t).1 (gMv P X r t).2.1 sz ag tr' ca' pl' lk rt cs' fr mk' tn' sp ab' ro le' ∧ cW (gMv P X r t).1 n f wa ∧ cS2 (gMv P X r t) mo' co' sy' syT' on' := by
  obtain ⟨ht, hw, hby, hr, I', hc⟩ := mI_mv (P := P) I hp
  have N := mI_N I
  have K := I.2.2.2.2.2.2.2.2
  have hn : 3 ≤ r → ∀ u, u < 40 → gWt X.1 u = true → gRt X.1 u = false ∧ X.1 5 u = 0 := by
    intro h3 u hu p
    obtain ⟨q, a, b, e, c, d⟩ := gPk_cases X.1
    rw [hp] at e
    have eq : r = q := congrArg Prod.fst e
    have x := gFb_no (c 1 (by omega) (by omega)) u hu p
    have y := gFb_no (c 2 (by omega) (by omega)) u hu p
    unfold gBy at x y
    rw [if_pos rfl] at x
    rw [if_neg (by decide), if_pos rfl] at y
    have := of_decide_eq_false y
    have := (I.1 u hu).2.2.1
    exact ⟨x, by omega⟩
  obtain ⟨k1, k2, k3⟩ := gTo_ok I hr ht hw hby hn
  obtain ⟨s1, s2, s3, ⟨q, s4, s5, s6⟩, s7⟩ := hS
  have hT := I.2.1.1
  have hto : gTo X r t < gTT X r ∧ gTT X r ≤ 41 := by omega
  have eTT : gTT X r = if r < 3 ∧ X.2.1 = 1 then 2 else X.2.1 := rfl
  have er4 : decide (nI r = 4) = decide (r = 4) := by
    rw [decide_eq_decide]
    exact nI_eq (b := 4) (by omega) (by decide)
  unfold mX3_move
  rw [c_target I M hr ht hby X ⟨rfl, rfl⟩, xlet_eq, xu_r, xu_r]
  obtain ⟨fa1, ew, f0, f1, f2, f3⟩ := c_weigh2 N K M ht hw fa
  have rf := gRf_le X.1 t
  have nt := N.1 t ht
  obtain ⟨F1, F2⟩ := hF (X.1 8 0) (X.1 0 t) (gRf X.1 t) (X.1 4 t) hs2 (by omega) (by omega) (by omega) fa1 f0 f1 f2 f3
  obtain ⟨x, tp1, sk1, ex, px⟩ := F1 top sk
  rw [ew, xlet_eq, ex, xlet_eq, xu_r, xu_r]
  have B := c_begin (r := r) I M.2.2.2.1 eTT
  by_cases e : P.1 (X.1 8 0) (X.1 0 t) (gRf X.1 t) (X.1 4 t) = true
  · have x0 : ¬ x = 0 := fun z => by rw [px.mp z] at e; exact absurd e (by decide)
    rw [if_neg x0]
    have MS := cM_stay I M (cs1 := if r < 3 ∧ X.2.1 = 1 then upd cs 1 0 else cs) ht hw hto.1 hto.2 B
    rw [gMv_stay e] at hc ⊢
    unfold mX3_stay mX3_stay_12
    rw [show (40 : Nat) = 40 from rfl, s_put 40 t ht (by decide)]
    by_cases z : X.2.2.1 = 0
    · have q0 := s6.mpr z
      rw [if_pos (show sy = 0 by rw [s4, q0]; rfl), xlet_as, xlet_eq, xlet_eq, xu_r, xu_r, c_m99]
      refine ⟨_, _, _, _, _, _, _, _, _, _, _, _, _, _, _, _, rfl, MS, cW_stay hW, ⟨by rw [s1, nI_1], s2, by rw [s3, er4], ⟨q + 1, by rw [s4, nI_1], by omega, ⟨fun y => by omega, fun y => ?_⟩⟩, fun _ => ?_⟩⟩
      · have y : (if X.2.2.1 = 0 then gTo X r t + 1 else X.2.2.1) = 0 := y
        rw [if_pos z] at y; omega
      · show _ = nI ((if X.2.2.1 = 0 then gTo X r t + 1 else X.2.2.1) - 1)
        rw [if_pos z]; rfl
    · have q0 : q ≠ 0 := fun y => z (s6.mp y)
      rw [if_neg (show ¬ sy = 0 by rw [s4]; exact fun y => q0 ((nI0 (by omega)).mp y)), xlet_as, xlet_eq, xlet_eq, xu_r, xu_r, c_m99]
      refine ⟨_, _, _, _, _, _, _, _, _, _, _, _, _, _, _, _, rfl, MS, cW_stay hW, ⟨by rw [s1, nI_1], s2, by rw [s3, er4], ⟨q + 1, by rw [s4, nI_1], by omega, ⟨fun y => by omega, fun y => ?_⟩⟩, fun _ => ?_⟩⟩
      · have y : (if X.2.2.1 = 0 then gTo X r t + 1 else X.2.2.1) = 0 := y
        rw [if_neg z] at y; exact absurd y z
      · show _ = nI ((if X.2.2.1 = 0 then gTo X r t + 1 else X.2.2.1) - 1)
        rw [if_neg z]; exact s7 z
  · have x0 : x = 0 := px.mpr (Bool.eq_false_iff.mpr e)
    rw [if_pos x0]
    obtain ⟨y, tp2, sk2, ey, py⟩ := F2 tp1 sk1
    rw [ey, xlet_eq, xu_r, xu_r]
    rw [gMv_lay e] at hc ⊢
    obtain ⟨tr', ca', pl', cs', eL, ML⟩ := cM_lay (U := P.2.2) I M (cs1 := if r < 3 ∧ X.2.1 = 1 then upd cs 1 0 else cs) ht hw k2 hto.1 hto.2 B hU2
    have m84 : ∀ z : Int32, z = nI (P.2.1 (X.1 8 0) (X.1 0 t) (gRf X.1 t) (X.1 4 t)) → ∃ mo' co' le' sy' syT' on' top' fa' sk' ab' mk' tn' tr' ca' pl' cs', mX3_move_84 mo co le (nI t) (nI r) sy syT on ab mk sz tr ca pl un (nI (gTo X r t)) z tp2 fa1 sk2 (nI (gTT X r)) (if r < 3 ∧ X.2.1 = 1 then upd cs 1 0 else cs) = (mo', co', le', sy', syT', on', top', fa', sk', ab', mk', tn', tr', ca', pl', cs') ∧
        cM (gLy X.1 t (gTo X r t) P.2.2) (gTT X r) sz ag tr' ca' pl' lk rt cs' fr mk' tn' sp ab' ro le' ∧ cW (gLy X.1 t (gTo X r t) P.2.2) n f wa ∧ cS2 (gLy X.1 t (gTo X r t) P.2.2, gTT X r, X.2.2.1, X.2.2.2.1 && decide (r = 4), X.2.2.2.2.1 + 1, X.2.2.2.2.2 + P.2.1 (X.1 8 0) (X.1 0 t) (gRf X.1 t) (X.1 4 t)) mo' co' sy' syT' on' := by
      intro z hz
      unfold mX3_move_84
      rw [hU, eL, xlet_eq, xu_r, xu_r, xu_r, c_m99]
      refine ⟨_, _, _, _, _, _, _, _, _, _, _, _, _, _, _, _, rfl, ML, cW_lay I hW ht hw k2, ⟨by rw [s1, nI_1], by rw [s2, hz, nI_add], by rw [s3, er4], ⟨q, s4, ?_, s6⟩, s7⟩⟩
      have hc : fb_ct (gWt (gLy X.1 t (gTo X r t) P.2.2)) 40 + 1 ≤ fb_ct (gWt X.1) 40 := hc
      show q + fb_ct (gWt (gLy X.1 t (gTo X r t) P.2.2)) 40 ≤ 40
      omega
    by_cases z1 : y < 0
    · rw [if_pos z1] at py
      rw [if_pos z1]; exact m84 0 py
    · rw [if_neg z1] at py
      rw [if_neg z1]
      by_cases z2 : 99 < y
      · rw [if_pos z2] at py
        rw [if_pos z2]; exact m84 99 py
      · rw [if_neg z2] at py
        rw [if_neg z2]; exact m84 y py
theorem c_loop (hF : cF code cf cl P) (hU : un = nI P.2.2) (hU2 : P.2.2 < 1000) : ∀ k i (X : GM) (tr ca pl cs : Nat → Int32) (ab : Nat → Int64) (mk le : Int64) (tn mo co sy syT ch ru top : Int32) (on : Bool) (fa sk : Nat → Int32), fb_ct (gWt X.1) 40 ≤ k → mI X.1 X.2.1 X.2.2.1 → cM X.1 X.2.1 sz ag tr ca pl lk rt cs fr mk tn sp ab ro le → cW X.1 n f wa → X.1 8 0 ≤ 1000 → cS2 X mo co sy syT on →
    ∃ mo' co' le' ch' ru' sy' syT' on' top' fa' sk' ab' mk' tn' tr' ca' pl' cs',
      mX3_step_42 th sp sz ag lk rt fr un code cf cl k i mo co ro le (nI n) ch ru sy syT on top fa sk wa ab mk tn tr ca pl cs = mX3_step_68 th sp sz ag lk fr mo' co' ro le' (nI n) ch' ru' sy' syT' on' top' fa' sk' wa ab' mk' tn' tr' ca' pl' cs' ∧
      (mI (gLp P k X).1 (gLp P k X).2.1 (gLp P k X).2.2.1 ∧ (gPk (gLp P k X).1).2 = 0 ∧ (gLp P k X).1 8 0 = X.1 8 0) ∧ cM (gLp P k X).1 (gLp P k X).2.1 sz ag tr' ca' pl' lk rt cs' fr mk' tn' sp ab' ro le' ∧ cW (gLp P k X).1 n f wa ∧ cS2 (gLp P k X) mo' co' sy' syT' on' := by
  intro k
  induction k with
  | zero =>
    intro i X tr ca pl cs ab mk le tn mo co sy syT ch ru top on fa sk hc I M hW hs2 hS
    have e : (gPk X.1).2 = 0 := by
      by_cases e : (gPk X.1).2 = 0
      · exact e
      · obtain ⟨-, -, -, -, -, q⟩ := mI_mv (P := P) I (r := (gPk X.1).1) (t := (gPk X.1).2 - 1) (Prod.ext rfl (by show (gPk X.1).2 = _; omega))
        omega
    rw [mX3_step_42]
    exact ⟨_, _, _, _, _, _, _, _, _, _, _, _, _, _, _, _, _, _, rfl, ⟨I, e, rfl⟩, M, hW, hS⟩
  | succ k ih =>
    intro i X tr ca pl cs ab mk le tn mo co sy syT ch ru top on fa sk hc I M hW hs2 hS
    rw [mX3_step_42, c_choose I M hW ru, xlet_eq, xu_r, xu_r]
    by_cases e : (gPk X.1).2 = 0
    · rw [if_neg (by rw [decide_eq_true_eq]; exact fun q => q e), gLp_stop P e]
      exact ⟨_, _, _, _, _, _, _, _, _, _, _, _, _, _, _, _, _, _, rfl, ⟨I, e, rfl⟩, M, hW, hS⟩
    · rw [if_pos (decide_eq_true e)]
      obtain ⟨r, t, hrt⟩ : ∃ r t, gPk X.1 = (r, t + 1) := ⟨(gPk X.1).1, (gPk X.1).2 - 1, Prod.ext rfl (by show (gPk X.1).2 = _; omega)⟩
      obtain ⟨ht, hw, hby, hr, I', hc'⟩ := mI_mv (P := P) I hrt
      have eL : gLp P (k + 1) X = gLp P k (gMv P X r t) := by
        rw [gLp, if_neg e, hrt]; rfl
      rw [eL, hrt, bnoS]
      obtain ⟨mo1, co1, le1, sy1, syT1, on1, top1, fa1, sk1, ab1, mk1, tn1, tr1, ca1, pl1, cs1, em, M1, W1, S1⟩ := c_move hF hU hU2 I M hW hs2 hrt hS top fa sk
      rw [em, xlet_eq]
      simp only [xu_r]
      obtain ⟨mo', co', le', ch', ru', sy', syT', on', top', fa', sk', ab', mk', tn', tr', ca', pl', cs', e1, ⟨e2, e3, e4⟩, e5, e6, e7⟩ := ih (i + 1) (gMv P X r t) tr1 ca1 pl1 cs1 ab1 mk1 le1 tn1 mo1 co1 sy1 syT1 (nI t) (nI r) top1 on1 fa1 sk1 (by omega) I' M1 W1 (by rw [gMv_8]; exact hs2) S1
      exact ⟨mo', co', le', ch', ru', sy', syT', on', top', fa', sk', ab', mk', tn', tr', ca', pl', cs', e1, ⟨e2, e3, by rw [e4, gMv_8]⟩, e5, e6, e7⟩
end CL
