def oX : nCtx → Prop
  | ((p, _, _, s), (m, args, _), (meth, c), (dd, tc, _, A), (cc, nL, own, rt), (_, _)) => p.tables.exec = Jvm.exec ∧ c.code = cc ∧ c.maxLocals = nL ∧ s.vm.findClass own = some m.cls ∧ (∀ w ∈ xtb, w.before args s = true) ∧ meth.sig.returnType = rt ∧ meth.locks = false ∧ xK dd tc A s ∧ (∀ q, s.heap.size ≤ q → A q)
def oY (l : Launch) (cc : ByteArray) (nL : Nat) (own : String) (rt : Option FieldType) (R : Room) (X : nCtx) : Prop := oX X ∧ X.2.2.2.2.1 = (cc, nL, own, rt) ∧ X.2.2.2.2.2.1 = R ∧ X.1.2.1 = l
section ONST
variable {l : Launch} {cc : ByteArray} {nL : Nat} {own : String} {rt : Option FieldType} {R : Room} {X : nCtx} {tb : xTb} {P : xPg} {k z pc : Nat} {L : xLo} {S : List Value} {C : xC}
theorem o_st1 (K : oY l cc nL own rt R X) (hP : xPq own cc tb P) {I : Instr} {v : Value} {st : xSt} {q : Option Prop} (ha : xat P pc = some (I, v)) (h : xst1 I v L S C = some (st, q)) (hq : xconj q True) (kk : nR X k z (pc + xlen I) st.1 st.2.1 st.2.2) : nR X k z pc L S C := by
  obtain ⟨K, hq9, -⟩ := K
  obtain ⟨⟨p, l, e, s⟩, ⟨m, args, below⟩, ⟨meth, c⟩, ⟨dd, tc, ad0, A⟩, ⟨cc, nL, own, rt⟩, R, Q⟩ := X
  cases hq9
  obtain ⟨hx, hb, hml, hown, hts, hr, hlk, hK, hA⟩ := K
  obtain ⟨hT, hPk⟩ := hP
  obtain ⟨hd, hv⟩ := hPk _ (xat_ok ha)
  have hd : decode cc pc = .ok (I, xlen I) := hd
  have hv : xkv tb pc I = some v := hv
  intro ad h0 H locs ls hl hP0 hD hS
  have kk := kk ad h0
  unfold xst1 at h
  split at h
  · rename_i L' S' h1
    cases h
    exact xs_op1 hx hb hown hts hT hv hl h1 hd (fun ls' hl' => kk H locs ls' hl' hP0 hD hS)
  · split at h
    · rename_i S' h1
      cases h
      exact xs_op2 hx hb h1 hd (kk H locs ls hl hP0 hD hS)
    · split at h
      · rename_i S' h1
        cases h
        exact xs_op6 hx hb hown hts hT hv hK.1 hP0 h1 hd (kk H locs ls hl hP0 hD hS)
      · split at h
        · rename_i S' P0 h1
          cases h
          exact xs_op5 hx hb hK.1 hP0 h1 hq.1 hd (kk H locs ls hl hP0 hD hS)
        · split at h
          · rename_i S' C' P0 h1
            cases h
            exact xs_op7 hx hb hown hts hT hv hK.1 hP0 hD hS h1 hq.1 hd (fun H1 locs1 g1 g2 g3 => kk H1 locs1 ls hl g1 g2 g3)
          · split at h
            · rename_i S' h1
              cases h
              exact xs_op3 hx hb h1 hd (kk H locs ls hl hP0 hD hS)
            · split at h
              · rename_i S' h1
                cases h
                exact xs_op4 hx hb h1 hd (kk H locs ls hl hP0 hD hS)
              · cases h
theorem o_goto (K : oY l cc nL own rt R X) (hP : xPq own cc tb P) {t : Nat} {off : Int} (ha : xat P pc = some (.goto off, .retAddr t)) (kk : nR X k z t L S C) : nR X k z pc L S C := by
  obtain ⟨K, hq9, -⟩ := K
  obtain ⟨⟨p, l, e, s⟩, ⟨m, args, below⟩, ⟨meth, c⟩, ⟨dd, tc, ad0, A⟩, ⟨cc, nL, own, rt⟩, R, Q⟩ := X
  cases hq9
  obtain ⟨hx, hb, hml, hown, hts, hr, hlk, hK, hA⟩ := K
  obtain ⟨hT, hPk⟩ := hP
  obtain ⟨hd, hv⟩ := hPk _ (xat_ok ha)
  intro ad h0 H locs ls hl hP0 hD hS
  exact lv_goto hx hb hd (xkv_off hv) (kk ad h0 H locs ls hl hP0 hD hS)
theorem o_go (K : oY l cc nL own rt R X) (hP : xPq own cc tb P) : ∀ (n : Nat) {pc : Nat} {L : xLo} {S : List Value} {C : xC} {pc' : Nat} {L' : xLo} {S' : List Value} {C' : xC} {Q : Prop}, xgo P n pc (L, S, C) = some (pc', (L', S', C'), Q) → Q → nR X k z pc' L' S' C' → nR X k z pc L S C
  | 0, pc, L, S, C, pc', L', S', C', Q, h, hq, kk => by
    cases h
    exact kk
  | n + 1, pc, L, S, C, pc', L', S', C', Q, h, hq, kk => by
    unfold xgo at h
    split at h
    · cases h
    · rename_i I v ha
      split at h
      · exact o_goto K hP ha (o_go K hP n h hq kk)
      · split at h
        · cases h
        · rename_i st' q hst
          split at h
          · cases h
          · rename_i pc2 st2 Q2 hgo
            cases h
            have hq1 : xconj q True ∧ Q2 := by
              cases q with
              | none => exact ⟨trivial, hq⟩
              | some p0 => exact ⟨⟨hq.1, trivial⟩, hq.2⟩
            exact o_st1 K hP ha hst hq1.1 (o_go K hP n (L := st'.1) (S := st'.2.1) (C := st'.2.2) hgo hq1.2 kk)
/-- a class to make things of -/
theorem o_new (K : oY l cc nL own rt R X) (hP : xPq own cc tb P) {idx ci N : Nat} (ha : xat P pc = some (.new idx, .null)) (hw : xNw own idx ci N) (n : Nat) (hn : n ≠ 0) {fs : List Value} (hfs : ∀ j, j < N → defaultValue (xty ci j) = vp_V fs j) (hf0 : fs.all (nVb 0) = true) (hst : nSt n C) (hL : nLb n L = true) (hSb : S.all (nVb n) = true) (hc : k + 1 ≤ R.cells) (hz : z + N ≤ R.slots) (kk : nR X (k + 1) (z + N) (pc + 3) L (.ref n :: S) (C ++ [(n, .inr (ci, fs))])) : nR X k z pc L S C := by
  obtain ⟨K, hq9, hR, -⟩ := K
  obtain ⟨⟨p, l, e, s⟩, ⟨m, args, below⟩, ⟨meth, c⟩, ⟨dd, tc, ad0, A⟩, ⟨cc, nL, own, rt⟩, R, Q⟩ := X
  cases hq9
  cases hR
  obtain ⟨hx, hb, hml, hown, hts, hr, hlk, hK, hA⟩ := K
  obtain ⟨hT, hPk⟩ := hP
  obtain ⟨hd, hv⟩ := hPk _ (xat_ok ha)
  obtain ⟨⟨C0, T, N0⟩, h1, h2, h3, h4, h5⟩ := hw
  have h2 : N0 = N := h2
  subst h2
  have hcls := xcls h1
  intro ad h0 H locs ls hl hP0 hD hS
  refine va_new hx hb hts hcls.1 (xty ci) hcls.2.1 hown (hts _ h3) (hts _ h4) (hts _ h5) hK.1 hP0 hD hS hA h1 hfs hc hz hd (fun q H1 g1 g2 g3 => ?_)
  have e1 : xws tc (nad ad n q) (C ++ [(n, .inr (ci, fs))]) = xws tc ad C ++ [(q, .inr (ci, fs))] := by
    rw [xws_app, hst tc ad (nad ad n q) nad_lt]
    congr 1
    show [(nad ad n q n, (Sum.inr (ci, fs.map (xcv (nad ad n q))) : va_E))] = _
    rw [nad_at, nVs_ok (n := 0) (ad := id) hf0 (fun k hk => absurd hk (by omega))]
    have e2 : fs.map (xcv id) = fs := by
      conv => rhs; rw [← List.map_id fs]
      refine List.map_congr_left (fun v _ => ?_)
      cases v <;> rfl
    rw [e2]
  rw [← e1] at g1 g2
  have key := kk (nad ad n q) ((nad_lt 0 (by omega)).trans h0) H1 locs ls (nLo hL nad_lt hl) g1 g2 g3
  have e3 : (Value.ref n :: S).map (xcv (nad ad n q)) = .ref q :: S.map (xcv ad) := by
    show Value.ref (nad ad n q n) :: S.map (xcv (nad ad n q)) = _
    rw [nad_at, nVs_ok hSb nad_lt]
  rw [e3] at key
  exact key
/-- rows of numbers -/
theorem o_newa (K : oY l cc nL own rt R X) (hP : xPq own cc tb P) {at9 : ArrayType} (ha : xat P pc = some (.newarray at9, .null)) (kd : Nat) {ty : FieldType} (hty : newarray.typeOf at9 = ty) (hk : (kd = 0 ∧ ty = .int) ∨ (kd = 1 ∧ ty = .long) ∨ (kd = 2 ∧ ty = .boolean)) (hw : Cond.arrayClass ty ∈ xtb) (n : Nat) (hn0 : n ≠ 0) {i : Int32} {N : Nat} (a0 : vp_A) (ha0 : ∀ cA : ClassId, vp_cell cA a0 = arrV cA N (fun _ => defaultValue ty)) (ha1 : ∀ ad : Nat → Nat, xca ad a0 = a0) (hn : ¬ i < 0) (hN : i.toNatClampNeg = N) (hbytes : N * componentBytes ty ≤ 536870912) (hst : nSt n C) (hL : nLb n L = true) (hSb : S.all (nVb n) = true) (hc : k + 1 ≤ R.cells) (hz : z + N ≤ R.slots) (kk : nR X (k + 1) (z + N) (pc + 2) L (.ref n :: S) (C ++ [(n, .inl (kd, a0))])) : nR X k z pc L (.int i :: S) C := by
  obtain ⟨K, hq9, hR, -⟩ := K
  obtain ⟨⟨p, l, e, s⟩, ⟨m, args, below⟩, ⟨meth, c⟩, ⟨dd, tc, ad0, A⟩, ⟨cc, nL, own, rt⟩, R, Q⟩ := X
  cases hq9
  cases hR
  obtain ⟨hx, hb, hml, hown, hts, hr, hlk, hK, hA⟩ := K
  obtain ⟨hT, hPk⟩ := hP
  obtain ⟨hd, hv⟩ := hPk _ (xat_ok ha)
  have hd : decode cc pc = .ok (.newarray at9, 2) := hd
  intro ad h0 H locs ls hl hP0 hD hS
  refine va_newa hx hb (by rw [hty]; exact hts _ hw) hty hK.1 hP0 hD hS hA ha0 hn hN hbytes hc hz hd (fun q cA H1 gK g1 g2 g3 => ?_)
  have hcA : cA = tc kd := by
    have r1 := (gK.2 5 (cA, ty) rfl).2
    rcases hk with ⟨rfl, rfl⟩ | ⟨rfl, rfl⟩ | ⟨rfl, rfl⟩
    · exact Option.some.inj (r1.symm.trans (hK.1.2 0 _ rfl).2)
    · exact Option.some.inj (r1.symm.trans (hK.1.2 1 _ rfl).2)
    · exact Option.some.inj (r1.symm.trans (hK.1.2 2 _ rfl).2)
  subst hcA
  have e1 : xws tc (nad ad n q) (C ++ [(n, .inl (kd, a0))]) = xws tc ad C ++ [(q, .inl (tc kd, a0))] := by
    rw [xws_app, hst tc ad (nad ad n q) nad_lt]
    congr 1
    show [(nad ad n q n, (Sum.inl (tc kd, xca (nad ad n q) a0) : va_E))] = _
    rw [nad_at, ha1]
  rw [← e1] at g1 g2
  have key := kk (nad ad n q) ((nad_lt 0 (by omega)).trans h0) H1 locs ls (nLo hL nad_lt hl) g1 g2 g3
  have e3 : (Value.ref n :: S).map (xcv (nad ad n q)) = .ref q :: S.map (xcv ad) := by
    show Value.ref (nad ad n q n) :: S.map (xcv (nad ad n q)) = _
    rw [nad_at, nVs_ok hSb nad_lt]
  rw [e3] at key
  exact key
theorem o_newi (K : oY l cc nL own rt R X) (hP : xPq own cc tb P) (ha : xat P pc = some (.newarray .int, .null)) (n : Nat) (hn0 : n ≠ 0) {i : Int32} (N : Nat) (hn : ¬ i < 0) (hN : i.toNatClampNeg = N) (hbytes : N * 4 ≤ 536870912) (hst : nSt n C) (hL : nLb n L = true) (hSb : S.all (nVb n) = true) (hc : k + 1 ≤ R.cells) (hz : z + N ≤ R.slots) (kk : nR X (k + 1) (z + N) (pc + 2) L (.ref n :: S) (C ++ [(n, .inl (0, N, .inl (fun _ => 0)))])) : nR X k z pc L (.int i :: S) C := o_newa K hP ha 0 rfl (Or.inl ⟨rfl, rfl⟩) xw_ai n hn0 (N, .inl (fun _ => 0)) (fun _ => rfl) (fun _ => rfl) hn hN hbytes hst hL hSb hc hz kk
theorem o_newl (K : oY l cc nL own rt R X) (hP : xPq own cc tb P) (ha : xat P pc = some (.newarray .long, .null)) (n : Nat) (hn0 : n ≠ 0) {i : Int32} (N : Nat) (hn : ¬ i < 0) (hN : i.toNatClampNeg = N) (hbytes : N * 8 ≤ 536870912) (hst : nSt n C) (hL : nLb n L = true) (hSb : S.all (nVb n) = true) (hc : k + 1 ≤ R.cells) (hz : z + N ≤ R.slots) (kk : nR X (k + 1) (z + N) (pc + 2) L (.ref n :: S) (C ++ [(n, .inl (1, N, .inr (.inl (fun _ => 0))))])) : nR X k z pc L (.int i :: S) C := o_newa K hP ha 1 rfl (Or.inr (Or.inl ⟨rfl, rfl⟩)) xw_al n hn0 (N, .inr (.inl (fun _ => 0))) (fun _ => rfl) (fun _ => rfl) hn hN hbytes hst hL hSb hc hz kk
theorem o_newz (K : oY l cc nL own rt R X) (hP : xPq own cc tb P) (ha : xat P pc = some (.newarray .boolean, .null)) (n : Nat) (hn0 : n ≠ 0) {i : Int32} (N : Nat) (hn : ¬ i < 0) (hN : i.toNatClampNeg = N) (hbytes : N * 1 ≤ 536870912) (hst : nSt n C) (hL : nLb n L = true) (hSb : S.all (nVb n) = true) (hc : k + 1 ≤ R.cells) (hz : z + N ≤ R.slots) (kk : nR X (k + 1) (z + N) (pc + 2) L (.ref n :: S) (C ++ [(n, .inl (2, N, .inl (fun _ => 0)))])) : nR X k z pc L (.int i :: S) C := o_newa K hP ha 2 rfl (Or.inr (Or.inr ⟨rfl, rfl⟩)) xw_az n hn0 (N, .inl (fun _ => 0)) (fun _ => rfl) (fun _ => rfl) hn hN hbytes hst hL hSb hc hz kk
/-- Object's own constructor -/
theorem o_obj (K : oY l cc nL own rt R X) (hP : xPq own cc tb P) {idx : Nat} (ha : xat P pc = some (.invokespecial idx, .null)) (hw : xOb own idx) {a : Nat} (hf : 1 ≤ R.frames) (hlo : 20 ≤ R.locals) (hS8 : (S.map fun v => v.category).sum ≤ 8) (kk : nR X k z (pc + 3) L S C) : nR X k z pc L (.ref a :: S) C := by
  obtain ⟨K, hq9, hR, -⟩ := K
  obtain ⟨⟨p, l, e, s⟩, ⟨m, args, below⟩, ⟨meth, c⟩, ⟨dd, tc, ad0, A⟩, ⟨cc, nL, own, rt⟩, R, Q⟩ := X
  cases hq9
  cases hR
  obtain ⟨hx, hb, hml, hown, hts, hr, hlk, hK, hA⟩ := K
  obtain ⟨hT, hPk⟩ := hP
  obtain ⟨hd, hv⟩ := hPk _ (xat_ok ha)
  intro ad h0 H locs ls hl hP0 hD hS
  have hlo : 20 ≤ R.locals := hlo
  have hw2 : 2 * (F0 m pc ls ((Value.ref a :: S).map (xcv ad))).monitorRoom + ((S.map (xcv ad)).map fun v => v.category).sum ≤ 8 := lv_room (by rw [xcat_map]; exact hS8)
  exact W.objInit hx hb hown (hts _ hw.1) (hts _ hw.2.1) (hts _ hw.2.2) (g := F0 m pc ls ((Value.ref a :: S).map (xcv ad))) rfl (hl.1.trans hml.symm) rfl hd hf (by omega) (kk ad h0 H locs ls hl hP0 hD hS)
/-- a final field -/
theorem o_putF (K : oY l cc nL own rt R X) (hnm : X.2.2.1.1.name = "<init>") (hP : xPq own cc tb P) {idx t : Nat} (ha : xat P pc = some (.putfield idx, .retAddr t)) {a : Nat} {w : Value} (q0 ci : Nat) {fs : List Value} {C2 : xC} (he : C[q0]? = some (a, .inr (ci, fs))) (hci : Nat.beq ci (t / 100) = true) (hlt : Nat.blt (t % 100) fs.length = true) (hfin : (match xcl[t / 100]? with
    | some r => (r.2.1 (t % 100)).2.2.2 && (r.2.1 (t % 100)).1 == own
    | none => false) = true) (hfit : ∃ Q, xfit (xty ci (t % 100)) w = some Q ∧ Q) (e2 : C.set q0 (a, .inr (ci, fs.set (t % 100) w)) = C2) (kk : nR X k z (pc + 3) L S C2) : nR X k z pc L (w :: .ref a :: S) C := by
  subst e2
  obtain ⟨K, hq9, hR, -⟩ := K
  obtain ⟨⟨p, l, e, s⟩, ⟨m, args, below⟩, ⟨meth, c⟩, ⟨dd, tc, ad0, A⟩, ⟨cc, nL, own, rt⟩, R, Q⟩ := X
  cases hq9
  cases hR
  obtain ⟨hx, hb, hml, hown, hts, hr, hlk, hK, hA⟩ := K
  obtain ⟨hT, hPk⟩ := hP
  obtain ⟨hd, hv⟩ := hPk _ (xat_ok ha)
  have hv : (xfl tb.1 idx).map Value.retAddr = some (.retAddr t) := hv
  obtain ⟨z', hz, hz2⟩ := Option.map_eq_some_iff.mp hv
  cases hz2
  obtain ⟨nn, hn⟩ := xfl_ok hz
  obtain ⟨⟨C0, T, N⟩, h1, h2, h3, h4⟩ := hT.1 _ hn
  have hcls := xcls h1
  have hci := Nat.eq_of_beq_eq_true hci
  subst hci
  have hlt : t % 100 < fs.length := by simpa using hlt
  rw [h1] at hfin
  have hfin : (T (t % 100)).2.2.2 = true ∧ ((T (t % 100)).1 == own) = true := by simpa using hfin
  obtain ⟨P0, hf1, hf2⟩ := hfit
  intro ad h0 H locs ls hl hP0 hD hS
  obtain ⟨hn1, hn2⟩ := xfit_ok hf1 hf2 ad
  refine va_putF hx hb hts hcls.1 (xty (t / 100)) hcls.2.1 hcls.2.2 hown hK.1 hP0 hD hS q0 (xws_get he) h1 (t % 100) h2 (hts _ h4) (fun x hx9 => ?_) hfin.1 hnm (eq_of_beq hfin.2) (v := xcv ad w) (hcls.2.1 _ h2) hn1 hn2 (by simpa using hlt) hd (fun H1 locs1 g1 g2 g3 => ?_)
  · rw [show (T (t % 100)).1 = C0 from h3] at hx9
    exact hx9
  · have e1 : (ad a, xce tc ad (.inr (t / 100, fs.set (t % 100) w))) = (ad a, (.inr (t / 100, (fs.map (xcv ad)).set (t % 100) (xcv ad w)) : va_E)) := by
      show (ad a, (Sum.inr (t / 100, (fs.set (t % 100) w).map (xcv ad)) : va_E)) = _
      rw [List.map_set]
    rw [← e1, xws_set] at g1 g2
    exact kk ad h0 H1 locs1 ls hl g1 g2 g3
theorem o_ret (K : oY l cc nL own none R X) (hP : xPq own cc tb P) (ha : xat P pc = some (.return_, .null)) (hk : k = R.cells) (hz : z = R.slots) (hq : nQ C X) : nR X k z pc L [] C := by
  obtain ⟨K, hq9, hR, -⟩ := K
  obtain ⟨⟨p, l, e, s⟩, ⟨m, args, below⟩, ⟨meth, c⟩, ⟨dd, tc, ad0, A⟩, ⟨cc, nL, own, rt⟩, R, Q⟩ := X
  cases hq9
  cases hR
  cases hq
  obtain ⟨hx, hb, hml, hown, hts, hr, hlk, hK, hA⟩ := K
  obtain ⟨hT, hPk⟩ := hP
  obtain ⟨hd, hv⟩ := hPk _ (xat_ok ha)
  intro ad h0 H locs ls hl hP0 hD hS
  subst hk
  subst hz
  exact W.vret hx hb hr (fun t ht hW => ⟨rfl, ad, h0, by rw [ht]; exact hP0, hD, hS.F ht⟩) hS.2.2 hd hlk
end ONST
theorem oCon_of {l : Launch} {d ce sl : Nat} {y : MethodName} {c : ByteArray} {nL ci : Nat} {fs0 : List Value} {C' : xC} (cy : xCy y c nL none) (hi : y.name = "<init>") (hn : 1 ≤ nL) (body : ∀ X : nCtx, oY l c nL y.cls none (nrm d ce sl) X → va_AO RX10 X.1.2.2.2 → va_AO RX1 X.1.2.2.2 → X.2.2.1.1.name = "<init>" → nQ C' X → nR X 0 0 0 (some (.ref 0) :: List.replicate (nL - 1) none) [] [(0, .inr (ci, fs0))]) : xCon l d ce sl y c nL ci fs0 C' := by
  intro dd tc ad h0
  refine xMet_ofW (cc := c) (maxL := nL) (ret := none) cy.2.2.2 rfl ?_
  intro p e s m args below meth c0 s₁ B hml hv
  obtain ⟨rfl, hz, hP, hK, ha1, ha2⟩ := hv
  have hx := B.exec
  have hb := B.bytes
  have hret := B.returns
  have hts := atoms_spec (ws := xW y c nL none) B.pre
  have hown : s.vm.findClass y.cls = some m.cls := findClass_of_methodNamed B.named
  have hlocks := B.notSynchronized
  have hnm : meth.name = "<init>" := (name_of_methodNamed B.named B.method).1.trans hi
  subst hz
  have hD : va_D (fun q => q = ad 0 ∨ s.heap.size ≤ q) (xws tc ad [(0, .inr (ci, fs0))]) := by
    refine ⟨fun i j x y hi hj _ => ?_, fun k q hk => ?_⟩
    · have h1 : i < 1 := (List.getElem?_eq_some_iff.mp hi).1
      have h2 : j < 1 := (List.getElem?_eq_some_iff.mp hj).1
      omega
    · have h1 : k < 1 := (List.getElem?_eq_some_iff.mp hk).1
      rw [show k = 0 by omega] at hk
      cases hk
      exact Or.inl rfl
  have hS : va_S (fun q => q = ad 0 ∨ s.heap.size ≤ q) s.heap s.heap [] := va_S.rf
  have key := body ((p, l, e, s), (m, ([.ref (ad 0)] : List Value).toArray, below), (meth, c0), (dd, tc, ad, fun q => q = ad 0 ∨ s.heap.size ≤ q), (c, nL, y.cls, none), (nrm d ce sl, _)) ⟨⟨hx, hb, hml, hown, fun w hw => hts w (List.mem_cons_of_mem _ hw), hret, hlocks, hK, fun q hq => Or.inr hq⟩, rfl, rfl, rfl⟩ ha1 ha2 hnm rfl
  rw [lg_entry_eq]
  refine key ad rfl s.heap [] _ ?_ hP hD hS
  refine xlo.entry [.ref 0] hn (by simp; omega) (fun j w hw => ?_)
  cases j with
  | zero =>
    simp at hw
    subst hw
    exact List.mem_cons_self
  | succ j =>
    simp [List.getElem?_replicate] at hw
section ONCON
variable {l : Launch} {cc : ByteArray} {nL : Nat} {own : String} {rt : Option FieldType} {R : Room} {X : nCtx} {tb : xTb} {P : xPg} {k z pc : Nat} {L : xLo} {S : List Value} {C C2 : xC}
theorem o_con (K : oY l cc nL own rt R X) (ha1 : va_AO RX10 X.1.2.2.2) (ha2 : va_AO RX1 X.1.2.2.2) (hP : xPq own cc tb P) {idx : Nat} (ha : xat P pc = some (.invokespecial idx, .null)) {y : MethodName} (lk : xLk own idx y) {c' : ByteArray} {nL' : Nat} (cy : xCy y c' nL' none) (hi : y.name = "<init>" ∧ Cond.instanceMethod y ∈ xtb) (hn : xar y 0) {d' ce' sl' ci : Nat} {fs0 : List Value} {e1 : xE} {Cr : xC} (hM : xCon l d' ce' sl' y c' nL' ci fs0 ((0, e1) :: Cr)) (hfr : d' + 1 ≤ R.frames) (hlo : 8 + (nL' + 11) + 64 * d' ≤ R.locals) (hc : k + ce' ≤ R.cells) (hz : z + sl' ≤ R.slots) (n i0 b : Nat) (h0n : 0 < n) (hbn : b < n) (h0 : C[i0]? = some (b, .inr (ci, fs0))) (hf0 : fs0.all (nVb 0) = true) (hst : nSt n C) (hL : nLb n L = true) (hSb : S.all (nVb n) = true) (hw : (S.map fun v => v.category).sum ≤ 8) (hr : Cr.all (fun q => Nat.ble 1 q.1) = true) (e2 : C.set i0 (b, xre (nph n b) e1) ++ Cr.map (xrn (nph n b)) = C2) (kk : nR X (k + ce') (z + sl') (pc + 3) L S C2) : nR X k z pc L (.ref b :: S) C := by
  subst e2
  obtain ⟨K, hq9, hR, hl9⟩ := K
  obtain ⟨⟨p, l, e, s⟩, ⟨m, args, below⟩, ⟨meth, c⟩, ⟨dd, tc, ad0, A⟩, ⟨cc, nL, own, rt⟩, R, Q⟩ := X
  cases hq9
  cases hR
  have hl9 : l = _ := hl9
  subst hl9
  obtain ⟨hx, hb, hml, hown, hts, hrt, hlk, hK, hA⟩ := K
  obtain ⟨hT, hPk⟩ := hP
  obtain ⟨hdg, hv⟩ := hPk _ (xat_ok ha)
  have hdg : decode cc pc = .ok (.invokespecial idx, 3) := hdg
  intro ad h00 H locs ls hl hP0 hD hS0
  have hb0 : (xws tc ad C)[i0]? = some (ad b, xce tc ad (.inr (ci, fs0))) := xws_get h0
  have hblt : ad b < H.size := (hP0 i0 _ hb0).lt
  have hM1 := hM dd tc (fun j => ad (nph n b j)) H.size
  have e0 : fs0.map (xcv (fun j => ad (nph n b j))) = fs0.map (xcv ad) := nVs_ok (n := 0) hf0 (fun k hk => absurd hk (by omega))
  have hPr : PreS s H (va_Pc [.ref (ad b)] (nPre dd tc (fun j => ad (nph n b j)) H.size [(0, .inr (ci, fs0))])) [.ref (ad b)] := by
    refine ⟨nPre_blind, fun U hU hW => ⟨rfl, by rw [hU], ?_, ?_, va_AO.moved hW.alike ha1, va_AO.moved hW.alike ha2⟩⟩
    · rw [hU]
      intro j q hj
      have hj1 : j < 1 := (List.getElem?_eq_some_iff.mp hj).1
      rw [show j = 0 by omega] at hj
      cases hj
      have h9 := hP0 i0 _ hb0
      show va_at dd xcl (ad b, .inr (ci, fs0.map (xcv (fun j => ad (nph n b j))))) H
      rw [e0]
      exact h9
    · refine hK.to hU hW hS0.2.1 (fun q hq => ?_)
      rcases hq with rfl | hq
      · exact hD.2 i0 _ hb0
      · exact hA q (Nat.le_trans hS0.1 hq)
  have hws := xpayW cy hts
  have hsig : ∀ sig, parseMethodDescriptor y.desc = some sig → 0 = sig.parameters.length := fun sig h => by
    have h2 := hn
    unfold xar at h2
    rw [h] at h2
    exact (Option.some.inj h2).symm
  have hstk : (F0 m pc ls ((Value.ref b :: S).map (xcv ad))).stack = ([] : List Value).reverse ++ .ref (ad b) :: S.map (xcv ad) := rfl
  have hw2 : 2 * (F0 m pc ls ((Value.ref b :: S).map (xcv ad))).monitorRoom + ((S.map (xcv ad)).map fun v => v.category).sum ≤ 8 := lv_room (by rw [xcat_map]; exact hw)
  have run : va_Run p l e R s m args below meth c H locs k z ce' sl' (F0 m pc ls ((Value.ref b :: S).map (xcv ad))) (S.map (xcv ad)) (fun st o t => nPost dd tc (fun j => ad (nph n b j)) H.size ((0, e1) :: Cr) st o t) (fun q => q = ad b ∨ H.size ≤ q) := by
    rcases lk with lk | ⟨host, lk⟩
    · exact va_runI (Ts := xtb) ⟨hx, hb, hml, hown, hts⟩ hM1 ⟨⟨rfl, rfl, hfr, hlo, hws, List.mem_cons_self, hts _ cy.1, hts _ cy.2.1, cy.2.2.1, hsig, hts _ lk⟩, hi.1, hts _ hi.2⟩ hPr rfl rfl hl.1 hstk hw2 hdg ⟨hc, hz⟩
    · exact va_runIN (host := host) (Ts := xtb) ⟨hx, hb, hml, hown, hts⟩ hM1 ⟨⟨⟨rfl, rfl, hfr, hlo, hws, List.mem_cons_self⟩, hts _ cy.1, hts _ cy.2.1, cy.2.2.1, hsig, va_Nw.use rfl (hK.2.1 _ lk rfl)⟩, hi.1, hts _ hi.2⟩ hPr rfl rfl hl.1 hstk hw2 hdg ⟨hc, hz⟩
  intro T hTh Xs
  obtain ⟨w, st₀, t, T', L2, g0, X', hL2, e3, e4, ⟨hv9, ad', f0, fP, fD, fF⟩, st⟩ := run T hTh Xs
  cases hv9
  obtain ⟨adN, hadN⟩ : ∃ adN : Nat → Nat, adN = fun j => cond (Nat.ble n j) (ad' (j - n + 1)) (ad j) := ⟨_, rfl⟩
  have hlt : ∀ j, j < n → adN j = ad j := fun j hj => by
    rw [hadN]
    show cond (Nat.ble n j) _ _ = _
    rw [show Nat.ble n j = false from by cases hb9 : Nat.ble n j with
      | false => rfl
      | true => exact absurd (Nat.le_of_ble_eq_true hb9) (by omega)]
    rfl
  have hcomp : (fun j => adN (nph n b j)) = ad' := by
    funext j
    cases j with
    | zero =>
      show adN b = ad' 0
      rw [hlt b hbn]
      exact f0.symm
    | succ j =>
      show adN (j + 1 - 1 + n) = ad' (j + 1)
      rw [hadN]
      show cond (Nat.ble n (j + 1 - 1 + n)) (ad' (j + 1 - 1 + n - n + 1)) _ = _
      rw [show Nat.ble n (j + 1 - 1 + n) = true from Nat.ble_eq_true_of_le (by omega)]
      show ad' (j + 1 - 1 + n - n + 1) = _
      congr 1
      omega
  have hsize : t.heap.size ≥ H.size := by have := fF.1; rw [g0] at this; exact this
  have hkeep : ∀ q : Nat, q < H.size → q ≠ ad b → t.heap[q]? = H[q]? := fun q h1 h2 => by
    have := fF.2 q (by rw [g0]; exact h1) (fun h => h.elim h2 (fun h => absurd h1 (by omega)))
    rw [this, g0]
  -- the world
  have w1 : xws tc adN C = xws tc ad C := hst tc ad adN hlt
  have w2 : xws tc adN (C.set i0 (b, xre (nph n b) e1) ++ Cr.map (xrn (nph n b))) = (xws tc ad C).set i0 (ad b, xce tc ad' e1) ++ xws tc ad' Cr := by
    rw [xws_app, xws_comp, hcomp, ← xws_set, w1, hlt b hbn, xce_comp, hcomp]
  have c0 : (xws tc ad' ((0, e1) :: Cr))[0]? = some (ad b, xce tc ad' e1) := by
    show some (ad' 0, xce tc ad' e1) = _
    rw [f0]
    rfl
  have cS : ∀ (j : Nat) (q : Nat × va_E), (xws tc ad' Cr)[j]? = some q → (xws tc ad' ((0, e1) :: Cr))[j + 1]? = some q := fun j q h => h
  have hi0 : i0 < (xws tc ad C).length := (List.getElem?_eq_some_iff.mp hb0).1
  have hnew : ∀ (j : Nat) (q : Nat × va_E), (xws tc ad' Cr)[j]? = some q → H.size ≤ q.1 := fun j q h => by
    rcases fD.2 (j + 1) q (cS j q h) with h1 | h1
    · have := fD.1 (j + 1) 0 q _ (cS j q h) c0 h1
      omega
    · exact h1
  have hold : ∀ (j : Nat) (q : Nat × va_E), ((xws tc ad C).set i0 (ad b, xce tc ad' e1))[j]? = some q → (j = i0 ∧ q = (ad b, xce tc ad' e1)) ∨ (j ≠ i0 ∧ (xws tc ad C)[j]? = some q) := fun j q h => by
    by_cases hj : i0 = j
    · subst hj
      rw [List.getElem?_set_self hi0] at h
      cases h
      exact Or.inl ⟨rfl, rfl⟩
    · rw [List.getElem?_set_ne hj] at h
      exact Or.inr ⟨fun q => hj q.symm, h⟩
  have holdlt : ∀ (j : Nat) (q : Nat × va_E), ((xws tc ad C).set i0 (ad b, xce tc ad' e1))[j]? = some q → q.1 < H.size ∧ A q.1 ∧ ∃ q0, (xws tc ad C)[j]? = some q0 ∧ q0.1 = q.1 := fun j q h => by
    rcases hold j q h with ⟨rfl, rfl⟩ | ⟨hj, hq⟩
    · exact ⟨hblt, (show A (ad b) from hD.2 _ _ hb0), _, hb0, rfl⟩
    · exact ⟨(hP0 j q hq).lt, hD.2 j q hq, q, hq, rfl⟩
  have hP2 : va_P dd xcl (xws tc adN (C.set i0 (b, xre (nph n b) e1) ++ Cr.map (xrn (nph n b)))) t.heap := by
    rw [w2]
    refine va_P.app (fun j q hq => ?_) (fun j q hq => fP (j + 1) q (cS j q hq))
    rcases hold j q hq with ⟨rfl, rfl⟩ | ⟨hj, hq⟩
    · exact fP 0 _ c0
    · have hat := hP0 j q hq
      exact hat.kept (hkeep q.1 hat.lt (fun h => hj (hD.1 j i0 q _ hq hb0 h)))
  have hD2 : va_D A (xws tc adN (C.set i0 (b, xre (nph n b) e1) ++ Cr.map (xrn (nph n b)))) := by
    rw [w2]
    generalize hU : (xws tc ad C).set i0 (ad b, xce tc ad' e1) = U at hold holdlt
    have split : ∀ (j : Nat) (q : Nat × va_E), (U ++ xws tc ad' Cr)[j]? = some q → (j < U.length ∧ U[j]? = some q) ∨ (U.length ≤ j ∧ (xws tc ad' Cr)[j - U.length]? = some q) := fun j q h => by
      by_cases hj : j < U.length
      · rw [List.getElem?_append_left hj] at h
        exact Or.inl ⟨hj, h⟩
      · rw [List.getElem?_append_right (by omega)] at h
        exact Or.inr ⟨by omega, h⟩
    refine ⟨fun i j x y hi hj hxy => ?_, fun j q hq => ?_⟩
    · rcases split i x hi with ⟨a1, a2⟩ | ⟨a1, a2⟩ <;> rcases split j y hj with ⟨b1, b2⟩ | ⟨b1, b2⟩
      · obtain ⟨-, -, x0, x1, x2⟩ := holdlt i x a2
        obtain ⟨-, -, y0, y1, y2⟩ := holdlt j y b2
        exact hD.1 i j x0 y0 x1 y1 (x2.trans (hxy.trans y2.symm))
      · have := (holdlt i x a2).1
        have := hnew _ y b2
        omega
      · have := (holdlt j y b2).1
        have := hnew _ x a2
        omega
      · have := fD.1 (i - U.length + 1) (j - U.length + 1) x y (cS _ x a2) (cS _ y b2) hxy
        omega
    · rcases split j q hq with ⟨a1, a2⟩ | ⟨a1, a2⟩
      · exact (holdlt j q a2).2.1
      · exact hA q.1 (Nat.le_trans hS0.1 (hnew _ q a2))
  have hAb : A (ad b) := hD.2 i0 _ hb0
  have hS2 : va_S A s.heap t.heap (locs ++ L2) := by
    refine ⟨Nat.le_trans hS0.1 hsize, fun q h1 h2 => ?_, fun q hq => ?_⟩
    · rw [hkeep q (Nat.lt_of_lt_of_le h1 hS0.1) (fun h => h2 (by rw [h]; exact hAb))]
      exact hS0.2.1 q h1 h2
    · rcases List.mem_append.mp hq with h | h
      · exact hS0.2.2 q h
      · rcases hL2 q h with h1 | h1
        · rw [h1]; exact hAb
        · exact hA _ (Nat.le_trans hS0.1 h1)
  have key := kk adN ((hlt 0 h0n).trans h00) t.heap (locs ++ L2) ls (nLo hL hlt hl) hP2 hD2 hS2 T' e3 X'
  obtain ⟨t2, a1, b1⟩ := key
  refine ⟨t2, st t2 ?_, b1⟩
  rw [nVs_ok hSb hlt] at a1
  exact a1
end ONCON
/-! constructors: calls, loops, rows of references -/
section ONCA
variable {l : Launch} {cc : ByteArray} {nL : Nat} {own : String} {rt : Option FieldType} {R : Room} {X : nCtx} {tb : xTb} {P : xPg} {k z pc : Nat} {L : xLo} {S S2 : List Value} {C C2 : xC}
theorem o_callS (K : oY l cc nL own rt R X) (hP : xPq own cc tb P) {idx : Nat} (ha : xat P pc = some (.invokestatic idx, .null)) {y : MethodName} (lk : xLk own idx y) {c' : ByteArray} {nL' : Nat} {rt' : Option FieldType} (cy : xCy y c' nL' rt') (hst : Cond.static y ∈ xtb) {n : Nat} (hn : xar y n) {rest as : List Value} {d' : Nat} {Cc Cc' : xC} {v : Option Value} (hM : xMet l d' y c' nL' rt' as Cc (some (v, Cc'))) (hfr : d' + 1 ≤ R.frames) (hlo : 8 + (nL' + 11) + 64 * d' ≤ R.locals) (hck : k ≤ R.cells) (hzs : z ≤ R.slots) (φ : Nat → Nat) (is : List Nat) (hS : S = (as.map (xcv φ)).reverse ++ rest) (hlen : as.length = n) (hw : (rest.map fun v => v.category).sum ≤ 8) (hsel : is.map (fun i => C[i]?) = Cc.map (fun q => some (xrn φ q))) (hnd : va_nd is = true) (hkeys : Cc'.map (·.1) = Cc.map (·.1)) (e1 : (v.map (xcv φ)).toList ++ rest = S2) (e2 : xsetL C is (Cc'.map (xrn φ)) = C2) (kk : nR X k z (pc + 3) L S2 C2) : nR X k z pc L S C := by
  subst e1
  subst e2
  subst hS
  obtain ⟨K, hq9, hR, hl9⟩ := K
  obtain ⟨⟨p, l, e, s⟩, ⟨m, args, below⟩, ⟨meth, c⟩, ⟨dd, tc, ad0, A⟩, ⟨cc, nL, own, rt⟩, R, Q⟩ := X
  cases hq9
  cases hR
  have hl9 : l = _ := hl9
  subst hl9
  obtain ⟨hx, hb, hml, hown, hts, hrt, hlk, hK, hA⟩ := K
  obtain ⟨hT, hPk⟩ := hP
  obtain ⟨hdg, hv⟩ := hPk _ (xat_ok ha)
  have hdg : decode cc pc = .ok (.invokestatic idx, 3) := hdg
  intro ad h00 H locs ls hl hP0 hD hS0
  have hM1 := hM v Cc' rfl dd tc (fun k => ad (φ k))
  have hPr : PreS s H (va_Pc (as.map (xcv fun k => ad (φ k))) (xPre dd tc (fun k => ad (φ k)) Cc)) (as.map (xcv fun k => ad (φ k))) := ⟨xPre_blind, fun U hU hW => ⟨rfl, xPre_at hP0 hD hS0 hK hsel hnd hU hW⟩⟩
  have hws := xpayW cy hts
  have hlen2 : (as.map (xcv fun k => ad (φ k))).length = n := by rw [List.length_map]; exact hlen
  have hsig : ∀ sig, parseMethodDescriptor y.desc = some sig → n = sig.parameters.length := fun sig h => by
    have h2 := hn
    unfold xar at h2
    rw [h] at h2
    exact (Option.some.inj h2).symm
  have hw2 : 2 * (F0 m pc ls (((as.map (xcv φ)).reverse ++ rest).map (xcv ad))).monitorRoom + ((rest.map (xcv ad)).map fun v => v.category).sum ≤ 8 := lv_room (by rw [xcat_map]; exact hw)
  have run : va_Run p l e R s m args below meth c H locs k z 0 0 (F0 m pc ls (((as.map (xcv φ)).reverse ++ rest).map (xcv ad))) (rest.map (xcv ad)) (fun st o t => xPost dd tc (fun k => ad (φ k)) (xA (xws tc (fun k => ad (φ k)) Cc)) v Cc' st o t) (xA (xws tc (fun k => ad (φ k)) Cc)) := by
    rcases lk with lk | ⟨host, lk⟩
    · exact va_runS (Ts := xtb) ⟨hx, hb, hml, hown, hts⟩ hM1 ⟨⟨rfl, rfl, hfr, hlo, hws, List.mem_cons_self, hts _ cy.1, hts _ cy.2.1, cy.2.2.1, hsig, hts _ lk⟩, hts _ hst⟩ hPr rfl hlen2 hl.1 xS_map hw2 hdg ⟨hck, hzs⟩
    · exact va_runSN (host := host) (Ts := xtb) ⟨hx, hb, hml, hown, hts⟩ hM1 ⟨⟨⟨rfl, rfl, hfr, hlo, hws, List.mem_cons_self⟩, hts _ cy.1, hts _ cy.2.1, cy.2.2.1, hsig, va_Nw.use rfl (hK.2.1 _ lk rfl)⟩, hts _ hst, trivial⟩ hPr rfl hlen2 hl.1 xS_map hw2 hdg ⟨hck, hzs⟩
  intro T hTh Xs
  obtain ⟨w, st₀, t, T', L2, g0, X', hL, e3, e4, ⟨hv9, hp1, hz, hk⟩, st⟩ := run T hTh Xs
  cases hv9
  rw [g0] at hz hk
  have hAc : ∀ q, xA (xws tc (fun k => ad (φ k)) Cc) q → A q := by
    intro q hq
    obtain ⟨z, hz1, hz2⟩ := hq
    obtain ⟨k, hk1⟩ := List.getElem?_of_mem hz1
    obtain ⟨i, hi1, hi2⟩ := xsel_at (ad := ad) hsel hk1
    rw [← hz2]
    exact hD.2 i z hi2
  obtain ⟨j1, j2⟩ := xjoin hP0 hD hsel hkeys hp1 hk
  have key := kk ad h00 T'.heap (locs ++ L2) ls hl (by rw [e3]; exact j1) j2 ⟨Nat.le_trans hS0.1 (by rw [e3]; exact hz), fun q h1 h2 => by rw [e3, hk q (Nat.lt_of_lt_of_le h1 hS0.1) (fun z => h2 (hAc q z))]; exact hS0.2.1 q h1 h2, fun q hq => by
      rcases List.mem_append.mp hq with h | h
      · exact hS0.2.2 q h
      · exact hAc _ (hL q h)⟩
  obtain ⟨t2, a1, b1⟩ := key T' rfl X'
  refine ⟨t2, st t2 ?_, b1⟩
  have e5 : ((v.map (xcv fun k => ad (φ k))).toList ++ rest.map (xcv ad)) = ((v.map (xcv φ)).toList ++ rest).map (xcv ad) := by
    cases v with
    | none => simp
    | some w => simp [xcv_comp]
  rw [← e5] at a1
  exact a1
theorem o_ge (K : oY l cc nL own rt R X) (hP : xPq own cc tb P) {off : Int} {t : Nat} (ha : xat P pc = some (.if_icmp .ge off, .retAddr t)) {x y : Int32} (kt : ¬ x < y → nR X k z t L S C) (kf : x < y → nR X k z (pc + 3) L S C) : nR X k z pc L (.int y :: .int x :: S) C := by
  obtain ⟨K, hq9, hR, -⟩ := K
  obtain ⟨⟨p, l, e, s⟩, ⟨m, args, below⟩, ⟨meth, c⟩, ⟨dd, tc, ad0, A⟩, ⟨cc, nL, own, rt⟩, R, Q⟩ := X
  cases hq9
  cases hR
  obtain ⟨hx, hb, hml, hown, hts, hr, hlk, hK, hA⟩ := K
  obtain ⟨hT, hPk⟩ := hP
  obtain ⟨hd, hv⟩ := hPk _ (xat_ok ha)
  have ho := xkv_off hv
  intro ad h0 H locs ls hl hP0 hD hS
  have kt := fun h => kt h ad h0 H locs ls hl hP0 hD hS
  have kf := fun h => kf h ad h0 H locs ls hl hP0 hD hS
  exact lv_icmp_ge hx hb hd ho (fun h => kt (Int32.not_lt.mpr h)) (fun h => kf (Int32.not_le.mp h))
theorem o_anew (K : oY l cc nL own rt R X) (hP : xPq own cc tb P) {idx : Nat} (ha : xat P pc = some (.anewarray idx, .null)) (kd : Nat) {Cn : String} (hk : (kd = 3 ∧ Cn = RX10) ∨ (kd = 4 ∧ Cn = RX1)) (hw : Cond.classLink own idx Cn ∈ xtb) (hao : va_AO Cn X.1.2.2.2) (n : Nat) (hn0 : n ≠ 0) {i : Int32} (N : Nat) (hn : ¬ i < 0) (hN : i.toNatClampNeg = N) (hbytes : N * 4 ≤ 536870912) (hst : nSt n C) (hL : nLb n L = true) (hSb : S.all (nVb n) = true) (hc : k + 1 ≤ R.cells) (hz : z + N ≤ R.slots) (kk : nR X (k + 1) (z + N) (pc + 3) L (.ref n :: S) (C ++ [(n, .inl (kd, N, .inr (.inr (.inr (.inr (fun _ => none))))))])) : nR X k z pc L (.int i :: S) C := by
  obtain ⟨K, hq9, hR, -⟩ := K
  obtain ⟨⟨p, l, e, s⟩, ⟨m, args, below⟩, ⟨meth, c⟩, ⟨dd, tc, ad0, A⟩, ⟨cc, nL, own, rt⟩, R, Q⟩ := X
  cases hq9
  cases hR
  obtain ⟨hx, hb, hml, hown, hts, hr, hlk, hK, hA⟩ := K
  obtain ⟨hT, hPk⟩ := hP
  obtain ⟨hd, hv⟩ := hPk _ (xat_ok ha)
  have hd : decode cc pc = .ok (.anewarray idx, 3) := hd
  intro ad h0 H locs ls hl hP0 hD hS
  refine va_newq hx hb hown (hts _ hw) hao hK.1 hP0 hD hS hA hn hN hbytes hc hz hd (fun q cA H1 gK g1 g2 g3 => ?_)
  have hcA : cA = tc kd := by
    obtain ⟨-, -, -, -, -, r1⟩ := (gK.2 5 (cA, .object Cn) rfl).2
    rcases hk with ⟨rfl, rfl⟩ | ⟨rfl, rfl⟩
    · obtain ⟨-, -, -, -, -, r2⟩ := (hK.1.2 3 _ rfl).2
      exact Option.some.inj (r1.symm.trans r2)
    · obtain ⟨-, -, -, -, -, r2⟩ := (hK.1.2 4 _ rfl).2
      exact Option.some.inj (r1.symm.trans r2)
  subst hcA
  have e1 : xws tc (nad ad n q) (C ++ [(n, .inl (kd, N, .inr (.inr (.inr (.inr (fun _ => none))))))]) = xws tc ad C ++ [(q, .inl (tc kd, N, .inr (.inr (.inr (.inr (fun _ => none))))))] := by
    rw [xws_app, hst tc ad (nad ad n q) nad_lt]
    congr 1
    show [(nad ad n q n, _)] = _
    rw [nad_at]
    rfl
  rw [← e1] at g1 g2
  have key := kk (nad ad n q) ((nad_lt 0 (by omega)).trans h0) H1 locs ls (nLo hL nad_lt hl) g1 g2 g3
  have e3 : (Value.ref n :: S).map (xcv (nad ad n q)) = .ref q :: S.map (xcv ad) := by
    show Value.ref (nad ad n q n) :: S.map (xcv (nad ad n q)) = _
    rw [nad_at, nVs_ok hSb nad_lt]
  rw [e3] at key
  exact key
theorem o_aast (K : oY l cc nL own rt R X) (hP : xPq own cc tb P) (ha : xat P pc = some (.aastore, .null)) (q0 qk : Nat) {kd ci a v n : Nat} (hk : (kd = 3 ∧ ci = 10) ∨ (kd = 4 ∧ ci = 1)) {f : Nat → Option Nat} {vs : List Value} {i : Int32} (h0 : C[q0]? = some (a, .inl (kd, n, .inr (.inr (.inr (.inr f)))))) (h1 : C[qk]? = some (v, .inr (ci, vs))) (hin : vp_in i n) (e2 : C.set q0 (a, .inl (kd, n, .inr (.inr (.inr (.inr (va_up f i.toNatClampNeg (some v))))))) = C2) (kk : nR X k z (pc + 1) L S C2) : nR X k z pc L (.ref v :: .int i :: .ref a :: S) C := by
  subst e2
  obtain ⟨K, hq9, hR, -⟩ := K
  obtain ⟨⟨p, l, e, s⟩, ⟨m, args, below⟩, ⟨meth, c⟩, ⟨dd, tc, ad0, A⟩, ⟨cc, nL, own, rt⟩, R, Q⟩ := X
  cases hq9
  cases hR
  obtain ⟨hx, hb, hml, hown, hts, hr, hlk, hK, hA⟩ := K
  obtain ⟨hT, hPk⟩ := hP
  obtain ⟨hd, hv⟩ := hPk _ (xat_ok ha)
  have hd : decode cc pc = .ok (.aastore, 1) := hd
  intro ad h00 H locs ls hl hP0 hD hS
  have key : ∃ (t0 : Nat) (r : vw_C), (xtys tc)[t0]? = some (tc kd, .object r.1) ∧ xcl[ci]? = some r := by
    rcases hk with ⟨rfl, rfl⟩ | ⟨rfl, rfl⟩
    · exact ⟨3, _, rfl, rfl⟩
    · exact ⟨4, _, rfl, rfl⟩
  obtain ⟨t0, r, ht, hc⟩ := key
  refine va_astq hx hb hK.1 hP0 hD hS q0 t0 qk ci (xws_get h0) ht (xws_get h1) hc hin hd (fun H1 locs1 g1 g2 g3 => ?_)
  have e3 : va_up (fun j => (f j).map ad) i.toNatClampNeg (some (ad v)) = fun j => (va_up f i.toNatClampNeg (some v) j).map ad := by
    funext j
    by_cases hj : j = i.toNatClampNeg <;> simp [va_up, hj]
  rw [e3] at g1 g2
  have e1 : (ad a, (.inl (tc kd, n, .inr (.inr (.inr (.inr fun j => (va_up f i.toNatClampNeg (some v) j).map ad)))) : va_E)) = (ad a, xce tc ad (.inl (kd, n, .inr (.inr (.inr (.inr (va_up f i.toNatClampNeg (some v)))))))) := rfl
  rw [e1, xws_set] at g1 g2
  exact kk ad h00 H1 locs1 ls hl g1 g2 g3
end ONCA
/-! renaming, instance calls, branches, the script -/
section OEX
variable {l : Launch} {cc : ByteArray} {nL : Nat} {own : String} {rt : Option FieldType} {R : Room} {X : nCtx} {tb : xTb} {P : xPg} {k z pc : Nat} {L L2 : xLo} {S S2 : List Value} {C C2 : xC}
theorem xrn_mk (φ : Nat → Nat) (k : Nat) (e : xE) : xrn φ (k, e) = (φ k, xre φ e) := rfl
/-- the world by other names -/
theorem o_perm (σ : Nat → Nat) (is : List Nat) (hsel : is.map (fun i => C[i]?) = C2.map (fun q => some (xrn σ q))) (hnd : va_nd is = true) (h0 : σ 0 = 0) (hL : L.length = L2.length) (hL2 : ∀ (j : Nat) (v : Value), L2[j]? = some (some v) → L[j]? = some (some (xcv σ v))) (hS : S = S2.map (xcv σ)) (kk : nR X k z pc L2 S2 C2) : nR X k z pc L S C := by
  obtain ⟨⟨p, l, e, s⟩, ⟨m, args, below⟩, ⟨meth, c⟩, ⟨dd, tc, ad0, A⟩, ⟨cc, nL, own, rt⟩, R, Q⟩ := X
  intro ad h00 H locs ls hl hP hD hS0
  have key := kk (fun k => ad (σ k)) (by show ad (σ 0) = _; rw [h0]; exact h00) H locs ls ⟨hl.1, hL ▸ hl.2.1, hl.2.2.1, fun j v hv => by
      have := hl.2.2.2 j _ (hL2 j v hv)
      rw [xcv_comp] at this
      exact this⟩ (fun k q hq => by
      obtain ⟨i, -, hi⟩ := xsel_at (ad := ad) hsel hq
      exact hP i q hi) ⟨fun i j x y hi hj hxy => by
      obtain ⟨i', h1, h2⟩ := xsel_at (ad := ad) hsel hi
      obtain ⟨j', h3, h4⟩ := xsel_at (ad := ad) hsel hj
      have := hD.1 i' j' x y h2 h4 hxy
      subst this
      exact va_nd_inj is hnd i j i' h1 h3, fun k q hq => by
      obtain ⟨i, -, hi⟩ := xsel_at (ad := ad) hsel hq
      exact hD.2 i q hi⟩ hS0
  have e3 : S2.map (xcv fun k => ad (σ k)) = S.map (xcv ad) := by
    rw [hS, List.map_map]
    exact List.map_congr_left (fun v _ => (xcv_comp ad σ v).symm)
  rw [e3] at key
  exact key
/-- fewer known locals -/
theorem o_less (h : xlsub L2 L) (kk : nR X k z pc L2 S C) : nR X k z pc L S C := by
  obtain ⟨⟨p, l, e, s⟩, ⟨m, args, below⟩, ⟨meth, c⟩, ⟨dd, tc, ad0, A⟩, ⟨cc, nL, own, rt⟩, R, Q⟩ := X
  intro ad h00 H locs ls hl
  exact kk ad h00 H locs ls (hl.less (xlsub_ok h).1 (xlsub_ok h).2)
theorem o_callV (K : oY l cc nL own rt R X) (hP : xPq own cc tb P) {idx : Nat} (ha : xat P pc = some (.invokevirtual idx, .null)) {y : MethodName} (lk : xLk own idx y) {c' : ByteArray} {nL' : Nat} {rt' : Option FieldType} (cy : xCy y c' nL' rt') (hst : Cond.instanceMethod y ∈ xtb ∧ Cond.selects y.cls y y ∈ xtb) {n : Nat} (hn : xar y n) {k0 : Nat} {rest as : List Value} {d' : Nat} {Cc Cc' : xC} {v : Option Value} (hM : xMet l d' y c' nL' rt' (.ref k0 :: as) Cc (some (v, Cc'))) (hfr : d' + 1 ≤ R.frames) (hlo : 8 + (nL' + 11) + 64 * d' ≤ R.locals) (hck : k ≤ R.cells) (hzs : z ≤ R.slots) {i0 ci : Nat} {fs : List Value} (hrec : xpos 0 Cc k0 = some (i0, .inr (ci, fs))) (hcl : (xcl[ci]?).map (·.1) = some y.cls) (φ : Nat → Nat) (is : List Nat) (hS : S = ((.ref k0 :: as).map (xcv φ)).reverse ++ rest) (hlen : as.length = n) (hw : (rest.map fun v => v.category).sum ≤ 8) (hsel : is.map (fun i => C[i]?) = Cc.map (fun q => some (xrn φ q))) (hnd : va_nd is = true) (hkeys : Cc'.map (·.1) = Cc.map (·.1)) (e1 : (v.map (xcv φ)).toList ++ rest = S2) (e2 : xsetL C is (Cc'.map (xrn φ)) = C2) (kk : nR X k z (pc + 3) L S2 C2) : nR X k z pc L S C := by
  subst e1
  subst e2
  subst hS
  obtain ⟨K, hq9, hR, hl9⟩ := K
  obtain ⟨⟨p, l, e, s⟩, ⟨m, args, below⟩, ⟨meth, c⟩, ⟨dd, tc, ad0, A⟩, ⟨cc, nL, own, rt⟩, R, Q⟩ := X
  cases hq9
  cases hR
  have hl9 : l = _ := hl9
  subst hl9
  obtain ⟨hx, hb, hml, hown, hts, hrt, hlk, hK, hA⟩ := K
  obtain ⟨hT, hPk⟩ := hP
  obtain ⟨hdg, hv⟩ := hPk _ (xat_ok ha)
  have hdg : decode cc pc = .ok (.invokevirtual idx, 3) := hdg
  intro ad h00 H locs ls hl hP0 hD hS0
  have hM1 := hM v Cc' rfl dd tc (fun k => ad (φ k))
  have hpre := fun (U : State) (hU : U.heap = H) (hW : s.WarmedH U.vm) => xPre_at (U := U) hP0 hD hS0 hK hsel hnd hU hW
  have hrv : ∃ cellB : Cell, H[ad (φ k0)]? = some cellB ∧ cellB.vm.isStatics = false ∧ s.vm.findClass y.cls = some cellB.cls := by
    obtain ⟨rr, h1, h2⟩ := Option.map_eq_some_iff.mp hcl
    obtain ⟨i, -, hi⟩ := xsel_at (ad := ad) hsel (xws_pos (tc := tc) (ad := fun k => ad (φ k)) hrec)
    have := va_recv hK.1 hP0 h1 hi
    rw [← h2]
    exact this
  have hPr : PreV s H y.cls (ad (φ k0)) (va_Pc ((Value.ref k0 :: as).map (xcv fun k => ad (φ k))) (xPre dd tc (fun k => ad (φ k)) Cc)) (as.map (xcv fun k => ad (φ k))) := ⟨xPre_blind, hrv, fun U hU hW => ⟨rfl, hpre U hU hW⟩⟩
  have hws := xpayW cy hts
  have hlen2 : (as.map (xcv fun k => ad (φ k))).length = n := by rw [List.length_map]; exact hlen
  have hsig : ∀ sig, parseMethodDescriptor y.desc = some sig → n = sig.parameters.length := fun sig h => by
    have h2 := hn
    unfold xar at h2
    rw [h] at h2
    exact (Option.some.inj h2).symm
  have hstk : (F0 m pc ls ((((Value.ref k0 :: as).map (xcv φ)).reverse ++ rest).map (xcv ad))).stack = (as.map (xcv fun k => ad (φ k))).reverse ++ .ref (ad (φ k0)) :: rest.map (xcv ad) := by
    show (((Value.ref k0 :: as).map (xcv φ)).reverse ++ rest).map (xcv ad) = _
    rw [xS_map]
    simp [xcv]
  have hw2 : 2 * (F0 m pc ls ((((Value.ref k0 :: as).map (xcv φ)).reverse ++ rest).map (xcv ad))).monitorRoom + ((rest.map (xcv ad)).map fun v => v.category).sum ≤ 8 := lv_room (by rw [xcat_map]; exact hw)
  have run : va_Run p l e R s m args below meth c H locs k z 0 0 (F0 m pc ls ((((Value.ref k0 :: as).map (xcv φ)).reverse ++ rest).map (xcv ad))) (rest.map (xcv ad)) (fun st o t => xPost dd tc (fun k => ad (φ k)) (xA (xws tc (fun k => ad (φ k)) Cc)) v Cc' st o t) (xA (xws tc (fun k => ad (φ k)) Cc)) := by
    rcases lk with lk | ⟨host, lk⟩
    · exact va_runV (C := y.cls) (b := ad (φ k0)) (As := as.map (xcv fun k => ad (φ k))) (Ts := xtb) ⟨hx, hb, hml, hown, hts⟩ hM1 ⟨⟨rfl, rfl, hfr, hlo, hws, List.mem_cons_self, hts _ cy.1, hts _ cy.2.1, cy.2.2.1, hsig, hts _ lk⟩, hts _ hst.1, hts _ hst.2⟩ hPr rfl hlen2 hl.1 hstk hw2 hdg ⟨hck, hzs⟩
    · exact va_runVN (host := host) (C := y.cls) (b := ad (φ k0)) (As := as.map (xcv fun k => ad (φ k))) (Ts := xtb) ⟨hx, hb, hml, hown, hts⟩ hM1 ⟨⟨⟨rfl, rfl, hfr, hlo, hws, List.mem_cons_self⟩, hts _ cy.1, hts _ cy.2.1, cy.2.2.1, hsig, va_Nw.use rfl (hK.2.1 _ lk rfl)⟩, hts _ hst.1, hts _ hst.2⟩ hPr rfl hlen2 hl.1 hstk hw2 hdg ⟨hck, hzs⟩
  intro T hTh Xs
  obtain ⟨w, st₀, t, T', L2, g0, X', hL, e3, e4, ⟨hv9, hp1, hz, hk⟩, st⟩ := run T hTh Xs
  cases hv9
  rw [g0] at hz hk
  have hAc : ∀ q, xA (xws tc (fun k => ad (φ k)) Cc) q → A q := by
    intro q hq
    obtain ⟨z, hz1, hz2⟩ := hq
    obtain ⟨k, hk1⟩ := List.getElem?_of_mem hz1
    obtain ⟨i, hi1, hi2⟩ := xsel_at (ad := ad) hsel hk1
    rw [← hz2]
    exact hD.2 i z hi2
  obtain ⟨j1, j2⟩ := xjoin hP0 hD hsel hkeys hp1 hk
  have key := kk ad h00 T'.heap (locs ++ L2) ls hl (by rw [e3]; exact j1) j2 ⟨Nat.le_trans hS0.1 (by rw [e3]; exact hz), fun q h1 h2 => by rw [e3, hk q (Nat.lt_of_lt_of_le h1 hS0.1) (fun z => h2 (hAc q z))]; exact hS0.2.1 q h1 h2, fun q hq => by
      rcases List.mem_append.mp hq with h | h
      · exact hS0.2.2 q h
      · exact hAc _ (hL q h)⟩
  obtain ⟨t2, a1, b1⟩ := key T' rfl X'
  refine ⟨t2, st t2 ?_, b1⟩
  have e5 : ((v.map (xcv fun k => ad (φ k))).toList ++ rest.map (xcv ad)) = ((v.map (xcv φ)).toList ++ rest).map (xcv ad) := by
    cases v with
    | none => simp
    | some w => simp [xcv_comp]
  rw [← e5] at a1
  exact a1
theorem o_eq (K : oY l cc nL own rt R X) (hP : xPq own cc tb P) {off : Int} {t : Nat} (ha : xat P pc = some (.if_icmp .eq off, .retAddr t)) {x : Int32} (kt : nR X k z t L S C) : nR X k z pc L (.int x :: .int x :: S) C := by
  obtain ⟨K, hq9, hR, -⟩ := K
  obtain ⟨⟨p, l, e, s⟩, ⟨m, args, below⟩, ⟨meth, c⟩, ⟨dd, tc, ad0, A⟩, ⟨cc, nL, own, rt⟩, R, Q⟩ := X
  cases hq9
  cases hR
  obtain ⟨hx, hb, hml, hown, hts, hr, hlk, hK, hA⟩ := K
  obtain ⟨hT, hPk⟩ := hP
  obtain ⟨hd, hv⟩ := hPk _ (xat_ok ha)
  have ho := xkv_off hv
  intro ad h0 H locs ls hl hP0 hD hS
  exact lv_icmp_eq hx hb hd ho (fun _ => kt ad h0 H locs ls hl hP0 hD hS) (fun h => absurd rfl h)
theorem o_gt (K : oY l cc nL own rt R X) (hP : xPq own cc tb P) {off : Int} {t : Nat} (ha : xat P pc = some (.if_icmp .gt off, .retAddr t)) {x y : Int32} (kt : y < x → nR X k z t L S C) (kf : ¬ y < x → nR X k z (pc + 3) L S C) : nR X k z pc L (.int y :: .int x :: S) C := by
  obtain ⟨K, hq9, hR, -⟩ := K
  obtain ⟨⟨p, l, e, s⟩, ⟨m, args, below⟩, ⟨meth, c⟩, ⟨dd, tc, ad0, A⟩, ⟨cc, nL, own, rt⟩, R, Q⟩ := X
  cases hq9
  cases hR
  obtain ⟨hx, hb, hml, hown, hts, hr, hlk, hK, hA⟩ := K
  obtain ⟨hT, hPk⟩ := hP
  obtain ⟨hd, hv⟩ := hPk _ (xat_ok ha)
  have ho := xkv_off hv
  intro ad h0 H locs ls hl hP0 hD hS
  exact lv_icmp_gt hx hb hd ho (fun h => kt h ad h0 H locs ls hl hP0 hD hS) (fun h => kf h ad h0 H locs ls hl hP0 hD hS)
/-- a switch over a table -/
theorem o_sw (K : oY l cc nL own rt R X) {dflt lo hi : Int} {offs : Array Int} {len : Nat} (hdg : decode cc pc = .ok (.tableswitch dflt lo hi offs, len)) {x : Int32} (kin : ∀ (off : Int) (t : Nat), ¬ x.toInt < lo → ¬ hi < x.toInt → offs[(x.toInt - lo).toNat]? = some off → (pc : Int) + off = (t : Int) → nR X k z t L S C) (ht : ∀ (off : Int), offs[(x.toInt - lo).toNat]? = some off → 0 ≤ (pc : Int) + off) (hsz : ¬ x.toInt < lo → ¬ hi < x.toInt → ∃ off, offs[(x.toInt - lo).toNat]? = some off) {td : Nat} (hd : (pc : Int) + dflt = (td : Int)) (kout : nR X k z td L S C) : nR X k z pc L (.int x :: S) C := by
  obtain ⟨K, hq9, hR, -⟩ := K
  obtain ⟨⟨p, l, e, s⟩, ⟨m, args, below⟩, ⟨meth, c⟩, ⟨dd, tc, ad0, A⟩, ⟨cc, nL, own, rt⟩, R, Q⟩ := X
  cases hq9
  cases hR
  obtain ⟨hx, hb, hml, hown, hts, hr, hlk, hK, hA⟩ := K
  intro ad h0 H locs ls hl hP0 hD hS
  by_cases h1 : x.toInt < lo
  · exact lv_tableOut hx hb hdg (Or.inl h1) hd (kout ad h0 H locs ls hl hP0 hD hS)
  · by_cases h2 : hi < x.toInt
    · exact lv_tableOut hx hb hdg (Or.inr h2) hd (kout ad h0 H locs ls hl hP0 hD hS)
    · obtain ⟨off, ho⟩ := hsz h1 h2
      have hp := ht off ho
      have et : (pc : Int) + off = ((((pc : Int) + off).toNat : Nat) : Int) := by omega
      exact lv_tableIn hx hb hdg h1 h2 ho et (kin off _ h1 h2 ho et ad h0 H locs ls hl hP0 hD hS)
/-- the law's script, by the name 0 -/
def oScr (X : nCtx) (b Ls : Nat) (xs : Nat → Int32) : Prop := va_X b Ls xs X.1.2.2.2 X.1.2.2.2.heap ∧ b < X.1.2.2.2.heap.size ∧ ¬ X.2.2.2.1.2.2.2 b ∧ X.2.2.2.1.2.2.1 0 = b
theorem o_sld {b Ls : Nat} {xs : Nat → Int32} (B : oScr X b Ls xs) (K : oY l cc nL own rt R X) (hP : xPq own cc tb P) (ha : xat P pc = some (.iaload, .null)) {i : Int32} (hin : vp_in i Ls) (kk : nR X k z (pc + 1) L (.int (xs i.toNatClampNeg) :: S) C) : nR X k z pc L (.int i :: .ref 0 :: S) C := by
  obtain ⟨K, hq9, hR, -⟩ := K
  obtain ⟨⟨p, l, e, s⟩, ⟨m, args, below⟩, ⟨meth, c⟩, ⟨dd, tc, ad0, A⟩, ⟨cc, nL, own, rt⟩, R, Q⟩ := X
  cases hq9
  cases hR
  obtain ⟨hx, hb, hml, hown, hts, hr, hlk, hK, hA⟩ := K
  obtain ⟨hT, hPk⟩ := hP
  obtain ⟨hd, hv⟩ := hPk _ (xat_ok ha)
  have hd : decode cc pc = .ok (.iaload, 1) := hd
  obtain ⟨b1, b2, b3, b4⟩ := B
  intro ad h0 H locs ls hl hP0 hD hS
  have ez : ad 0 = b := h0.trans b4
  show W p l e R s m args below meth c H locs k z Q (F0 m pc ls (.int i :: .ref (ad 0) :: S.map (xcv ad)))
  rw [ez]
  exact va_sld hx hb b1 b2 b3 hS hin hd (kk ad h0 H locs ls hl hP0 hD hS)
theorem o_slen {b Ls : Nat} {xs : Nat → Int32} (B : oScr X b Ls xs) (K : oY l cc nL own rt R X) (hP : xPq own cc tb P) (ha : xat P pc = some (.arraylength, .null)) (kk : nR X k z (pc + 1) L (.int (Int32.ofNat Ls) :: S) C) : nR X k z pc L (.ref 0 :: S) C := by
  obtain ⟨K, hq9, hR, -⟩ := K
  obtain ⟨⟨p, l, e, s⟩, ⟨m, args, below⟩, ⟨meth, c⟩, ⟨dd, tc, ad0, A⟩, ⟨cc, nL, own, rt⟩, R, Q⟩ := X
  cases hq9
  cases hR
  obtain ⟨hx, hb, hml, hown, hts, hr, hlk, hK, hA⟩ := K
  obtain ⟨hT, hPk⟩ := hP
  obtain ⟨hd, hv⟩ := hPk _ (xat_ok ha)
  have hd : decode cc pc = .ok (.arraylength, 1) := hd
  obtain ⟨b1, b2, b3, b4⟩ := B
  intro ad h0 H locs ls hl hP0 hD hS
  have ez : ad 0 = b := h0.trans b4
  show W p l e R s m args below meth c H locs k z Q (F0 m pc ls (.ref (ad 0) :: S.map (xcv ad)))
  rw [ez]
  exact va_slen hx hb b1 b2 b3 hS hd (kk ad h0 H locs ls hl hP0 hD hS)
end OEX
/-- a renamed world speaks of no name from m on -/
theorem nSt_map {n m : Nat} {C : xC} {φ : Nat → Nat} (h : nSt n C) (hφ : ∀ k, k < n → φ k < m) : nSt m (C.map (xrn φ)) := fun tc ad ad' ha => by
  rw [xws_comp, xws_comp]
  exact h tc (fun k => ad (φ k)) (fun k => ad' (φ k)) (fun k hk => ha _ (hφ k hk))
theorem nSt_up {n m : Nat} {C : xC} (h : nSt n C) (hm : n ≤ m) : nSt m C := fun tc ad ad' ha => h tc ad ad' (fun k hk => ha k (by omega))
