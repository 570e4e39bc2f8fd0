/-! arraycopy, switches -/
theorem xlo_ge {n c : Int32} (h : ¬ n < c) (hc : decide (0 ≤ c.toInt) = true) : ¬ n < 0 := by
  have hc := of_decide_eq_true hc
  have h1 := Int32.le_iff_toInt_le.mp (Int32.not_lt.mp h)
  intro q
  have h2 := Int32.lt_iff_toInt_lt.mp q
  have h3 : (0 : Int32).toInt = 0 := rfl
  omega
theorem xcp_le {n c : Int32} {N : Nat} (h1 : ¬ n < 0) (h2 : ¬ c < n) (h3 : decide (c.toInt ≤ (N : Int)) = true) : (0 : Int32).toNatClampNeg + n.toNatClampNeg ≤ N := by
  have h3 := of_decide_eq_true h3
  have h4 := Int32.le_iff_toInt_le.mp (Int32.not_lt.mp h2)
  have h5 : n.toNatClampNeg = n.toInt.toNat := rfl
  have h6 : (0 : Int32).toNatClampNeg = 0 := rfl
  rw [h5, h6]
  omega
theorem xnfw : nativeFrameWords "java/lang/System" "arraycopy" 5 + 11 + 8 ≤ 64 := by decide +kernel
section XCP
variable {l : Launch} {cc : ByteArray} {nL : Nat} {own : String} {rt : Option FieldType} {d : Nat} {X : xCtx} {tb : xTb} {P : xPg} {pc t : Nat} {L : xLo} {S : List Value} {C C2 : xC} {r : xRes} {idx : Nat}
def xlkc (own : String) (idx : Nat) : Prop := Cond.methodLink own idx arraycopyName ∈ xtb ∧ Cond.native arraycopyName ∈ xtb ∧ Cond.static arraycopyName ∈ xtb ∧ Cond.initialized "java/lang/System" ∈ xtb
theorem xR_copyi (K : xY l cc nL own rt d X) (hP : xPq own cc tb P) (ha : xat P pc = some (.invokestatic idx, .null)) (lk : xlkc own idx) (q0 q1 : Nat) {a0 a1 n0 n1 : Nat} {f g : Nat → Int32} {sp dp n : Int32} (h0 : C[q0]? = some (a0, .inl (0, n0, .inl f))) (hq : C[q1]? = some (a1, .inl (0, n1, .inl g))) (h1 : ¬ sp < 0) (h2 : ¬ dp < 0) (h3 : ¬ n < 0) (h4 : sp.toNatClampNeg + n.toNatClampNeg ≤ n0) (h5 : dp.toNatClampNeg + n.toNatClampNeg ≤ n1) (hd : 1 ≤ d) (hw : (S.map fun v => v.category).sum ≤ 8) (e2 : C.set q1 (a1, .inl (0, n1, .inl (va_cpy f g sp.toNatClampNeg dp.toNatClampNeg n.toNatClampNeg))) = C2) (k : xR X r (pc + 3) L S C2) : xR X r pc L (.int n :: .int dp :: .ref a1 :: .int sp :: .ref a0 :: S) C := by
  subst e2
  have hP := K.P hP
  obtain ⟨K, hq9, -⟩ := K
  obtain ⟨⟨p, l, e, s⟩, ⟨m, args, below⟩, ⟨meth, c⟩, ⟨dd, tc, ad, A⟩, cc, nL, own, rt, d⟩ := X
  obtain ⟨hx, hb, hml, hown, hts, hr, hlk, hK⟩ := K
  obtain ⟨hT, hPk⟩ := hP
  obtain ⟨hdg, hv⟩ := hPk _ (xat_ok ha)
  cases hq9
  intro v9 C9 hr9 H locs ls hl hP0 hD hS
  have hw2 : ((S.map (xcv ad)).map fun v => v.category).sum ≤ 8 := by rw [xcat_map]; exact hw
  have hnf := xnfw
  refine va_copyi hx hb (hml.trans hl.1.symm) hown (hts _ lk.1) (hts _ lk.2.1) (hts _ lk.2.2.1) (hts _ lk.2.2.2) hK.1 hP0 hD hS q0 q1 0 0 (xws_get h0) (xws_get hq) rfl rfl rfl h1 h2 h3 h4 h5 (fun _ _ => rfl) hd (by show _ ≤ 64 * d; omega) hdg (fun H1 locs1 g1 g2 g3 => ?_)
  have e1 : (ad a1, (.inl (tc 0, n1, .inl (va_cpy f g sp.toNatClampNeg dp.toNatClampNeg n.toNatClampNeg)) : va_E)) = (ad a1, xce tc ad (.inl (0, n1, .inl (va_cpy f g sp.toNatClampNeg dp.toNatClampNeg n.toNatClampNeg)))) := rfl
  rw [e1, xws_set] at g1 g2
  exact k v9 C9 hr9 H1 locs1 ls hl g1 g2 g3
theorem xR_copyl (K : xY l cc nL own rt d X) (hP : xPq own cc tb P) (ha : xat P pc = some (.invokestatic idx, .null)) (lk : xlkc own idx) (q0 q1 : Nat) {a0 a1 n0 n1 : Nat} {f g : Nat → Int64} {sp dp n : Int32} (h0 : C[q0]? = some (a0, .inl (1, n0, .inr (.inl f)))) (hq : C[q1]? = some (a1, .inl (1, n1, .inr (.inl g)))) (h1 : ¬ sp < 0) (h2 : ¬ dp < 0) (h3 : ¬ n < 0) (h4 : sp.toNatClampNeg + n.toNatClampNeg ≤ n0) (h5 : dp.toNatClampNeg + n.toNatClampNeg ≤ n1) (hd : 1 ≤ d) (hw : (S.map fun v => v.category).sum ≤ 8) (e2 : C.set q1 (a1, .inl (1, n1, .inr (.inl (va_cpy f g sp.toNatClampNeg dp.toNatClampNeg n.toNatClampNeg)))) = C2) (k : xR X r (pc + 3) L S C2) : xR X r pc L (.int n :: .int dp :: .ref a1 :: .int sp :: .ref a0 :: S) C := by
  subst e2
  have hP := K.P hP
  obtain ⟨K, hq9, -⟩ := K
  obtain ⟨⟨p, l, e, s⟩, ⟨m, args, below⟩, ⟨meth, c⟩, ⟨dd, tc, ad, A⟩, cc, nL, own, rt, d⟩ := X
  obtain ⟨hx, hb, hml, hown, hts, hr, hlk, hK⟩ := K
  obtain ⟨hT, hPk⟩ := hP
  obtain ⟨hdg, hv⟩ := hPk _ (xat_ok ha)
  cases hq9
  intro v9 C9 hr9 H locs ls hl hP0 hD hS
  have hw2 : ((S.map (xcv ad)).map fun v => v.category).sum ≤ 8 := by rw [xcat_map]; exact hw
  have hnf := xnfw
  refine va_copyl hx hb (hml.trans hl.1.symm) hown (hts _ lk.1) (hts _ lk.2.1) (hts _ lk.2.2.1) (hts _ lk.2.2.2) hK.1 hP0 hD hS q0 q1 1 1 (xws_get h0) (xws_get hq) rfl rfl rfl h1 h2 h3 h4 h5 (fun _ _ => rfl) hd (by show _ ≤ 64 * d; omega) hdg (fun H1 locs1 g1 g2 g3 => ?_)
  have e1 : (ad a1, (.inl (tc 1, n1, .inr (.inl (va_cpy f g sp.toNatClampNeg dp.toNatClampNeg n.toNatClampNeg))) : va_E)) = (ad a1, xce tc ad (.inl (1, n1, .inr (.inl (va_cpy f g sp.toNatClampNeg dp.toNatClampNeg n.toNatClampNeg))))) := rfl
  rw [e1, xws_set] at g1 g2
  exact k v9 C9 hr9 H1 locs1 ls hl g1 g2 g3
end XCP
/-! switches -/
def xswG (X : xCtx) (r : xRes) (L : xLo) (S : List Value) (C : xC) (x : Int32) : List (Int32 × Nat) → Nat → Prop
  | [], d => xR X r d L S C
  | (k, t) :: rest, d => (x = k → xR X r t L S C) ∧ (¬ x = k → xswG X r L S C x rest d)
def xswt (x : Int32) : List (Int32 × Nat) → Nat → Nat
  | [], d => d
  | (k, t) :: r, d => if x = k then t else xswt x r d
theorem xswG_ok {X : xCtx} {r : xRes} {L : xLo} {S : List Value} {C : xC} {x : Int32} {d : Nat} : ∀ {ps : List (Int32 × Nat)}, xswG X r L S C x ps d → xR X r (xswt x ps d) L S C
  | [], h => h
  | (k, t) :: rest, h => by
    unfold xswt
    by_cases hx : x = k
    · rw [if_pos hx]; exact h.1 hx
    · rw [if_neg hx]; exact xswG_ok (h.2 hx)
theorem xsw_c {X : xCtx} {ρ : Type} {enc : ρ → xRes} {ra rb : ρ} {L : xLo} {S : List Value} {C : xC} {x k : Int32} {t d : Nat} {rest : List (Int32 × Nat)} (h1 : x = k → xR X (enc ra) t L S C) (h2 : ¬ x = k → xswG X (enc rb) L S C x rest d) : xswG X (enc (if x = k then ra else rb)) L S C x ((k, t) :: rest) d := by
  refine ⟨fun h => ?_, fun h => ?_⟩
  · rw [if_pos h]; exact h1 h
  · rw [if_neg h]; exact h2 h
theorem xsw_d {X : xCtx} {r : xRes} {L : xLo} {S : List Value} {C : xC} {x : Int32} {d : Nat} (h : xR X r d L S C) : xswG X r L S C x [] d := h
def xtsp (pc : Nat) : Int → List Int → List (Int32 × Nat)
  | _, [] => []
  | i, o :: r => (Int32.ofInt i, ((pc : Int) + o).toNat) :: xtsp pc (i + 1) r
theorem xofI {x : Int32} {i : Int} (h1 : -2147483648 ≤ i) (h2 : i < 2147483648) : x = Int32.ofInt i ↔ x.toInt = i := by
  constructor
  · intro h
    rw [h, Int32.toInt_ofInt]
    have hz : (Int32.size : Int) = 4294967296 := rfl
    exact Int.bmod_eq_of_le (by omega) (by omega)
  · intro h
    rw [← h]
    exact (Int32.ofInt_toInt x).symm
theorem xtsp_out {x : Int32} {pc d : Nat} : ∀ {os : List Int} {i : Int}, -2147483648 ≤ i → i + os.length ≤ 2147483648 → (x.toInt < i ∨ i + os.length ≤ x.toInt) → xswt x (xtsp pc i os) d = d
  | [], i, _, _, _ => rfl
  | o :: r, i, h1, h2, h => by
    simp only [List.length_cons] at h2 h
    have h3 : ¬ x = Int32.ofInt i := fun q => by
      have := (xofI h1 (by omega)).mp q
      omega
    show (if x = Int32.ofInt i then _ else xswt x (xtsp pc (i + 1) r) d) = d
    rw [if_neg h3]
    exact xtsp_out (by omega) (by omega) (by omega)
theorem xtsp_in {x : Int32} {pc d : Nat} : ∀ {os : List Int} {i o : Int}, -2147483648 ≤ i → i + os.length ≤ 2147483648 → i ≤ x.toInt → os[(x.toInt - i).toNat]? = some o → xswt x (xtsp pc i os) d = ((pc : Int) + o).toNat
  | [], i, o, _, _, _, h => by simp at h
  | o' :: r, i, o, h1, h2, h3, h => by
    simp only [List.length_cons] at h2
    show (if x = Int32.ofInt i then ((pc : Int) + o').toNat else xswt x (xtsp pc (i + 1) r) d) = _
    by_cases hx : x.toInt = i
    · rw [if_pos ((xofI h1 (by omega)).mpr hx)]
      rw [show (x.toInt - i).toNat = 0 by omega] at h
      simp at h
      rw [h]
    · rw [if_neg (fun q => hx ((xofI h1 (by omega)).mp q))]
      refine xtsp_in (by omega) (by omega) (by omega) ?_
      rw [show (x.toInt - i).toNat = (x.toInt - (i + 1)).toNat + 1 by omega, List.getElem?_cons_succ] at h
      exact h
section XSW
variable {l : Launch} {cc : ByteArray} {nL : Nat} {own : String} {rt : Option FieldType} {d : Nat} {X : xCtx} {tb : xTb} {P : xPg} {pc : Nat} {L : xLo} {S : List Value} {C : xC} {r : xRes}
theorem xR_tsw (K : xY l cc nL own rt d X) (ps : List (Int32 × Nat)) (t : Nat) {x : Int32} {df lo hi : Int} {offs : Array Int} {len : Nat} (hd : decode cc pc = .ok (.tableswitch df lo hi offs, len)) (hps : xtsp pc lo offs.toList = ps) (hc : decide (-2147483648 ≤ lo ∧ hi < 2147483648 ∧ lo ≤ hi + 1 ∧ (offs.toList.length : Int) = hi - lo + 1 ∧ (pc : Int) + df = (t : Int) ∧ offs.toList.all (fun o => decide (0 ≤ (pc : Int) + o)) = true) = true) (k : xswG X r L S C x ps t) : xR X r pc L (.int x :: S) C := by
  have hc := of_decide_eq_true hc
  obtain ⟨c1, c2, c3, c4, c5, c6⟩ := hc
  have k := xswG_ok k
  subst hps
  obtain ⟨K, hq9, -⟩ := K
  obtain ⟨⟨p, l, e, s⟩, ⟨m, args, below⟩, ⟨meth, c⟩, ⟨dd, tc, ad, A⟩, cc, nL, own, rt, d⟩ := X
  obtain ⟨hx, hb, hml, hown, hts, hr, hlk, hK⟩ := K
  cases hq9
  intro v9 C9 hr9 H locs ls hl hP0 hD hS
  by_cases hin : x.toInt < lo ∨ hi < x.toInt
  · rw [xtsp_out c1 (by omega) (by omega)] at k
    exact lv_tableOut hx hb hd hin c5 (k v9 C9 hr9 H locs ls hl hP0 hD hS)
  · have hlt : (x.toInt - lo).toNat < offs.toList.length := by omega
    have ho : offs.toList[(x.toInt - lo).toNat]? = some (offs.toList[(x.toInt - lo).toNat]) := List.getElem?_eq_getElem hlt
    rw [xtsp_in c1 (by omega) (by omega) ho] at k
    have hpos := List.all_eq_true.mp c6 _ (List.getElem_mem hlt)
    have hpos := of_decide_eq_true hpos
    refine lv_tableIn hx hb hd (by omega) (by omega) (off := offs.toList[(x.toInt - lo).toNat]) (by rw [← Array.getElem?_toList]; exact ho) ?_ (k v9 C9 hr9 H locs ls hl hP0 hD hS)
    omega
theorem xlsp_ok {x : Int32} {pc t : Nat} {df : Int} (h5 : (pc : Int) + df = (t : Int)) : ∀ {prs : List (Int × Int)}, prs.all (fun q => decide (-2147483648 ≤ q.1) && decide (q.1 < 2147483648) && decide (0 ≤ (pc : Int) + q.2)) = true → (pc : Int) + Op.lookupswitch.offset prs df x.toInt = ((xswt x (prs.map (fun q => (Int32.ofInt q.1, ((pc : Int) + q.2).toNat))) t : Nat) : Int)
  | [], _ => by
    show (pc : Int) + Op.lookupswitch.offset [] df x.toInt = ((t : Nat) : Int)
    rw [← h5]
    rfl
  | (a, o) :: r, h => by
    simp only [List.all_cons, Bool.and_eq_true, decide_eq_true_eq] at h
    obtain ⟨⟨⟨h1, h2⟩, h3⟩, h4⟩ := h
    rw [Op.lookupswitch.offset_cons]
    show _ = (((if x = Int32.ofInt a then ((pc : Int) + o).toNat else xswt x (r.map _) t) : Nat) : Int)
    by_cases hx : x.toInt = a
    · rw [if_pos (by first | exact hx | exact hx.symm), if_pos ((xofI h1 h2).mpr hx)]
      omega
    · rw [if_neg (by first | exact hx | exact fun q => hx q.symm), if_neg (fun q => hx ((xofI h1 h2).mp q))]
      exact xlsp_ok h5 (by simpa [Bool.and_eq_true] using h4)
theorem xR_lsw (K : xY l cc nL own rt d X) (ps : List (Int32 × Nat)) (t : Nat) {x : Int32} {df : Int} {prs : Array (Int × Int)} {len : Nat} (hd : decode cc pc = .ok (.lookupswitch df prs, len)) (hps : prs.toList.map (fun q => (Int32.ofInt q.1, ((pc : Int) + q.2).toNat)) = ps) (hc : decide ((pc : Int) + df = (t : Int) ∧ prs.toList.all (fun q => decide (-2147483648 ≤ q.1) && decide (q.1 < 2147483648) && decide (0 ≤ (pc : Int) + q.2)) = true ∧ (prs.toList.zip (prs.toList.drop 1)).all (fun (a, next) => a.1 < next.1) = true) = true) (k : xswG X r L S C x ps t) : xR X r pc L (.int x :: S) C := by
  have hc := of_decide_eq_true hc
  obtain ⟨c1, c2, c3⟩ := hc
  have k := xswG_ok k
  subst hps
  obtain ⟨K, hq9, -⟩ := K
  obtain ⟨⟨p, l, e, s⟩, ⟨m, args, below⟩, ⟨meth, c⟩, ⟨dd, tc, ad, A⟩, cc, nL, own, rt, d⟩ := X
  obtain ⟨hx, hb, hml, hown, hts, hr, hlk, hK⟩ := K
  cases hq9
  intro v9 C9 hr9 H locs ls hl hP0 hD hS
  exact lv_lookup hx hb hd c3 rfl (xlsp_ok c1 c2) (k v9 C9 hr9 H locs ls hl hP0 hD hS)
end XSW
