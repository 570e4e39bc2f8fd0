section XT
variable {p : Program} {l : Launch} {e : Env} {R : Room} {s : State} {m : MethodId} {args : Array Value} {below : List Frame} {meth : Method} {c : Code} {H : Heap} {locs : List Loc} {cells slots : Nat} {Q : State → Prop}
variable {cc : ByteArray} {pc : Nat} {ls : Array Slot} {own : String} {tb : xTb} {ad : Nat → Nat} {S : List Value} {I : Instr} {v : Value} {dd : va_G} {tc : Nat → ClassId} {C : xC} {A : Nat → Prop} {H0 : Heap}
theorem xs_op5 {S' : List Value} {P : Prop} (hx : p.tables.exec = Jvm.exec) (hb : c.code = cc) (hK : va_K dd xcl (xtys tc) s) (hP : va_P dd xcl (xws tc ad C) H) (h : xop5 I S C = some (S', P)) (hp : P) (hd : decode cc pc = .ok (I, xlen I)) (k : W p l e R s m args below meth c H locs cells slots Q (F0 m (pc + xlen I) ls (S'.map (xcv ad)))) : W p l e R s m args below meth c H locs cells slots Q (F0 m pc ls (S.map (xcv ad))) := by
  unfold xop5 at h
  split at h
  · cases h; exact lv_idiv hx hb hd hp k
  · cases h; exact lv_irem hx hb hd hp k
  · cases h; exact lv_ldiv hx hb hd hp k
  · cases h; exact lv_lrem hx hb hd hp k
  · split at h
    · rename_i q n f hq
      cases h
      exact va_iald hx hb hK hP q 0 (xws_pos hq) rfl hp hd k
    · cases h
  · split at h
    · rename_i q n f hq
      cases h
      exact va_lald hx hb hK hP q 1 (xws_pos hq) rfl hp hd k
    · cases h
  · split at h
    · rename_i q n f hq
      cases h
      exact va_zald hx hb hK hP q 2 (xws_pos hq) rfl hp hd k
    · cases h
  · cases h
theorem xty_at (tc : Nat → ClassId) {k : Nat} (h : k < 5) : ∃ ty, (xtys tc)[k]? = some (tc k, ty) := by
  match k, h with
  | 0, _ => exact ⟨_, rfl⟩
  | 1, _ => exact ⟨_, rfl⟩
  | 2, _ => exact ⟨_, rfl⟩
  | 3, _ => exact ⟨_, rfl⟩
  | 4, _ => exact ⟨_, rfl⟩
theorem xca_fst (ad : Nat → Nat) (a : vp_A) : (xca ad a).1 = a.1 := by
  obtain ⟨n, f | f | f | f | f⟩ := a <;> rfl
theorem xs_op6 {S' : List Value} (hx : p.tables.exec = Jvm.exec) (hb : c.code = cc) (hown : s.vm.findClass own = some m.cls) (hts : ∀ w ∈ xtb, w.before args s = true) (hT : xTab own tb) (hv : xkv tb pc I = some v) (hK : va_K dd xcl (xtys tc) s) (hP : va_P dd xcl (xws tc ad C) H) (h : xop6 I v S C = some S') (hd : decode cc pc = .ok (I, xlen I)) (k : W p l e R s m args below meth c H locs cells slots Q (F0 m (pc + xlen I) ls (S'.map (xcv ad)))) : W p l e R s m args below meth c H locs cells slots Q (F0 m pc ls (S.map (xcv ad))) := by
  unfold xop6 at h
  split at h
  · rename_i i z a r
    split at h
    · rename_i q ci fs hq
      split at h
      · rename_i hci
        have hci := Nat.eq_of_beq_eq_true hci
        subst hci
        obtain ⟨w, hw, h2⟩ := Option.map_eq_some_iff.mp h
        cases h2
        obtain ⟨z', hz, hz2⟩ := Option.map_eq_some_iff.mp hv
        cases hz2
        obtain ⟨n, hn⟩ := xfl_ok hz
        obtain ⟨⟨C0, T, N⟩, h1, h2, h3, h4⟩ := hT.1 _ hn
        have hc := xcls h1
        refine va_get hx hb hts hc.1 hown hK hP q (xws_pos hq) h1 (z % 100) h2 (hts _ h4) (fun x hx9 => ?_) (v := xcv ad w) (by rw [List.getElem?_map, hw]; rfl) hd k
        rw [show (T (z % 100)).1 = C0 from h3] at hx9
        exact hx9
      · cases h
    · cases h
  · rename_i a r
    split at h
    · rename_i q k0 n f hq
      split at h
      · rename_i hk
        cases h
        have hk : k0 < 5 := by simpa using hk
        obtain ⟨ty, hty⟩ := xty_at tc hk
        exact va_alen hx hb hK hP q k0 (xws_pos hq) hty (by rw [xca_fst]) hd k
      · cases h
    · cases h
  · cases h
theorem xfit_ok {ty : FieldType} {w : Value} {P : Prop} (h : xfit ty w = some P) (hp : P) (ad : Nat → Nat) : narrow ty (xcv ad w) = xcv ad w ∧ fits ty (xcv ad w) = true := by
  unfold xfit at h
  split at h
  · exact ⟨rfl, rfl⟩
  · exact ⟨rfl, rfl⟩
  · cases h
    rcases hp with rfl | rfl
    · exact ⟨rfl, rfl⟩
    · exact ⟨rfl, rfl⟩
  · exact ⟨rfl, rfl⟩
  · exact ⟨rfl, rfl⟩
  · cases h
theorem xs_op7 {S' : List Value} {C' : xC} {P : Prop} (hx : p.tables.exec = Jvm.exec) (hb : c.code = cc) (hown : s.vm.findClass own = some m.cls) (hts : ∀ w ∈ xtb, w.before args s = true) (hT : xTab own tb) (hv : xkv tb pc I = some v) (hK : va_K dd xcl (xtys tc) s) (hP : va_P dd xcl (xws tc ad C) H) (hD : va_D A (xws tc ad C)) (hS : va_S A H0 H locs) (h : xop7 I v S C = some (S', C', P)) (hp : P) (hd : decode cc pc = .ok (I, xlen I)) (k : ∀ (H1 : Heap) (locs1 : List Loc), va_P dd xcl (xws tc ad C') H1 → va_D A (xws tc ad C') → va_S A H0 H1 locs1 → W p l e R s m args below meth c H1 locs1 cells slots Q (F0 m (pc + xlen I) ls (S'.map (xcv ad)))) : W p l e R s m args below meth c H locs cells slots Q (F0 m pc ls (S.map (xcv ad))) := by
  unfold xop7 at h
  split at h
  · rename_i i z w a r
    split at h
    · rename_i q ci fs hq
      split at h
      · rename_i hci
        obtain ⟨hci, hlt, hfin⟩ := hci
        have hci := Nat.eq_of_beq_eq_true hci
        subst hci
        have hlt : z % 100 < fs.length := by simpa using hlt
        obtain ⟨P0, hw, h2⟩ := Option.map_eq_some_iff.mp h
        cases h2
        obtain ⟨hn1, hn2⟩ := xfit_ok hw hp ad
        obtain ⟨z', hz, hz2⟩ := Option.map_eq_some_iff.mp hv
        cases hz2
        obtain ⟨n, hn⟩ := xfl_ok hz
        obtain ⟨⟨C0, T, N⟩, h1, h2, h3, h4⟩ := hT.1 _ hn
        have hc := xcls h1
        have hf : (T (z % 100)).2.2.2 = false := by
          have h9 := hfin
          unfold xfin at h9
          rw [h1] at h9
          exact h9
        refine va_put hx hb hts hc.1 (xty (z / 100)) hc.2.1 hc.2.2 hown hK hP hD hS q (xws_pos hq) h1 (z % 100) h2 (hts _ h4) (fun x hx9 => ?_) hf (v := xcv ad w) (hc.2.1 _ h2) hn1 hn2 (by simpa using hlt) hd (fun H1 locs1 g1 g2 g3 => ?_)
        · rw [show (T (z % 100)).1 = C0 from h3] at hx9
          exact hx9
        · have e1 : (ad a, xce tc ad (.inr (z / 100, fs.set (z % 100) w))) = (ad a, (.inr (z / 100, (fs.map (xcv ad)).set (z % 100) (xcv ad w)) : va_E)) := by
            show (ad a, (Sum.inr (z / 100, (fs.set (z % 100) w).map (xcv ad)) : va_E)) = _
            rw [List.map_set]
          rw [← e1, xws_set] at g1 g2
          exact k H1 locs1 g1 g2 g3
      · cases h
    · cases h
  · rename_i x i a r
    split at h
    · rename_i q n f hq
      cases h
      refine va_iast hx hb hK hP hD hS q 0 (xws_pos hq) rfl hp hd (fun H1 locs1 g1 g2 g3 => ?_)
      have e1 : (ad a, (.inl (tc 0, n, .inl (upd f i.toNatClampNeg x)) : va_E)) = (ad a, xce tc ad (.inl (0, n, .inl (upd f i.toNatClampNeg x)))) := rfl
      rw [e1, xws_set] at g1 g2
      exact k H1 locs1 g1 g2 g3
    · cases h
  · rename_i x i a r
    split at h
    · rename_i q n f hq
      cases h
      refine va_last hx hb hK hP hD hS q 1 (xws_pos hq) rfl hp hd (fun H1 locs1 g1 g2 g3 => ?_)
      have e1 : (ad a, (.inl (tc 1, n, .inr (.inl (vp_updL f i.toNatClampNeg x))) : va_E)) = (ad a, xce tc ad (.inl (1, n, .inr (.inl (vp_updL f i.toNatClampNeg x))))) := rfl
      rw [e1, xws_set] at g1 g2
      exact k H1 locs1 g1 g2 g3
    · cases h
  · rename_i x i a r
    split at h
    · rename_i q n f hq
      cases h
      refine va_zast hx hb hK hP hD hS q 2 (xws_pos hq) rfl hp hd (fun H1 locs1 g1 g2 g3 => ?_)
      have e1 : (ad a, (.inl (tc 2, n, .inl (upd f i.toNatClampNeg (vp_nar .boolean x))) : va_E)) = (ad a, xce tc ad (.inl (2, n, .inl (upd f i.toNatClampNeg (vp_nar .boolean x))))) := rfl
      rw [e1, xws_set] at g1 g2
      exact k H1 locs1 g1 g2 g3
    · cases h
  · cases h
end XT
/-- one step of a straight stretch: the state behind it, and what must hold -/
def xst1 (I : Instr) (v : Value) (L : xLo) (S : List Value) (C : xC) : Option (xSt × Option Prop) :=
  match xop1 I v L S with
  | some (L', S') => some ((L', S', C), none)
  | none => match xop2 I S with
    | some S' => some ((L, S', C), none)
    | none => match xop6 I v S C with
      | some S' => some ((L, S', C), none)
      | none => match xop5 I S C with
        | some (S', P) => some ((L, S', C), some P)
        | none => match xop7 I v S C with
          | some (S', C', P) => some ((L, S', C'), some P)
          | none => match xop3 I S with
            | some S' => some ((L, S', C), none)
            | none => match xop4 I S with
              | some S' => some ((L, S', C), none)
              | none => none
def xconj (P : Option Prop) (Q : Prop) : Prop := match P with
  | none => Q
  | some p => p ∧ Q
def xgo (P : xPg) : Nat → Nat → xSt → Option (Nat × xSt × Prop)
  | 0, pc, st => some (pc, st, True)
  | n + 1, pc, st => match xat P pc with
    | none => none
    | some (I, v) => match I, v with
      | .goto _, .retAddr t => xgo P n t st
      | I, v => match xst1 I v st.1 st.2.1 st.2.2 with
        | none => none
        | some (st', q) => match xgo P n (pc + xlen I) st' with
          | none => none
          | some (pc', st2, Q) => some (pc', st2, xconj q Q)
theorem xR_st1 {X : xCtx} {r : Option (Option Value × xC)} {tb : xTb} {P : xPg} {pc : Nat} {I : Instr} {v : Value} {L : xLo} {S : List Value} {C : xC} {st : xSt} {q : Option Prop} (K : xX X) (hP : xP X tb P) (ha : xat P pc = some (I, v)) (h : xst1 I v L S C = some (st, q)) (hq : xconj q True) (k : xR X r (pc + xlen I) st.1 st.2.1 st.2.2) : xR X r pc L S C := by
  obtain ⟨⟨p, l, e, s⟩, ⟨m, args, below⟩, ⟨meth, c⟩, ⟨dd, tc, ad, A⟩, cc, nL, own, rt, d⟩ := X
  obtain ⟨hx, hb, hml, hown, hts, hr, hlk, hK⟩ := K
  obtain ⟨hT, hPk⟩ := hP
  obtain ⟨hd, hv⟩ := hPk _ (xat_ok ha)
  have hT : xTab own tb := hT
  have hd : decode cc pc = .ok (I, xlen I) := hd
  have hv : xkv tb pc I = some v := hv
  intro v9 C9 hr9 H locs ls hl hP0 hD hS
  have k := k v9 C9 hr9
  unfold xst1 at h
  split at h
  · rename_i L' S' h1
    cases h
    exact xs_op1 hx hb hown hts hT hv hl h1 hd (fun ls' hl' => k H locs ls' hl' hP0 hD hS)
  · split at h
    · rename_i S' h1
      cases h
      exact xs_op2 hx hb h1 hd (k H locs ls hl hP0 hD hS)
    · split at h
      · rename_i S' h1
        cases h
        exact xs_op6 hx hb hown hts hT hv hK.1 hP0 h1 hd (k H locs ls hl hP0 hD hS)
      · split at h
        · rename_i S' P0 h1
          cases h
          exact xs_op5 hx hb hK.1 hP0 h1 hq.1 hd (k H locs ls hl hP0 hD hS)
        · split at h
          · rename_i S' C' P0 h1
            cases h
            exact xs_op7 hx hb hown hts hT hv hK.1 hP0 hD hS h1 hq.1 hd (fun H1 locs1 g1 g2 g3 => k H1 locs1 ls hl g1 g2 g3)
          · split at h
            · rename_i S' h1
              cases h
              exact xs_op3 hx hb h1 hd (k H locs ls hl hP0 hD hS)
            · split at h
              · rename_i S' h1
                cases h
                exact xs_op4 hx hb h1 hd (k H locs ls hl hP0 hD hS)
              · cases h
theorem xkv_off {pc : Nat} {off : Int} {t : Nat} (h : (if 0 ≤ (pc : Int) + off then some (Value.retAddr ((pc : Int) + off).toNat) else none) = some (.retAddr t)) : (pc : Int) + off = (t : Int) := by
  split at h
  · rename_i h0
    cases h
    omega
  · cases h
theorem xR_goto {X : xCtx} {r : Option (Option Value × xC)} {tb : xTb} {P : xPg} {pc t : Nat} {off : Int} {L : xLo} {S : List Value} {C : xC} (K : xX X) (hP : xP X tb P) (ha : xat P pc = some (.goto off, .retAddr t)) (k : xR X r t L S C) : xR X r pc L S C := by
  obtain ⟨⟨p, l, e, s⟩, ⟨m, args, below⟩, ⟨meth, c⟩, ⟨dd, tc, ad, A⟩, cc, nL, own, rt, d⟩ := X
  obtain ⟨hx, hb, hml, hown, hts, hr, hlk, hK⟩ := K
  obtain ⟨hT, hPk⟩ := hP
  obtain ⟨hd, hv⟩ := hPk _ (xat_ok ha)
  intro v9 C9 hr9 H locs ls hl hP0 hD hS
  exact lv_goto hx hb hd (xkv_off hv) (k v9 C9 hr9 H locs ls hl hP0 hD hS)
/-- a straight stretch of n instructions -/
theorem xR_go {X : xCtx} {r : Option (Option Value × xC)} {tb : xTb} {P : xPg} (K : xX X) (hP : xP X tb P) : ∀ (n : Nat) {pc : Nat} {L : xLo} {S : List Value} {C : xC} {pc' : Nat} {L' : xLo} {S' : List Value} {C' : xC} {Q : Prop}, xgo P n pc (L, S, C) = some (pc', (L', S', C'), Q) → Q → xR X r pc' L' S' C' → xR X r pc L S C
  | 0, pc, L, S, C, pc', L', S', C', Q, h, hq, k => by
    cases h
    exact k
  | n + 1, pc, L, S, C, pc', L', S', C', Q, h, hq, k => by
    unfold xgo at h
    split at h
    · cases h
    · rename_i I v ha
      split at h
      · exact xR_goto K hP ha (xR_go K hP n h hq k)
      · split at h
        · cases h
        · rename_i st' q hst
          split at h
          · cases h
          · rename_i pc2 st2 Q2 hgo
            cases h
            have hq1 : xconj q True ∧ Q2 := by
              cases q with
              | none => exact ⟨trivial, hq⟩
              | some p0 => exact ⟨⟨hq.1, trivial⟩, hq.2⟩
            exact xR_st1 K hP ha hst hq1.1 (xR_go K hP n (L := st'.1) (S := st'.2.1) (C := st'.2.2) hgo hq1.2 k)
