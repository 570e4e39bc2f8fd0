/-! results in pieces, rows of references -/
def xu {α β γ : Type} (f : α → β → γ) : α × β → γ := fun p => f p.1 p.2
theorem xR_u {X : xCtx} {ρ α β : Type} {enc : ρ → xRes} {f : α → β → ρ} {a : α} {b : β} {pc : Nat} {L : xLo} {S : List Value} {C : xC} (h : xR X (enc (f a b)) pc L S C) : xR X (enc (xu f (a, b))) pc L S C := h
theorem xrem_toInt (x c : Int32) (hc : decide (0 < c.toInt) = true) : (x - x / c * c).toInt = x.toInt.tmod c.toInt := by
  have hc := of_decide_eq_true hc
  have hne : c ≠ -1 := by
    intro q
    rw [q] at hc
    exact absurd hc (by decide)
  have h1 : (x / c).toInt = x.toInt.tdiv c.toInt := Int32.toInt_div_of_ne_right x c hne
  have h2 : c.toInt < 2 ^ 31 := c.toInt_lt
  have h3 := Int.tmod_lt_of_pos x.toInt hc
  have h4 := Int.lt_tmod_of_pos x.toInt hc
  rw [Int32.toInt_sub, Int32.toInt_mul, h1]
  rw [Int.sub_bmod_bmod, Int.mul_comm, ← Int.tmod_def]
  exact Int.bmod_eq_of_le (by omega) (by omega)
theorem xin_rem {x c : Int32} {n : Nat} (h : ¬ (x - x / c * c) < 0) (hc : decide (0 < c.toInt ∧ c.toInt ≤ (n : Int)) = true) : vp_in (x - x / c * c) n := by
  have hc := of_decide_eq_true hc
  have h1 := x0_le h
  have h2 := xrem_toInt x c (decide_eq_true hc.1)
  have h3 := Int.tmod_lt_of_pos x.toInt hc.1
  exact xin_iff h1 (by omega)
theorem xpool (N : Nat) {g : Nat → Nat} {a : Nat → Option Nat} {i b : Nat} (hb : Nat.ble N b = false) (hg : g b = b) (h : a i = some b) : ∃ y : Nat → Option Nat, (fun j => (y j).map (fun k => cond (Nat.ble N k) (k - N + 0) (g k))) = a ∧ y i = some b := by
  refine ⟨fun j => if j = i then some b else (a j).map (· + N), funext fun j => ?_, if_pos rfl⟩
  show (if j = i then some b else (a j).map (· + N)).map _ = a j
  by_cases hj : j = i
  · rw [if_pos hj, hj, h]
    show some (cond (Nat.ble N b) _ (g b)) = some b
    rw [hb]
    exact congrArg some hg
  · rw [if_neg hj]
    cases a j with
    | none => rfl
    | some x =>
      show some (cond (Nat.ble N (x + N)) (x + N - N + 0) _) = some x
      rw [show Nat.ble N (x + N) = true from Nat.ble_eq_true_of_le (by omega)]
      exact congrArg some (by show x + N - N + 0 = x; omega)
section XAL
variable {l : Launch} {cc : ByteArray} {nL : Nat} {own : String} {rt : Option FieldType} {d : Nat} {X : xCtx} {tb : xTb} {P : xPg} {pc : Nat} {L : xLo} {S : List Value} {C : xC} {r : xRes}
theorem xR_aald (K : xY l cc nL own rt d X) (hP : xPq own cc tb P) (ha : xat P pc = some (.aaload, .null)) (q0 : Nat) {a0 kd n b : Nat} {f : Nat → Option Nat} {i : Int32} (hk : kd = 3 ∨ kd = 4) (h0 : C[q0]? = some (a0, .inl (kd, n, .inr (.inr (.inr (.inr f)))))) (hin : vp_in i n) (hf : f i.toNatClampNeg = some b) (k : xR X r (pc + 1) L (.ref b :: S) C) : xR X r pc L (.int i :: .ref a0 :: S) C := by
  have hP := K.P hP
  obtain ⟨K, hq9, -⟩ := K
  obtain ⟨⟨p, l, e, s⟩, ⟨m, args, below⟩, ⟨meth, c⟩, ⟨dd, tc, ad, A⟩, cc, nL, own, rt, d⟩ := X
  obtain ⟨hx, hb, hml, hown, hts, hr, hlk, hK⟩ := K
  obtain ⟨hT, hPk⟩ := hP
  obtain ⟨hdg, hv⟩ := hPk _ (xat_ok ha)
  cases hq9
  intro v9 C9 hr9 H locs ls hl hP0 hD hS
  have key : ∃ (t0 : Nat) (Cn : String), (xtys tc)[t0]? = some (tc kd, .object Cn) := by
    rcases hk with rfl | rfl
    · exact ⟨3, _, rfl⟩
    · exact ⟨4, _, rfl⟩
  obtain ⟨t0, Cn, ht⟩ := key
  have hdg : decode cc pc = .ok (.aaload, 1) := hdg
  have kk := k v9 C9 hr9 H locs ls hl hP0 hD hS
  have e : va_rf ((fun j => (f j).map ad) i.toNatClampNeg) = xcv ad (.ref b) := by
    show va_rf ((f i.toNatClampNeg).map ad) = _
    rw [hf]
    rfl
  refine va_aldq hx hb hK.1 hP0 q0 t0 (xws_get h0) ht hin hdg ?_
  rw [e]
  exact kk
end XAL
/-! the cells behind a call, told cell by cell -/
def xfd : List Nat → xC → Nat → Option (Nat × xE)
  | i :: is, d :: ds, j => match Nat.beq i j with
    | true => some d
    | false => xfd is ds j
  | _, _, _ => none
def xmg : Nat → xC → List Nat → xC → xC
  | _, [], _, _ => []
  | j, c :: cs, is, ds => (xfd is ds j).getD c :: xmg (j + 1) cs is ds
theorem xmg_get : ∀ (C : xC) (j0 j : Nat) (is : List Nat) (ds : xC), (xmg j0 C is ds)[j]? = (C[j]?).map (fun c => (xfd is ds (j0 + j)).getD c)
  | [], j0, j, is, ds => by simp [xmg]
  | c :: cs, j0, 0, is, ds => by simp [xmg]
  | c :: cs, j0, j + 1, is, ds => by
    have ih := xmg_get cs (j0 + 1) j is ds
    rw [show j0 + 1 + j = j0 + (j + 1) by omega] at ih
    simpa [xmg] using ih
theorem xfd_none : ∀ {is : List Nat} {ds : xC} {j : Nat}, j ∉ is → xfd is ds j = none
  | [], ds, j, _ => by cases ds <;> rfl
  | i :: is, [], j, _ => rfl
  | i :: is, d :: ds, j, h => by
    have h1 : Nat.beq i j = false := by
      cases hb : Nat.beq i j with
      | false => rfl
      | true => exact absurd (Nat.eq_of_beq_eq_true hb) (fun q => h (by rw [q]; exact List.mem_cons_self))
    show (match Nat.beq i j with
      | true => some d
      | false => xfd is ds j) = none
    rw [h1]
    exact xfd_none (fun q => h (List.mem_cons_of_mem _ q))
theorem xsetL_getx : ∀ {is : List Nat} {ds C : xC}, is.Nodup → ∀ j : Nat, (xsetL C is ds)[j]? = (C[j]?).map (fun c => (xfd is ds j).getD c)
  | [], ds, C, _, j => by
    have e1 : xsetL C [] ds = C := by cases ds <;> rfl
    have e2 : xfd [] ds j = none := by cases ds <;> rfl
    rw [e1, e2]
    cases C[j]? <;> rfl
  | i :: is, [], C, _, j => by
    have e1 : xsetL C (i :: is) [] = C := rfl
    have e2 : xfd (i :: is) [] j = none := rfl
    rw [e1, e2]
    cases C[j]? <;> rfl
  | i :: is, d :: ds, C, h, j => by
    obtain ⟨h1, h2⟩ := List.nodup_cons.mp h
    have e0 : xsetL C (i :: is) (d :: ds) = xsetL (C.set i d) is ds := rfl
    rw [e0, xsetL_getx h2 j]
    by_cases hij : i = j
    · subst hij
      have e1 : xfd (i :: is) (d :: ds) i = some d := by
        show (match Nat.beq i i with
          | true => some d
          | false => xfd is ds i) = some d
        rw [Nat.beq_refl]
      rw [xfd_none h1, e1]
      by_cases hl : i < C.length
      · rw [List.getElem?_set_self hl, List.getElem?_eq_getElem hl]
        rfl
      · rw [List.getElem?_eq_none (by simpa using hl), List.getElem?_eq_none (by omega)]
        rfl
    · have e1 : xfd (i :: is) (d :: ds) j = xfd is ds j := by
        have hb : Nat.beq i j = false := by
          cases hb : Nat.beq i j with
          | false => rfl
          | true => exact absurd (Nat.eq_of_beq_eq_true hb) hij
        show (match Nat.beq i j with
          | true => some d
          | false => xfd is ds j) = xfd is ds j
        rw [hb]
      rw [e1, List.getElem?_set_ne hij]
theorem xsetL_mg {C ds : xC} {is : List Nat} (hnd : va_nd is = true) : xsetL C is ds = xmg 0 C is ds := by
  have hn : is.Nodup := by
    refine List.pairwise_iff_getElem.mpr (fun a b ha hb hab h => ?_)
    have e := va_nd_inj is hnd a b (is[b]'hb) (by rw [List.getElem?_eq_getElem ha, h]) (List.getElem?_eq_getElem hb)
    omega
  refine List.ext_getElem? fun j => ?_
  rw [xsetL_getx hn j, xmg_get C 0 j is ds, Nat.zero_add]
section XC3
variable {l : Launch} {cc : ByteArray} {nL : Nat} {own : String} {rt : Option FieldType} {d : Nat} {X : xCtx} {tb : xTb} {P : xPg} {pc t : Nat} {L : xLo} {S : List Value} {C : xC} {r : xRes} {idx : Nat} {y : MethodName} {c' : ByteArray} {nL' : Nat} {rt' : Option FieldType} {n d' : Nat} {Cc Cc' : xC} {v : Option Value}
theorem xR_callS3 (K : xY l cc nL own rt d X) (hP : xPq own cc tb P) (ha : xat P pc = some (.invokestatic idx, .null)) (lk : xLk own idx y) (cy : xCy y c' nL' rt') (hst : Cond.static y ∈ xtb) (hn : xar y n) {rest : List Value} {as : List Value} (hM : xMet l d' y c' nL' rt' as Cc (some (v, Cc'))) (hd : d' + 1 ≤ d) (hnL : nL' ≤ 45) {S2 : List Value} {C2 : xC} (φ : Nat → Nat) (is : List Nat) (hS : S = (as.map (xcv φ)).reverse ++ rest) (hlen : as.length = n) (hw : (rest.map fun v => v.category).sum ≤ 8) (hsel : is.map (fun i => C[i]?) = Cc.map (fun q => some (xrn φ q))) (hnd : va_nd is = true) (hkeys : Cc'.map (·.1) = Cc.map (·.1)) (e1 : (v.map (xcv φ)).toList ++ rest = S2) (e2 : xmg 0 C is (Cc'.map (xrn φ)) = C2) (k : xR X r (pc + 3) L S2 C2) : xR X r pc L S C := xR_callS2 K hP ha lk cy hst hn hM hd hnL φ is hS hlen hw hsel hnd hkeys e1 ((xsetL_mg hnd).trans e2) k
theorem xR_callV3 (K : xY l cc nL own rt d X) (hP : xPq own cc tb P) (ha : xat P pc = some (.invokevirtual idx, .null)) (lk : xLk own idx y) (cy : xCy y c' nL' rt') (hst : Cond.instanceMethod y ∈ xtb ∧ Cond.selects y.cls y y ∈ xtb) (hn : xar y n) {rest : List Value} {k0 : Nat} {as : List Value} (hM : xMet l d' y c' nL' rt' (.ref k0 :: as) Cc (some (v, Cc'))) (hd : d' + 1 ≤ d) (hnL : nL' ≤ 45) {i0 ci : Nat} {fs : List Value} (hrec : xpos 0 Cc k0 = some (i0, .inr (ci, fs))) (hcl : (xcl[ci]?).map (·.1) = some y.cls) {S2 : List Value} {C2 : xC} (φ : Nat → Nat) (is : List Nat) (hS : S = ((.ref k0 :: as).map (xcv φ)).reverse ++ rest) (hlen : as.length = n) (hw : (rest.map fun v => v.category).sum ≤ 8) (hsel : is.map (fun i => C[i]?) = Cc.map (fun q => some (xrn φ q))) (hnd : va_nd is = true) (hkeys : Cc'.map (·.1) = Cc.map (·.1)) (e1 : (v.map (xcv φ)).toList ++ rest = S2) (e2 : xmg 0 C is (Cc'.map (xrn φ)) = C2) (k : xR X r (pc + 3) L S2 C2) : xR X r pc L S C := xR_callV2 K hP ha lk cy hst hn hM hd hnL hrec hcl φ is hS hlen hw hsel hnd hkeys e1 ((xsetL_mg hnd).trans e2) k
end XC3
