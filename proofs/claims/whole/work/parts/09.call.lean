/-! calls and entries -/
theorem xcv_comp (ad φ : Nat → Nat) (v : Value) : xcv ad (xcv φ v) = xcv (fun k => ad (φ k)) v := by cases v <;> rfl
def xre (φ : Nat → Nat) : xE → xE := fun e => match e with
  | .inl (k, a) => .inl (k, xca φ a)
  | .inr (ci, fs) => .inr (ci, fs.map (xcv φ))
def xrn (φ : Nat → Nat) (q : Nat × xE) : Nat × xE := (φ q.1, xre φ q.2)
theorem xca_comp (ad φ : Nat → Nat) (a : vp_A) : xca ad (xca φ a) = xca (fun k => ad (φ k)) a := by
  obtain ⟨n, f | f | f | f | f⟩ := a <;> first | rfl | skip
  show (n, _) = (n, _)
  congr 5
  funext j
  simp
  rfl
theorem xce_comp (tc : Nat → ClassId) (ad φ : Nat → Nat) (e : xE) : xce tc ad (xre φ e) = xce tc (fun k => ad (φ k)) e := by
  obtain ⟨k, a⟩ | ⟨ci, fs⟩ := e
  · show (Sum.inl (tc k, xca ad (xca φ a)) : va_E) = Sum.inl (tc k, xca _ a)
    rw [xca_comp]
  · show (Sum.inr (ci, (fs.map (xcv φ)).map (xcv ad)) : va_E) = Sum.inr (ci, fs.map (xcv _))
    rw [List.map_map]
    congr 3
    funext v
    exact xcv_comp ad φ v
theorem xws_comp (tc : Nat → ClassId) (ad φ : Nat → Nat) (C : xC) : xws tc ad (C.map (xrn φ)) = xws tc (fun k => ad (φ k)) C := by
  unfold xws
  rw [List.map_map]
  congr 1
  funext q
  show (ad (φ q.1), xce tc ad (xre φ q.2)) = _
  rw [xce_comp]
def xsetL : xC → List Nat → xC → xC
  | C, i :: is, d :: ds => xsetL (C.set i d) is ds
  | C, _, _ => C
theorem xsetL_get : ∀ {is : List Nat} {C D : xC} {j : Nat} {x : Nat × xE}, (xsetL C is D)[j]? = some x → (∃ k : Nat, is[k]? = some j ∧ D[k]? = some x) ∨ ((j ∉ is ∨ D.length < is.length) ∧ C[j]? = some x)
  | [], C, D, j, x, h => by
    unfold xsetL at h
    exact Or.inr ⟨Or.inl (by simp), h⟩
  | i :: is, C, [], j, x, h => by
    unfold xsetL at h
    exact Or.inr ⟨Or.inr (by simp), h⟩
  | i :: is, C, d :: ds, j, x, h => by
    unfold xsetL at h
    rcases xsetL_get h with ⟨k, h1, h2⟩ | ⟨h1, h2⟩
    · exact Or.inl ⟨k + 1, by simpa using h1, by simpa using h2⟩
    · by_cases hij : i = j
      · subst hij
        have hl : i < C.length := by
          have := (List.getElem?_eq_some_iff.mp h2).1
          simpa using this
        rw [List.getElem?_set_self hl] at h2
        cases h2
        exact Or.inl ⟨0, rfl, rfl⟩
      · rw [List.getElem?_set_ne hij] at h2
        refine Or.inr ⟨?_, h2⟩
        rcases h1 with h1 | h1
        · exact Or.inl (fun q => by
            rcases List.mem_cons.mp q with q | q
            · exact hij q.symm
            · exact h1 q)
        · exact Or.inr (by simpa using h1)
theorem xsetL_keys : ∀ {is : List Nat} {C D : xC}, is.map (fun i => (C[i]?).map (·.1)) = D.map (fun q => some q.1) → (xsetL C is D).map (·.1) = C.map (·.1)
  | [], C, D, _ => by cases D <;> rfl
  | i :: is, C, [], h => by simp at h
  | i :: is, C, d :: ds, h => by
    simp only [List.map_cons, List.cons.injEq] at h
    obtain ⟨h1, h2⟩ := h
    have hk : (C.set i d).map (·.1) = C.map (·.1) := by
      rw [List.map_set]
      apply List.ext_getElem?
      intro j
      by_cases hij : i = j
      · subst hij
        cases hc : C[i]? with
        | none => rw [hc] at h1; simp at h1
        | some q =>
          rw [hc] at h1
          have hl : i < (C.map (·.1)).length := by
            have := (List.getElem?_eq_some_iff.mp hc).1
            simpa using this
          rw [List.getElem?_set_self hl, List.getElem?_map, hc]
          exact h1.symm
      · rw [List.getElem?_set_ne hij]
    unfold xsetL
    rw [xsetL_keys (is := is) (C := C.set i d) (D := ds) ?_, hk]
    rw [← h2]
    apply List.map_congr_left
    intro a _
    rw [← List.getElem?_map, ← List.getElem?_map, hk]
theorem va_D_keys {A : Nat → Prop} {w1 w2 : va_W} (hD : va_D A w1) (h : w2.map (·.1) = w1.map (·.1)) : va_D A w2 := by
  have key : ∀ (k : Nat) (q : Nat × va_E), w2[k]? = some q → ∃ q0, w1[k]? = some q0 ∧ q0.1 = q.1 := by
    intro k q hk
    have h1 : (w1.map (·.1))[k]? = some q.1 := by rw [← h, List.getElem?_map, hk]; rfl
    rw [List.getElem?_map] at h1
    cases hw : w1[k]? with
    | none => rw [hw] at h1; simp at h1
    | some q0 => rw [hw] at h1; exact ⟨q0, rfl, Option.some.inj h1⟩
  refine ⟨fun i j x y hi hj hxy => ?_, fun k q hk => ?_⟩
  · obtain ⟨x0, h1, h2⟩ := key i x hi
    obtain ⟨y0, h3, h4⟩ := key j y hj
    exact hD.1 i j x0 y0 h1 h3 (h2.trans (hxy.trans h4.symm))
  · obtain ⟨q0, h1, h2⟩ := key k q hk
    rw [← h2]
    exact hD.2 k q0 h1
theorem xws_fst (tc : Nat → ClassId) (ad : Nat → Nat) (C : xC) : (xws tc ad C).map (·.1) = (C.map (·.1)).map ad := by
  unfold xws
  rw [List.map_map, List.map_map]
  rfl
/-- the callee's cells among the caller's -/
theorem xsel_at {tc : Nat → ClassId} {ad φ : Nat → Nat} {C Cc : xC} {is : List Nat} (hsel : is.map (fun i => C[i]?) = Cc.map (fun q => some (xrn φ q))) {k : Nat} {q : Nat × va_E} (hq : (xws tc (fun k => ad (φ k)) Cc)[k]? = some q) : ∃ i, is[k]? = some i ∧ (xws tc ad C)[i]? = some q := by
  rw [← xws_comp, xws, List.getElem?_map] at hq
  cases hc : (Cc.map (xrn φ))[k]? with
  | none => rw [hc] at hq; simp at hq
  | some z =>
    rw [hc] at hq
    have h1 : (is.map (fun i => C[i]?))[k]? = some (some z) := by
      rw [hsel]
      rw [List.getElem?_map] at hc ⊢
      cases hz : Cc[k]? with
      | none => rw [hz] at hc; simp at hc
      | some z0 => rw [hz] at hc; simp at hc ⊢; exact hc
    rw [List.getElem?_map] at h1
    cases hi : is[k]? with
    | none => rw [hi] at h1; simp at h1
    | some i =>
      rw [hi] at h1
      refine ⟨i, rfl, ?_⟩
      have h2 : C[i]? = some z := by simpa using h1
      rw [xws, List.getElem?_map, h2]
      exact hq
/-- the world behind a call -/
theorem xjoin {dd : va_G} {tc : Nat → ClassId} {ad φ : Nat → Nat} {A : Nat → Prop} {C Cc Cc' : xC} {is : List Nat} {H H1 : Heap} (hP : va_P dd xcl (xws tc ad C) H) (hD : va_D A (xws tc ad C)) (hsel : is.map (fun i => C[i]?) = Cc.map (fun q => some (xrn φ q))) (hkeys : Cc'.map (·.1) = Cc.map (·.1)) (hP1 : va_P dd xcl (xws tc (fun k => ad (φ k)) Cc') H1) (hk : ∀ q : Nat, q < H.size → ¬ xA (xws tc (fun k => ad (φ k)) Cc) q → H1[q]? = H[q]?) : va_P dd xcl (xws tc ad (xsetL C is (Cc'.map (xrn φ)))) H1 ∧ va_D A (xws tc ad (xsetL C is (Cc'.map (xrn φ)))) := by
  have hlen : is.length = Cc.length := by
    have := congrArg List.length hsel
    simpa using this
  have hlen' : Cc'.length = Cc.length := by
    have := congrArg List.length hkeys
    simpa using this
  refine ⟨fun j q hq => ?_, ?_⟩
  · rw [xws, List.getElem?_map] at hq
    cases hc : (xsetL C is (Cc'.map (xrn φ)))[j]? with
    | none => rw [hc] at hq; simp at hq
    | some x =>
      rw [hc] at hq
      rcases xsetL_get hc with ⟨k, h1, h2⟩ | ⟨h1, h2⟩
      · refine hP1 k q ?_
        rw [← xws_comp, xws, List.getElem?_map, h2]
        exact hq
      · have hj : j ∉ is := by
          rcases h1 with h1 | h1
          · exact h1
          · simp at h1; omega
        have hw : (xws tc ad C)[j]? = some q := by
          rw [xws, List.getElem?_map, h2]
          exact hq
        have hat := hP j q hw
        refine hat.kept (hk q.1 hat.lt (fun hz => ?_))
        obtain ⟨z, hz1, hz2⟩ := hz
        obtain ⟨k, hk1⟩ := List.getElem?_of_mem hz1
        obtain ⟨i, hi1, hi2⟩ := xsel_at (ad := ad) hsel hk1
        have := hD.1 i j z q hi2 hw hz2
        subst this
        exact hj (List.mem_of_getElem? hi1)
  · refine va_D_keys hD ?_
    rw [xws_fst, xws_fst, xsetL_keys]
    have h3 : is.map (fun i => (C[i]?).map (·.1)) = (is.map (fun i => C[i]?)).map (Option.map (·.1)) := by rw [List.map_map]; rfl
    rw [h3, hsel, List.map_map, List.map_map]
    have h4 : Cc.map ((Option.map (·.1)) ∘ fun q => some (xrn φ q)) = (Cc.map (·.1)).map (fun k => some (φ k)) := by rw [List.map_map]; rfl
    have h5 : Cc'.map ((fun q => some q.1) ∘ xrn φ) = (Cc'.map (·.1)).map (fun k => some (φ k)) := by rw [List.map_map]; rfl
    rw [h4, h5, hkeys]
def xLk (own : String) (idx : Nat) (y : MethodName) : Prop := Cond.methodLink own idx y ∈ xtb ∨ ∃ host, Cond.methodLinkNest own idx y host ∈ lw_tbl
def xCy (y : MethodName) (c : ByteArray) (nL : Nat) (rt : Option FieldType) : Prop := Cond.code y c nL rt ∈ xtb ∧ Cond.initialized y.cls ∈ xtb ∧ (y.cls ≠ "java/lang/invoke/MethodHandle" ∧ y.cls ≠ "java/lang/invoke/VarHandle") ∧ plainFor y = true
theorem xpay {s : State} {args : Array Value} (hts : ∀ w ∈ xtb, w.before args s = true) {w : Cond} (hw : w ∈ xtb) (a' : Array Value) (U : State) (hW : s.WarmedH U.vm) : w.before a' U = true := word_at hW (good_of_word (List.mem_filter.mp hw).2) (hts w hw)
theorem xpayW {s : State} {args : Array Value} {y : MethodName} {c : ByteArray} {nL : Nat} {rt : Option FieldType} (cy : xCy y c nL rt) (hts : ∀ w ∈ xtb, w.before args s = true) : ∀ w ∈ xW y c nL rt, ∀ (a' : Array Value) (U : State), s.WarmedH U.vm → w.before a' U = true := by
  intro w hw a' U hW
  rcases List.mem_cons.mp hw with rfl | hw
  · exact xpay hts cy.1 a' U hW
  · exact xpay hts hw a' U hW
theorem xPre_blind {dd : va_G} {tc : Nat → ClassId} {ad : Nat → Nat} {C : xC} {av : List Value} : FrameBlind (va_Pc av (xPre dd tc ad C)) := by
  intro a U g mk h
  exact ⟨h.1, h.2.1, h.2.2.1, h.2.2.2.calling g mk a⟩
theorem xPre_at {dd : va_G} {tc : Nat → ClassId} {ad φ : Nat → Nat} {A : Nat → Prop} {C Cc : xC} {is : List Nat} {s U : State} {H : Heap} {locs : List Loc} (hP : va_P dd xcl (xws tc ad C) H) (hD : va_D A (xws tc ad C)) (hS : va_S A s.heap H locs) (hK : xK dd tc A s) (hsel : is.map (fun i => C[i]?) = Cc.map (fun q => some (xrn φ q))) (hnd : va_nd is = true) (hU : U.heap = H) (hW : s.WarmedH U.vm) : xPre dd tc (fun k => ad (φ k)) Cc U := by
  refine ⟨?_, ?_, ?_⟩
  · rw [hU]
    intro k q hq
    obtain ⟨i, -, hi⟩ := xsel_at (ad := ad) hsel hq
    exact hP i q hi
  · refine ⟨fun i j x y hi hj hxy => ?_, fun _ _ _ => trivial⟩
    obtain ⟨i', h1, h2⟩ := xsel_at (ad := ad) hsel hi
    obtain ⟨j', h3, h4⟩ := xsel_at (ad := ad) hsel hj
    have := hD.1 i' j' x y h2 h4 hxy
    subst this
    exact va_nd_inj is hnd i j i' h1 h3
  · refine hK.to hU hW hS.2.1 (fun q hq => ?_)
    obtain ⟨z, hz1, hz2⟩ := hq
    obtain ⟨k, hk1⟩ := List.getElem?_of_mem hz1
    obtain ⟨i, hi1, hi2⟩ := xsel_at (ad := ad) hsel hk1
    rw [← hz2]
    exact hD.2 i z hi2
def xar (y : MethodName) (n : Nat) : Prop := (parseMethodDescriptor y.desc).map (fun d => d.parameters.length) = some n
section XCALL
variable {l : Launch} {cc : ByteArray} {nL : Nat} {own : String} {rt : Option FieldType} {d : Nat} {X : xCtx} {tb : xTb} {P : xPg} {pc t : Nat} {L : xLo} {S rest : List Value} {C : xC} {r : xRes} {idx : Nat} {y : MethodName} {c' : ByteArray} {nL' : Nat} {rt' : Option FieldType} {n d' : Nat} {as : List Value} {Cc Cc' : xC} {v : Option Value}
/-- what comes back from a call -/
theorem xback {p : Program} {e : Env} {s : State} {m : MethodId} {args : Array Value} {below : List Frame} {meth : Method} {c : Code} {dd : va_G} {tc : Nat → ClassId} {ad φ : Nat → Nat} {A : Nat → Prop} {H : Heap} {locs : List Loc} {ls : Array Slot} {is : List Nat} {R : Room} {Q : State → Prop} {st0 : List Value} (hP0 : va_P dd xcl (xws tc ad C) H) (hD : va_D A (xws tc ad C)) (hS : va_S A s.heap H locs) (hsel : is.map (fun i => C[i]?) = Cc.map (fun q => some (xrn φ q))) (hkeys : Cc'.map (·.1) = Cc.map (·.1))
    (hr : va_Run p l e R s m args below meth c H locs 0 0 0 0 (F0 m pc ls st0) (rest.map (xcv ad)) (fun st o t => xPost dd tc (fun k => ad (φ k)) (xA (xws tc (fun k => ad (φ k)) Cc)) v Cc' st o t) (xA (xws tc (fun k => ad (φ k)) Cc)))
    (k : ∀ (H1 : Heap) (locs1 : List Loc), va_P dd xcl (xws tc ad (xsetL C is (Cc'.map (xrn φ)))) H1 → va_D A (xws tc ad (xsetL C is (Cc'.map (xrn φ)))) → va_S A s.heap H1 locs1 → W p l e R s m args below meth c H1 locs1 0 0 Q (F0 m (pc + 3) ls (((v.map (xcv φ)).toList ++ rest).map (xcv ad)))) : W p l e R s m args below meth c H locs 0 0 Q (F0 m pc ls st0) := by
  intro T hT X
  obtain ⟨w, st₀, t, T', L2, h0, X', hL, e1, e2, ⟨hv, hp1, hz, hk⟩, st⟩ := hr T hT X
  cases hv
  rw [h0] at hz hk
  have hAc : ∀ q, xA (xws tc (fun k => ad (φ k)) Cc) q → A q := by
    intro q hq
    obtain ⟨z, hz1, hz2⟩ := hq
    obtain ⟨k, hk1⟩ := List.getElem?_of_mem hz1
    obtain ⟨i, hi1, hi2⟩ := xsel_at (ad := ad) hsel hk1
    rw [← hz2]
    exact hD.2 i z hi2
  obtain ⟨j1, j2⟩ := xjoin hP0 hD hsel hkeys hp1 hk
  have key := k T'.heap (locs ++ L2) (by rw [e1]; exact j1) j2 ⟨Nat.le_trans hS.1 (by rw [e1]; exact hz), fun q h1 h2 => by rw [e1, hk q (Nat.lt_of_lt_of_le h1 hS.1) (fun z => h2 (hAc q z))]; exact hS.2.1 q h1 h2, fun q hq => by
      rcases List.mem_append.mp hq with h | h
      · exact hS.2.2 q h
      · exact hAc _ (hL q h)⟩
  obtain ⟨t2, a1, b1⟩ := key T' rfl X'
  refine ⟨t2, st t2 ?_, b1⟩
  have e3 : ((v.map (xcv fun k => ad (φ k))).toList ++ rest.map (xcv ad)) = ((v.map (xcv φ)).toList ++ rest).map (xcv ad) := by
    cases v with
    | none => simp
    | some w => simp [xcv_comp]
  rw [← e3] at a1
  exact a1
theorem xS_map {ad φ : Nat → Nat} : ((as.map (xcv φ)).reverse ++ rest).map (xcv ad) = (as.map (xcv (fun k => ad (φ k)))).reverse ++ rest.map (xcv ad) := by
  rw [List.map_append, List.map_reverse, List.map_map]
  congr 3
  funext v
  exact xcv_comp ad φ v
theorem xcat_map {ad : Nat → Nat} : ((rest.map (xcv ad)).map fun v => v.category) = rest.map fun v => v.category := by
  rw [List.map_map]
  congr 1
  funext v
  exact xcv_cat ad v
theorem xroom {d' d nL' : Nat} (hd : d' + 1 ≤ d) (hnL : nL' ≤ 45) : (xrm d').frames + 1 ≤ (xrm d).frames ∧ 8 + (nL' + 11) + (xrm d').locals ≤ (xrm d).locals := by
  refine ⟨hd, ?_⟩
  show 8 + (nL' + 11) + 64 * d' ≤ 64 * d
  omega
theorem xR_callS (K : xY l cc nL own rt d X) (hP : xPq own cc tb P) (ha : xat P pc = some (.invokestatic idx, .null)) (lk : xLk own idx y) (cy : xCy y c' nL' rt') (hst : Cond.static y ∈ xtb) (hn : xar y n) (hM : xMet l d' y c' nL' rt' as Cc (some (v, Cc'))) (hd : d' + 1 ≤ d) (hnL : nL' ≤ 45) (φ : Nat → Nat) (is : List Nat) (hS : S = (as.map (xcv φ)).reverse ++ rest) (hlen : as.length = n) (hw : (rest.map fun v => v.category).sum ≤ 8) (hsel : is.map (fun i => C[i]?) = Cc.map (fun q => some (xrn φ q))) (hnd : va_nd is = true) (hkeys : Cc'.map (·.1) = Cc.map (·.1)) (k : xR X r (pc + 3) L ((v.map (xcv φ)).toList ++ rest) (xsetL C is (Cc'.map (xrn φ)))) : xR X r pc L S C := by
  have hP := K.P hP
  obtain ⟨K, hq, hl9⟩ := K
  obtain ⟨⟨p, l, e, s⟩, ⟨m, args, below⟩, ⟨meth, c⟩, ⟨dd, tc, ad, A⟩, cc, nL, own, rt, d⟩ := X
  obtain ⟨hx, hb, hml, hown, hts, hr, hlk, hK⟩ := K
  obtain ⟨hT, hPk⟩ := hP
  obtain ⟨hdg, hv⟩ := hPk _ (xat_ok ha)
  cases hq
  have hl9 : l = _ := hl9
  subst hl9
  intro v9 C9 hr9 H locs ls hl hP0 hD hS0
  subst hS
  have hM1 := hM v Cc' rfl dd tc (fun k => ad (φ k))
  have hPr : PreS s H (va_Pc (as.map (xcv fun k => ad (φ k))) (xPre dd tc (fun k => ad (φ k)) Cc)) (as.map (xcv fun k => ad (φ k))) := ⟨xPre_blind, fun U hU hW => ⟨rfl, xPre_at hP0 hD hS0 hK hsel hnd hU hW⟩⟩
  have hws := xpayW cy hts
  have hdgc : decode cc pc = .ok (.invokestatic idx, 3) := hdg
  have hlen2 : (as.map (xcv fun k => ad (φ k))).length = n := by rw [List.length_map]; exact hlen
  have hsig : ∀ sig, parseMethodDescriptor y.desc = some sig → n = sig.parameters.length := fun sig h => by
    have h2 := hn
    unfold xar at h2
    rw [h] at h2
    exact (Option.some.inj h2).symm
  have hroom := xroom hd hnL
  have hw2 : 2 * (F0 m pc ls (((as.map (xcv φ)).reverse ++ rest).map (xcv ad))).monitorRoom + ((rest.map (xcv ad)).map fun v => v.category).sum ≤ 8 := lv_room (by rw [xcat_map]; exact hw)
  have kk := fun H1 locs1 g1 g2 g3 => k v9 C9 hr9 H1 locs1 ls hl g1 g2 g3
  rcases lk with lk | ⟨host, lk⟩
  · exact xback hP0 hD hS0 hsel hkeys (va_runS (Ts := xtb) ⟨hx, hb, hml, hown, hts⟩ hM1 ⟨⟨rfl, rfl, hroom.1, hroom.2, hws, List.mem_cons_self, hts _ cy.1, hts _ cy.2.1, cy.2.2.1, hsig, hts _ lk⟩, hts _ hst⟩ hPr rfl hlen2 hl.1 xS_map hw2 hdgc ⟨Nat.le_refl _, Nat.le_refl _⟩) kk
  · exact xback hP0 hD hS0 hsel hkeys (va_runSN (host := host) (Ts := xtb) ⟨hx, hb, hml, hown, hts⟩ hM1 ⟨⟨⟨rfl, rfl, hroom.1, hroom.2, hws, List.mem_cons_self⟩, hts _ cy.1, hts _ cy.2.1, cy.2.2.1, hsig, va_Nw.use rfl (hK.2.1 _ lk rfl)⟩, hts _ hst, trivial⟩ hPr rfl hlen2 hl.1 xS_map hw2 hdgc ⟨Nat.le_refl _, Nat.le_refl _⟩) kk
theorem xR_callV (K : xY l cc nL own rt d X) (hP : xPq own cc tb P) (ha : xat P pc = some (.invokevirtual idx, .null)) (lk : xLk own idx y) (cy : xCy y c' nL' rt') (hst : Cond.instanceMethod y ∈ xtb ∧ Cond.selects y.cls y y ∈ xtb) (hn : xar y n) {k0 : Nat} {as : List Value} (hM : xMet l d' y c' nL' rt' (.ref k0 :: as) Cc (some (v, Cc'))) (hd : d' + 1 ≤ d) (hnL : nL' ≤ 45) {i0 ci : Nat} {fs : List Value} (hrec : xpos 0 Cc k0 = some (i0, .inr (ci, fs))) (hcl : (xcl[ci]?).map (·.1) = some y.cls) (φ : Nat → Nat) (is : List Nat) (hS : S = ((.ref k0 :: as).map (xcv φ)).reverse ++ rest) (hlen : as.length = n) (hw : (rest.map fun v => v.category).sum ≤ 8) (hsel : is.map (fun i => C[i]?) = Cc.map (fun q => some (xrn φ q))) (hnd : va_nd is = true) (hkeys : Cc'.map (·.1) = Cc.map (·.1)) (k : xR X r (pc + 3) L ((v.map (xcv φ)).toList ++ rest) (xsetL C is (Cc'.map (xrn φ)))) : xR X r pc L S C := by
  have hP := K.P hP
  obtain ⟨K, hq, hl9⟩ := K
  obtain ⟨⟨p, l, e, s⟩, ⟨m, args, below⟩, ⟨meth, c⟩, ⟨dd, tc, ad, A⟩, cc, nL, own, rt, d⟩ := X
  obtain ⟨hx, hb, hml, hown, hts, hr, hlk, hK⟩ := K
  obtain ⟨hT, hPk⟩ := hP
  obtain ⟨hdg, hv⟩ := hPk _ (xat_ok ha)
  cases hq
  have hl9 : l = _ := hl9
  subst hl9
  intro v9 C9 hr9 H locs ls hl hP0 hD hS0
  subst hS
  have hM1 := hM v Cc' rfl dd tc (fun k => ad (φ k))
  have hpre := fun (U : State) (hU : U.heap = H) (hW : s.WarmedH U.vm) => xPre_at (U := U) hP0 hD hS0 hK hsel hnd hU hW
  have hrv : ∃ cellB : Cell, H[ad (φ k0)]? = some cellB ∧ cellB.vm.isStatics = false ∧ s.vm.findClass y.cls = some cellB.cls := by
    obtain ⟨rr, h1, h2⟩ := Option.map_eq_some_iff.mp hcl
    obtain ⟨i, -, hi⟩ := xsel_at (ad := ad) hsel (xws_pos (tc := tc) (ad := fun k => ad (φ k)) hrec)
    have := va_recv hK.1 hP0 h1 hi
    rw [← h2]
    exact this
  have hPr : PreV s H y.cls (ad (φ k0)) (va_Pc ((Value.ref k0 :: as).map (xcv fun k => ad (φ k))) (xPre dd tc (fun k => ad (φ k)) Cc)) (as.map (xcv fun k => ad (φ k))) := ⟨xPre_blind, hrv, fun U hU hW => ⟨rfl, hpre U hU hW⟩⟩
  have hws := xpayW cy hts
  have hdgc : decode cc pc = .ok (.invokevirtual idx, 3) := hdg
  have hlen2 : (as.map (xcv fun k => ad (φ k))).length = n := by rw [List.length_map]; exact hlen
  have hsig : ∀ sig, parseMethodDescriptor y.desc = some sig → n = sig.parameters.length := fun sig h => by
    have h2 := hn
    unfold xar at h2
    rw [h] at h2
    exact (Option.some.inj h2).symm
  have hroom := xroom hd hnL
  have hstk : (F0 m pc ls ((((Value.ref k0 :: as).map (xcv φ)).reverse ++ rest).map (xcv ad))).stack = (as.map (xcv fun k => ad (φ k))).reverse ++ .ref (ad (φ k0)) :: rest.map (xcv ad) := by
    show (((Value.ref k0 :: as).map (xcv φ)).reverse ++ rest).map (xcv ad) = _
    rw [xS_map]
    simp [xcv]
  have hw2 : 2 * (F0 m pc ls ((((Value.ref k0 :: as).map (xcv φ)).reverse ++ rest).map (xcv ad))).monitorRoom + ((rest.map (xcv ad)).map fun v => v.category).sum ≤ 8 := lv_room (by rw [xcat_map]; exact hw)
  have kk := fun H1 locs1 g1 g2 g3 => k v9 C9 hr9 H1 locs1 ls hl g1 g2 g3
  rcases lk with lk | ⟨host, lk⟩
  · exact xback hP0 hD hS0 hsel hkeys (va_runV (C := y.cls) (b := ad (φ k0)) (As := as.map (xcv fun k => ad (φ k))) (Ts := xtb) ⟨hx, hb, hml, hown, hts⟩ hM1 ⟨⟨rfl, rfl, hroom.1, hroom.2, hws, List.mem_cons_self, hts _ cy.1, hts _ cy.2.1, cy.2.2.1, hsig, hts _ lk⟩, hts _ hst.1, hts _ hst.2⟩ hPr rfl hlen2 hl.1 hstk hw2 hdgc ⟨Nat.le_refl _, Nat.le_refl _⟩) kk
  · exact xback hP0 hD hS0 hsel hkeys (va_runVN (host := host) (C := y.cls) (b := ad (φ k0)) (As := as.map (xcv fun k => ad (φ k))) (Ts := xtb) ⟨hx, hb, hml, hown, hts⟩ hM1 ⟨⟨⟨rfl, rfl, hroom.1, hroom.2, hws, List.mem_cons_self⟩, hts _ cy.1, hts _ cy.2.1, cy.2.2.1, hsig, va_Nw.use rfl (hK.2.1 _ lk rfl)⟩, hts _ hst.1, hts _ hst.2⟩ hPr rfl hlen2 hl.1 hstk hw2 hdgc ⟨Nat.le_refl _, Nat.le_refl _⟩) kk
end XCALL
/-! entries -/
def xL0 : List Value → xLo
  | [] => []
  | v :: r => match v with
    | .long _ => some v :: none :: xL0 r
    | .double _ => some v :: none :: xL0 r
    | _ => some v :: xL0 r
theorem xL0_args (ad : Nat → Nat) : ∀ (vs : List Value) (i : Nat) (j : Nat) (v : Value), (xL0 vs)[j]? = some (some v) → (i + j, xcv ad v) ∈ lv_args i (vs.map (xcv ad))
  | [], i, j, v, h => by simp [xL0] at h
  | w :: r, i, j, v, h => by
    have one : ∀ (hw : (xcv ad w).category = 1), (some w :: xL0 r)[j]? = some (some v) → (i + j, xcv ad v) ∈ lv_args i ((w :: r).map (xcv ad)) := by
      intro hw h
      show _ ∈ (i, xcv ad w) :: lv_args (if (xcv ad w).category = 2 then i + 2 else i + 1) (r.map (xcv ad))
      rw [if_neg (by omega)]
      cases j with
      | zero => simp at h; subst h; exact List.mem_cons_self
      | succ j =>
        refine List.mem_cons_of_mem _ ?_
        have := xL0_args ad r (i + 1) j v (by simpa using h)
        rwa [show i + 1 + j = i + (j + 1) by omega] at this
    have two : ∀ (hw : (xcv ad w).category = 2), (some w :: none :: xL0 r)[j]? = some (some v) → (i + j, xcv ad v) ∈ lv_args i ((w :: r).map (xcv ad)) := by
      intro hw h
      show _ ∈ (i, xcv ad w) :: lv_args (if (xcv ad w).category = 2 then i + 2 else i + 1) (r.map (xcv ad))
      rw [if_pos hw]
      match j, h with
      | 0, h => simp at h; subst h; exact List.mem_cons_self
      | 1, h => simp at h
      | j + 2, h =>
        refine List.mem_cons_of_mem _ ?_
        have := xL0_args ad r (i + 2) j v (by simpa using h)
        rwa [show i + 2 + j = i + (j + 2) by omega] at this
    cases w <;> first | exact one rfl h | exact two rfl h
theorem xL0_sl (ad : Nat → Nat) : ∀ (vs : List Value), (lg_sl (vs.map (xcv ad))).length = (xL0 vs).length
  | [] => rfl
  | v :: r => by
    have ih := xL0_sl ad r
    have e : lg_sl ((v :: r).map (xcv ad)) = (if (xcv ad v).category = 2 then [Slot.val (xcv ad v), Slot.second] else [Slot.val (xcv ad v)]) ++ lg_sl (r.map (xcv ad)) := rfl
    rw [e, List.length_append, ih, xcv_cat]
    cases v with
    | long x => rw [if_pos (show (Value.long x).category = 2 from rfl)]; show 2 + _ = (xL0 r).length + 1 + 1; omega
    | double x => rw [if_pos (show (Value.double x).category = 2 from rfl)]; show 2 + _ = (xL0 r).length + 1 + 1; omega
    | int x => rw [if_neg (show ¬ (Value.int x).category = 2 from Nat.ne_of_lt (Nat.le_refl 2))]; show 1 + _ = (xL0 r).length + 1; omega
    | float x => rw [if_neg (show ¬ (Value.float x).category = 2 from Nat.ne_of_lt (Nat.le_refl 2))]; show 1 + _ = (xL0 r).length + 1; omega
    | null => rw [if_neg (show ¬ Value.null.category = 2 from Nat.ne_of_lt (Nat.le_refl 2))]; show 1 + _ = (xL0 r).length + 1; omega
    | ref x => rw [if_neg (show ¬ (Value.ref x).category = 2 from Nat.ne_of_lt (Nat.le_refl 2))]; show 1 + _ = (xL0 r).length + 1; omega
    | retAddr x => rw [if_neg (show ¬ (Value.retAddr x).category = 2 from Nat.ne_of_lt (Nat.le_refl 2))]; show 1 + _ = (xL0 r).length + 1; omega
theorem xMet_ofW {l : Launch} {y : MethodName} {ws ws' : List Cond} {rm : Room} {Pc : Array Value → State → Prop} {Qc : Array Value → State → Outcome → State → Prop} {mc ms : Nat} {free : Addr → Prop} {cc : ByteArray} {maxL : Nat} {ret : Option FieldType}
    (hy : plainFor y = true) (hw : ws = Cond.code y cc maxL ret :: ws')
    (body : ∀ p e s m args below meth c s₁, BodyLoose p l y (headSpec ws rm) cc maxL ret e s m args below meth c s₁ → c.maxLocals = maxL → Pc args s →
      W p l e (headSpec ws rm).room s m args below meth c s.heap [] 0 0 (MQ below Qc args s mc ms free) (entryFrame m args maxL)) : Met l y ws rm Pc Qc mc ms free := by
  refine MetFree.of_bodySF (code := cc) (maxLocals := maxL) (ret := ret) hy ?_ ?_
  · intro args s m h hn
    obtain ⟨meth, c, h1, h2, h3, h4, h5, h6, -, -⟩ := Cond.code_spec hn (atoms_spec (ws := ws) h _ (by rw [hw]; exact List.mem_cons_self))
    exact ⟨meth, c, h1, h2, h3, h4, h5, h6⟩
  · intro p e s m args below meth c s₁ B hml hP _
    have hh0 : s₁.heap = s.heap := by rw [B.state]; rfl
    obtain ⟨t, a1, o, b1, b2, b3⟩ := body p e s m args below meth c s₁ B hml hP s₁ hh0 (Stand.of_body B)
    exact ⟨t, o, a1, b1, b2, ⟨b3.1, b3.2⟩⟩
theorem xMet_of {l : Launch} {d : Nat} {y : MethodName} {c : ByteArray} {nL : Nat} {rt : Option FieldType} {as : List Value} {C : xC} {r : xRes} (cy : xCy y c nL rt) (L : xLo) (hL : L = xL0 as ++ List.replicate (nL - (xL0 as).length) none) (hn : (xL0 as).length ≤ nL) (body : ∀ X : xCtx, xY l c nL y.cls rt d X → xR X r 0 L [] C) : xMet l d y c nL rt as C r := by
  intro v C' hr dd tc ad
  refine xMet_ofW (cc := c) (maxL := nL) (ret := rt) cy.2.2.2 rfl ?_
  intro p e s m args below meth c0 s₁ B hml hv
  obtain ⟨rfl, hP, hD0, hK⟩ := hv
  have hx := B.exec
  have hb := B.bytes
  have hret := B.returns
  have hts := atoms_spec (ws := xW y c nL rt) B.pre
  have hown : s.vm.findClass y.cls = some m.cls := findClass_of_methodNamed B.named
  have hlocks := B.notSynchronized
  have hD : va_D (xA (xws tc ad C)) (xws tc ad C) := ⟨hD0.1, fun k q hk => ⟨q, List.mem_of_getElem? hk, rfl⟩⟩
  have hS : va_S (xA (xws tc ad C)) s.heap s.heap [] := va_S.rf
  have key := body ((p, l, e, s), (m, (as.map (xcv ad)).toArray, below), (meth, c0), (dd, tc, ad, xA (xws tc ad C)), (c, nL, y.cls, rt, d)) ⟨⟨hx, hb, hml, hown, fun w hw => hts w (List.mem_cons_of_mem _ hw), hret, hlocks, hK⟩, rfl, rfl⟩
  rw [lg_entry_eq]
  refine key v C' hr s.heap [] _ ?_ hP hD hS
  refine xlo.entry as (by rw [xL0_sl]; exact hn) (by rw [hL]; simp; omega) (fun j w hw => ?_)
  rw [hL] at hw
  by_cases hj : j < (xL0 as).length
  · rw [List.getElem?_append_left hj] at hw
    have := xL0_args ad as 0 j w hw
    rwa [Nat.zero_add] at this
  · rw [List.getElem?_append_right (by omega)] at hw
    rw [List.getElem?_replicate] at hw
    split at hw <;> simp at hw
