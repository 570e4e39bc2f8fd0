/-! THE ABSTRACT MACHINE: worlds as lists of cells at virtual addresses (ad gives the real ones), one function for a straight stretch of code -/
abbrev xE : Type := (Nat × vp_A) ⊕ (Nat × List Value)
abbrev xC : Type := List (Nat × xE)
abbrev xLo : Type := List (Option Value)
abbrev xSt : Type := xLo × List Value × xC
def xcv (ad : Nat → Nat) : Value → Value := fun v => match v with
  | .ref k => .ref (ad k)
  | v => v
def xca (ad : Nat → Nat) : vp_A → vp_A := fun a => match a with
  | (n, .inr (.inr (.inr (.inr f)))) => (n, .inr (.inr (.inr (.inr (fun j => (f j).map ad)))))
  | a => a
def xce (tc : Nat → ClassId) (ad : Nat → Nat) : xE → va_E := fun e => match e with
  | .inl (k, a) => .inl (tc k, xca ad a)
  | .inr (ci, fs) => .inr (ci, fs.map (xcv ad))
def xws (tc : Nat → ClassId) (ad : Nat → Nat) (C : xC) : va_W := C.map (fun q => (ad q.1, xce tc ad q.2))
def xtys (tc : Nat → ClassId) : List (ClassId × FieldType) := [(tc 0, .int), (tc 1, .long), (tc 2, .boolean), (tc 3, .object RX10), (tc 4, .object RX1)]
def xtb : List Cond := lw_tbl.filter goodWord
def xnest (w : Cond) : Bool := match w with
  | .methodLinkNest _ _ _ _ => true
  | _ => false
def xOw : String := "units thing size  next  link  to    root  churn pops  fresh costs step  refs  age   trainscars  load  if    or    and   not   all   min   max   "
def xSb : List Int32 := xOw.toList.map (fun c => Int32.ofNat c.toNat)
/-- the String constant and the JDK's statics -/
def xStr (A : Nat → Prop) (U : State) (H : Heap) : Prop := (∃ qK qV : Nat, vk_S 1 [144] [xSb] (fun _ => qK) (fun _ => qV) A U H ∧ vk_R RX8 106 xOw qK U) ∧ va_Z "java/lang/String" "COMPACT_STRINGS" "Z" (.int 1) A U H ∧ ∃ z : Value, (z = .null ∨ ∃ a : Nat, z = .ref a) ∧ va_Z "jdk/internal/util/Preconditions" "SIOOBE_FORMATTER" "Ljava/util/function/BiFunction;" z A U H
def xK (dd : va_G) (tc : Nat → ClassId) (A : Nat → Prop) (U : State) : Prop := va_K dd xcl (xtys tc) U ∧ (∀ w ∈ lw_tbl, xnest w = true → va_Nw w U) ∧ xStr A U U.heap
theorem xK.calling {dd : va_G} {tc : Nat → ClassId} {A : Nat → Prop} {U : State} (h : xK dd tc A U) (g : JFrame) (mk : MethodId) (a : Array Value) : xK dd tc A (U.calling g mk a) := by
  obtain ⟨h1, h2, ⟨qK, qV, h3, h4⟩, h5, z, hz, h6⟩ := h
  have hal : U.vm.Alike (U.calling g mk a).vm := Vm.Alike.refl U.vm
  refine ⟨va_K.moved (u := U) (U := U.calling g mk a) hal h1, fun w hw hn => ?_, ⟨qK, qV, vk_S.moved (u := U) hal h3, vk_R.same (u := U) rfl h4⟩, va_Z.moved (u := U) hal h5, z, hz, va_Z.moved (u := U) hal h6⟩
  cases w <;> first | (exact va_Nw.same (u := U) rfl rfl (h2 _ hw hn)) | (exfalso; revert hn; simp [xnest])
theorem xK.to {dd : va_G} {tc : Nat → ClassId} {A A' : Nat → Prop} {s U : State} {H : Heap} (h : xK dd tc A s) (hU : U.heap = H) (hW : s.WarmedH U.vm) (hH : ∀ q : Nat, q < s.heap.size → ¬ A q → H[q]? = s.heap[q]?) (hA : ∀ q, A' q → A q) : xK dd tc A' U := by
  obtain ⟨h1, h2, ⟨qK, qV, h3, h4⟩, h5, z, hz, h6⟩ := h
  subst hU
  refine ⟨va_K.moved hW.alike h1, fun w hw hn => ?_, ⟨qK, qV, ((vk_S.moved hW.alike h3).kept hH).narrow hA, vk_R.warm hW h4⟩, ((va_Z.moved hW.alike h5).kept hH).narrow hA, z, hz, ((va_Z.moved hW.alike h6).kept hH).narrow hA⟩
  cases w <;> first | (exact va_Nw.warmM hW (h2 _ hw hn)) | (exfalso; revert hn; simp [xnest])
/-- a method's room, by how deep it calls -/
def xrm (d : Nat) : Room := { frames := d, cells := 0, slots := 0, locals := 64 * d }
def xA (ws : va_W) : Nat → Prop := fun q => ∃ p ∈ ws, p.1 = q
def xW (y : MethodName) (c : ByteArray) (nL : Nat) (rt : Option FieldType) : List Cond := .code y c nL rt :: xtb
def xPre (dd : va_G) (tc : Nat → ClassId) (ad : Nat → Nat) (C : xC) (U : State) : Prop := va_P dd xcl (xws tc ad C) U.heap ∧ va_D (fun _ => True) (xws tc ad C) ∧ xK dd tc (xA (xws tc ad C)) U
def xPost (dd : va_G) (tc : Nat → ClassId) (ad : Nat → Nat) (A : Nat → Prop) (v : Option Value) (C' : xC) (st : State) (o : Outcome) (t : State) : Prop := o = .returned (v.map (xcv ad)) ∧ va_P dd xcl (xws tc ad C') t.heap ∧ va_F A st t
/-- a contract: with these arguments over these cells the method returns this and leaves those; 'none' says nothing -/
def xMet (l : Launch) (d : Nat) (y : MethodName) (c : ByteArray) (nL : Nat) (rt : Option FieldType) (as : List Value) (C : xC) (r : Option (Option Value × xC)) : Prop :=
  ∀ (v : Option Value) (C' : xC), r = some (v, C') → ∀ (dd : va_G) (tc : Nat → ClassId) (ad : Nat → Nat), Met l y (xW y c nL rt) (xrm d) (va_Pc (as.map (xcv ad)) (xPre dd tc ad C)) (fun _ st o t => xPost dd tc ad (xA (xws tc ad C)) v C' st o t) 0 0 (xA (xws tc ad C))
/-- the locals that are known -/
def xlo (ad : Nat → Nat) (ls : Array Slot) (nL : Nat) (L : xLo) : Prop := ls.size = nL ∧ L.length = nL ∧ lv_wf ls ∧ ∀ (j : Nat) (v : Value), L[j]? = some (some v) → ls[j]? = some (.val (xcv ad v))
abbrev xCtx : Type := (Program × Launch × Env × State) × (MethodId × Array Value × List Frame) × (Method × Code) × (va_G × (Nat → ClassId) × (Nat → Nat) × (Nat → Prop)) × (ByteArray × Nat × String × Option FieldType × Nat)
def xX : xCtx → Prop
  | ((p, _, _, s), (m, args, _), (meth, c), (dd, tc, _, A), (cc, nL, own, rt, d)) => p.tables.exec = Jvm.exec ∧ c.code = cc ∧ c.maxLocals = nL ∧ s.vm.findClass own = some m.cls ∧ (∀ w ∈ xtb, w.before args s = true) ∧ meth.sig.returnType = rt ∧ meth.locks = false ∧ xK dd tc A s
/-- from this place with these locals, this stack and these cells the method comes to its end with r -/
def xR : xCtx → Option (Option Value × xC) → Nat → xLo → List Value → xC → Prop
  | ((p, l, e, s), (m, args, below), (meth, c), (dd, tc, ad, A), (_, nL, _, _, d)), r, pc, L, S, C => ∀ (v : Option Value) (C' : xC), r = some (v, C') → ∀ (H : Heap) (locs : List Loc) (ls : Array Slot), xlo ad ls nL L → va_P dd xcl (xws tc ad C) H → va_D A (xws tc ad C) → va_S A s.heap H locs → W p l e (xrm d) s m args below meth c H locs 0 0 (MQ below (fun _ st o t => xPost dd tc ad A v C' st o t) args s 0 0 A) (F0 m pc ls (S.map (xcv ad)))
theorem xR_none {X : xCtx} {pc : Nat} {L : xLo} {S : List Value} {C : xC} : xR X none pc L S C := by
  obtain ⟨⟨p, l, e, s⟩, ⟨m, args, below⟩, ⟨meth, c⟩, ⟨dd, tc, ad, A⟩, cc, nL, own, rt, d⟩ := X
  intro v C' h
  cases h
/-! locals -/
def xdrop (L : xLo) (i : Nat) : xLo := match i with
  | 0 => L
  | j + 1 => match L[j]? with
    | some (some (.long _)) => L.set j none
    | some (some (.double _)) => L.set j none
    | _ => L
def xsto1 (L : xLo) (i : Nat) (v : Value) : xLo := (xdrop L i).set i (some v)
def xsto2 (L : xLo) (i : Nat) (v : Value) : xLo := ((xdrop L i).set (i + 1) none).set i (some v)
def xlk (ad : Nat → Nat) (L : xLo) : List (Nat × Value) := (List.range L.length).filterMap (fun j => match L[j]? with
  | some (some v) => some (j, xcv ad v)
  | _ => none)
theorem xlk_mem {ad : Nat → Nat} {L : xLo} {j : Nat} {v : Value} (h : L[j]? = some (some v)) : (j, xcv ad v) ∈ xlk ad L := by
  refine List.mem_filterMap.mpr ⟨j, List.mem_range.mpr (List.getElem?_eq_some_iff.mp h).1, ?_⟩
  rw [h]
theorem xlk_of {ad : Nat → Nat} {L : xLo} {q : Nat × Value} (h : q ∈ xlk ad L) : ∃ v, L[q.1]? = some (some v) ∧ q.2 = xcv ad v := by
  obtain ⟨j, -, hj⟩ := List.mem_filterMap.mp h
  split at hj
  · rename_i v hv
    cases hj
    exact ⟨v, hv, rfl⟩
  · cases hj
theorem xlo.has {ad : Nat → Nat} {ls : Array Slot} {nL : Nat} {L : xLo} (h : xlo ad ls nL L) : lv_has ls nL (xlk ad L) := by
  refine ⟨h.1, h.2.2.1, fun q hq => ?_⟩
  obtain ⟨v, h1, h2⟩ := xlk_of hq
  rw [h2]
  exact h.2.2.2 _ _ h1
theorem xdrop_len (L : xLo) (i : Nat) : (xdrop L i).length = L.length := by
  unfold xdrop
  split
  · rfl
  · split <;> simp
theorem xdrop_get {L : xLo} {i j : Nat} {v : Value} (h : (xdrop L i)[j]? = some (some v)) : L[j]? = some (some v) ∧ ¬ (j + 1 = i ∧ v.category = 2) := by
  unfold xdrop at h
  split at h
  · exact ⟨h, fun q => by omega⟩
  · rename_i k
    have key : ∀ w : Value, L[k]? = some (some w) → (L.set k none)[j]? = some (some v) → L[j]? = some (some v) ∧ ¬ (j + 1 = k + 1 ∧ v.category = 2) := by
      intro w hw hs
      by_cases hjk : k = j
      · subst hjk
        rw [List.getElem?_set_self (List.getElem?_eq_some_iff.mp hw).1] at hs
        cases hs
      · rw [List.getElem?_set_ne hjk] at hs
        exact ⟨hs, fun q => hjk (by omega)⟩
    split at h
    · rename_i w hw
      exact key _ hw h
    · rename_i w hw
      exact key _ hw h
    · rename_i n1 n2
      refine ⟨h, fun q => ?_⟩
      have hk : j = k := by omega
      subst hk
      cases v <;> first | (exact n1 _ h) | (exact n2 _ h) | (exact absurd q.2 (by simp [Value.category]))
theorem xcv_cat (ad : Nat → Nat) (v : Value) : (xcv ad v).category = v.category := by cases v <;> rfl
theorem xlo.sto1 {ad : Nat → Nat} {ls : Array Slot} {nL : Nat} {L : xLo} {i : Nat} {v : Value} {ls' : Array Slot} (h : xlo ad ls nL L) (h' : lv_has ls' nL ((i, xcv ad v) :: (xlk ad L).filter (fun q => !(q.1 == i) && !(q.1 + 1 == i && q.2.category == 2)))) : xlo ad ls' nL (xsto1 L i v) := by
  refine ⟨h'.1, by rw [xsto1, List.length_set, xdrop_len]; exact h.2.1, h'.2.1, fun j w hw => ?_⟩
  by_cases hj : i = j
  · subst hj
    have hlen : i < (xdrop L i).length := by
      have := (List.getElem?_eq_some_iff.mp hw).1
      simpa [xsto1] using this
    rw [xsto1, List.getElem?_set_self hlen] at hw
    cases hw
    exact h'.2.2 (i, xcv ad v) List.mem_cons_self
  · rw [xsto1, List.getElem?_set_ne hj] at hw
    obtain ⟨h1, h2⟩ := xdrop_get hw
    refine h'.2.2 (j, xcv ad w) (List.mem_cons_of_mem _ (List.mem_filter.mpr ⟨xlk_mem h1, ?_⟩))
    simp only [xcv_cat, Bool.and_eq_true, Bool.not_eq_true', beq_eq_false_iff_ne, ne_eq, Bool.and_eq_false_iff]
    refine ⟨fun q => hj q.symm, ?_⟩
    by_cases hz : j + 1 = i
    · exact Or.inr (fun q => h2 ⟨hz, q⟩)
    · exact Or.inl hz
theorem xlo.sto2 {ad : Nat → Nat} {ls : Array Slot} {nL : Nat} {L : xLo} {i : Nat} {v : Value} {ls' : Array Slot} (h : xlo ad ls nL L) (h' : lv_has ls' nL ((i, xcv ad v) :: (xlk ad L).filter (fun q => !(q.1 == i) && (!(q.1 == i + 1) && !(q.1 + 1 == i && q.2.category == 2))))) : xlo ad ls' nL (xsto2 L i v) := by
  refine ⟨h'.1, by rw [xsto2, List.length_set, List.length_set, xdrop_len]; exact h.2.1, h'.2.1, fun j w hw => ?_⟩
  by_cases hj : i = j
  · subst hj
    have hlen : i < ((xdrop L i).set (i + 1) none).length := by
      have := (List.getElem?_eq_some_iff.mp hw).1
      simpa [xsto2] using this
    rw [xsto2, List.getElem?_set_self hlen] at hw
    cases hw
    exact h'.2.2 (i, xcv ad v) List.mem_cons_self
  · rw [xsto2, List.getElem?_set_ne hj] at hw
    by_cases hj2 : i + 1 = j
    · subst hj2
      exfalso
      rw [List.getElem?_set] at hw
      simp at hw
    · rw [List.getElem?_set_ne hj2] at hw
      obtain ⟨h1, h2⟩ := xdrop_get hw
      refine h'.2.2 (j, xcv ad w) (List.mem_cons_of_mem _ (List.mem_filter.mpr ⟨xlk_mem h1, ?_⟩))
      simp only [xcv_cat, Bool.and_eq_true, Bool.not_eq_true', beq_eq_false_iff_ne, ne_eq, Bool.and_eq_false_iff]
      refine ⟨fun q => hj q.symm, fun q => hj2 q.symm, ?_⟩
      by_cases hz : j + 1 = i
      · exact Or.inr (fun q => h2 ⟨hz, q⟩)
      · exact Or.inl hz
theorem xlo.at {ad : Nat → Nat} {ls : Array Slot} {nL : Nat} {L : xLo} (h : xlo ad ls nL L) {i : Nat} {v : Value} (hv : L[i]? = some (some v)) : ls[i]? = some (.val (xcv ad v)) := h.2.2.2 i v hv
theorem xlo.entry {ad : Nat → Nat} {nL : Nat} {L : xLo} (vs : List Value) (h : (lg_sl (vs.map (xcv ad))).length ≤ nL) (hl : L.length = nL) (hL : ∀ (j : Nat) (v : Value), L[j]? = some (some v) → (j, xcv ad v) ∈ lv_args 0 (vs.map (xcv ad))) : xlo ad ((lg_sl (vs.map (xcv ad)) ++ List.replicate (nL - (lg_sl (vs.map (xcv ad))).length) Slot.unset).toArray) nL L := by
  have h0 := lv_entry (vs.map (xcv ad)) h
  exact ⟨h0.1, hl, h0.2.1, fun j v hv => h0.2.2 _ (hL j v hv)⟩
/-- fewer known locals -/
theorem xlo.less {ad : Nat → Nat} {ls : Array Slot} {nL : Nat} {L L' : xLo} (h : xlo ad ls nL L) (hl : L'.length = L.length) (hL : ∀ (j : Nat) (v : Value), L'[j]? = some (some v) → L[j]? = some (some v)) : xlo ad ls nL L' := ⟨h.1, hl.trans h.2.1, h.2.2.1, fun j v hv => h.2.2.2 j v (hL j v hv)⟩
def xlsub : xLo → xLo → Prop
  | [], [] => True
  | none :: a, _ :: b => xlsub a b
  | some v :: a, w :: b => w = some v ∧ xlsub a b
  | _, _ => False
theorem xlsub_ok : ∀ {L' L : xLo}, xlsub L' L → L'.length = L.length ∧ ∀ (j : Nat) (v : Value), L'[j]? = some (some v) → L[j]? = some (some v)
  | [], [], _ => ⟨rfl, fun j v h => by simp at h⟩
  | none :: a, w :: b, h => by
    obtain ⟨h1, h2⟩ := xlsub_ok (L' := a) (L := b) h
    refine ⟨by simp [h1], fun j v hv => ?_⟩
    cases j with
    | zero => simp at hv
    | succ j => simpa using h2 j v (by simpa using hv)
  | some x :: a, w :: b, h => by
    obtain ⟨h1, h2⟩ := xlsub_ok (L' := a) (L := b) h.2
    refine ⟨by simp [h1], fun j v hv => ?_⟩
    cases j with
    | zero => simp at hv; rw [h.1]; simp [hv]
    | succ j => simpa using h2 j v (by simpa using hv)
theorem xR_less {X : xCtx} {r : Option (Option Value × xC)} {pc : Nat} {L L' : xLo} {S : List Value} {C : xC} (h : xlsub L' L) (k : xR X r pc L' S C) : xR X r pc L S C := by
  obtain ⟨⟨p, l, e, s⟩, ⟨m, args, below⟩, ⟨meth, c⟩, ⟨dd, tc, ad, A⟩, cc, nL, own, rt, d⟩ := X
  intro v C' hr H locs ls hl
  exact k v C' hr H locs ls (hl.less (xlsub_ok h).1 (xlsub_ok h).2)
/-! cells by their virtual addresses -/
def xpos : Nat → xC → Nat → Option (Nat × xE)
  | _, [], _ => none
  | i, (j, e) :: r, k => match Nat.beq j k with
    | true => some (i, e)
    | false => xpos (i + 1) r k
theorem xpos_ok : ∀ {C : xC} {i k n : Nat} {e : xE}, xpos i C k = some (n, e) → i ≤ n ∧ C[n - i]? = some (k, e)
  | [], i, k, n, e, h => by simp [xpos] at h
  | (j, e0) :: r, i, k, n, e, h => by
    unfold xpos at h
    split at h
    · rename_i hb
      cases h
      have := Nat.eq_of_beq_eq_true hb
      subst this
      simp
    · obtain ⟨h1, h2⟩ := xpos_ok h
      refine ⟨by omega, ?_⟩
      rw [show n - i = (n - (i + 1)) + 1 by omega, List.getElem?_cons_succ]
      exact h2
theorem xws_get {tc : Nat → ClassId} {ad : Nat → Nat} {C : xC} {n k : Nat} {e : xE} (h : C[n]? = some (k, e)) : (xws tc ad C)[n]? = some (ad k, xce tc ad e) := by
  rw [xws, List.getElem?_map, h]; rfl
theorem xws_pos {tc : Nat → ClassId} {ad : Nat → Nat} {C : xC} {n k : Nat} {e : xE} (h : xpos 0 C k = some (n, e)) : (xws tc ad C)[n]? = some (ad k, xce tc ad e) := xws_get (by simpa using (xpos_ok h).2)
theorem xws_set {tc : Nat → ClassId} {ad : Nat → Nat} {C : xC} {n k : Nat} {e : xE} : (xws tc ad C).set n (ad k, xce tc ad e) = xws tc ad (C.set n (k, e)) := by
  rw [xws, xws, List.map_set]
