theorem dJ0_length_8abf5_0 : decode cJ0_length_8abf5 0 = .ok (.aload_n 0, 1) := by decide +kernel
theorem dJ0_length_8abf5_1 : decode cJ0_length_8abf5 1 = .ok (.getfield 9, 3) := by decide +kernel
theorem dJ0_length_8abf5_4 : decode cJ0_length_8abf5 4 = .ok (.arraylength, 1) := by decide +kernel
theorem dJ0_length_8abf5_5 : decode cJ0_length_8abf5 5 = .ok (.aload_n 0, 1) := by decide +kernel
theorem dJ0_length_8abf5_6 : decode cJ0_length_8abf5 6 = .ok (.invokevirtual 335, 3) := by decide +kernel
theorem dJ0_length_8abf5_9 : decode cJ0_length_8abf5 9 = .ok (.ishr, 1) := by decide +kernel
theorem dJ0_length_8abf5_10 : decode cJ0_length_8abf5 10 = .ok (.ireturn, 1) := by decide +kernel
theorem cy_J0_length_8abf5 : xCy yJ0_length_8abf5 cJ0_length_8abf5 1 (some .int) := ⟨xtb_in (i := 730) (by decide +kernel) rfl, xtb_in (i := 166) (by decide +kernel) rfl, by decide +kernel, by decide +kernel⟩
theorem si_J0_length_8abf5 : Cond.instanceMethod yJ0_length_8abf5 ∈ xtb ∧ Cond.selects yJ0_length_8abf5.cls yJ0_length_8abf5 yJ0_length_8abf5 ∈ xtb := ⟨xtb_in (i := 728) (by decide +kernel) rfl, xtb_in (i := 729) (by decide +kernel) rfl⟩
theorem ar_J0_length_8abf5 : xar yJ0_length_8abf5 0 := by unfold xar; decide +kernel
theorem dJ0_charAt_5068e_0 : decode cJ0_charAt_5068e 0 = .ok (.aload_n 0, 1) := by decide +kernel
theorem dJ0_charAt_5068e_1 : decode cJ0_charAt_5068e 1 = .ok (.invokevirtual 492, 3) := by decide +kernel
theorem dJ0_charAt_5068e_4 : decode cJ0_charAt_5068e 4 = .ok (.ifCond .eq 12, 3) := by decide +kernel
theorem dJ0_charAt_5068e_7 : decode cJ0_charAt_5068e 7 = .ok (.aload_n 0, 1) := by decide +kernel
theorem dJ0_charAt_5068e_8 : decode cJ0_charAt_5068e 8 = .ok (.getfield 9, 3) := by decide +kernel
theorem dJ0_charAt_5068e_11 : decode cJ0_charAt_5068e 11 = .ok (.iload_n 1, 1) := by decide +kernel
theorem dJ0_charAt_5068e_12 : decode cJ0_charAt_5068e 12 = .ok (.invokestatic 495, 3) := by decide +kernel
theorem dJ0_charAt_5068e_15 : decode cJ0_charAt_5068e 15 = .ok (.ireturn, 1) := by decide +kernel
theorem dJ0_charAt_5068e_16 : decode cJ0_charAt_5068e 16 = .ok (.aload_n 0, 1) := by decide +kernel
theorem dJ0_charAt_5068e_17 : decode cJ0_charAt_5068e 17 = .ok (.getfield 9, 3) := by decide +kernel
theorem dJ0_charAt_5068e_20 : decode cJ0_charAt_5068e 20 = .ok (.iload_n 1, 1) := by decide +kernel
theorem dJ0_charAt_5068e_21 : decode cJ0_charAt_5068e 21 = .ok (.invokestatic 498, 3) := by decide +kernel
theorem dJ0_charAt_5068e_24 : decode cJ0_charAt_5068e 24 = .ok (.ireturn, 1) := by decide +kernel
theorem cy_J0_charAt_5068e : xCy yJ0_charAt_5068e cJ0_charAt_5068e 2 (some .char) := ⟨xtb_in (i := 740) (by decide +kernel) rfl, xtb_in (i := 166) (by decide +kernel) rfl, by decide +kernel, by decide +kernel⟩
theorem si_J0_charAt_5068e : Cond.instanceMethod yJ0_charAt_5068e ∈ xtb ∧ Cond.selects yJ0_charAt_5068e.cls yJ0_charAt_5068e yJ0_charAt_5068e ∈ xtb := ⟨xtb_in (i := 738) (by decide +kernel) rfl, xtb_in (i := 739) (by decide +kernel) rfl⟩
theorem ar_J0_charAt_5068e : xar yJ0_charAt_5068e 1 := by unfold xar; decide +kernel
theorem dJ0_coder_7d493_0 : decode cJ0_coder_7d493 0 = .ok (.getstatic 38, 3) := by decide +kernel
theorem dJ0_coder_7d493_3 : decode cJ0_coder_7d493 3 = .ok (.ifCond .eq 10, 3) := by decide +kernel
theorem dJ0_coder_7d493_6 : decode cJ0_coder_7d493 6 = .ok (.aload_n 0, 1) := by decide +kernel
theorem dJ0_coder_7d493_7 : decode cJ0_coder_7d493 7 = .ok (.getfield 15, 3) := by decide +kernel
theorem dJ0_coder_7d493_10 : decode cJ0_coder_7d493 10 = .ok (.goto 4, 3) := by decide +kernel
theorem dJ0_coder_7d493_13 : decode cJ0_coder_7d493 13 = .ok (.iconst 1, 1) := by decide +kernel
theorem dJ0_coder_7d493_14 : decode cJ0_coder_7d493 14 = .ok (.ireturn, 1) := by decide +kernel
theorem cy_J0_coder_7d493 : xCy yJ0_coder_7d493 cJ0_coder_7d493 1 (some .byte) := ⟨xtb_in (i := 734) (by decide +kernel) rfl, xtb_in (i := 166) (by decide +kernel) rfl, by decide +kernel, by decide +kernel⟩
theorem si_J0_coder_7d493 : Cond.instanceMethod yJ0_coder_7d493 ∈ xtb ∧ Cond.selects yJ0_coder_7d493.cls yJ0_coder_7d493 yJ0_coder_7d493 ∈ xtb := ⟨xtb_in (i := 732) (by decide +kernel) rfl, xtb_in (i := 733) (by decide +kernel) rfl⟩
theorem ar_J0_coder_7d493 : xar yJ0_coder_7d493 0 := by unfold xar; decide +kernel
theorem dJ0_isLatin1_aae02_0 : decode cJ0_isLatin1_aae02 0 = .ok (.getstatic 38, 3) := by decide +kernel
theorem dJ0_isLatin1_aae02_3 : decode cJ0_isLatin1_aae02 3 = .ok (.ifCond .eq 14, 3) := by decide +kernel
theorem dJ0_isLatin1_aae02_6 : decode cJ0_isLatin1_aae02 6 = .ok (.aload_n 0, 1) := by decide +kernel
theorem dJ0_isLatin1_aae02_7 : decode cJ0_isLatin1_aae02 7 = .ok (.getfield 15, 3) := by decide +kernel
theorem dJ0_isLatin1_aae02_10 : decode cJ0_isLatin1_aae02 10 = .ok (.ifCond .ne 7, 3) := by decide +kernel
theorem dJ0_isLatin1_aae02_13 : decode cJ0_isLatin1_aae02 13 = .ok (.iconst 1, 1) := by decide +kernel
theorem dJ0_isLatin1_aae02_14 : decode cJ0_isLatin1_aae02 14 = .ok (.goto 4, 3) := by decide +kernel
theorem dJ0_isLatin1_aae02_17 : decode cJ0_isLatin1_aae02 17 = .ok (.iconst 0, 1) := by decide +kernel
theorem dJ0_isLatin1_aae02_18 : decode cJ0_isLatin1_aae02 18 = .ok (.ireturn, 1) := by decide +kernel
theorem cy_J0_isLatin1_aae02 : xCy yJ0_isLatin1_aae02 cJ0_isLatin1_aae02 1 (some .boolean) := ⟨xtb_in (i := 744) (by decide +kernel) rfl, xtb_in (i := 166) (by decide +kernel) rfl, by decide +kernel, by decide +kernel⟩
theorem si_J0_isLatin1_aae02 : Cond.instanceMethod yJ0_isLatin1_aae02 ∈ xtb ∧ Cond.selects yJ0_isLatin1_aae02.cls yJ0_isLatin1_aae02 yJ0_isLatin1_aae02 ∈ xtb := ⟨xtb_in (i := 742) (by decide +kernel) rfl, xtb_in (i := 743) (by decide +kernel) rfl⟩
theorem ar_J0_isLatin1_aae02 : xar yJ0_isLatin1_aae02 0 := by unfold xar; decide +kernel
theorem dJ0_checkIndex_df160_0 : decode cJ0_checkIndex_df160 0 = .ok (.iload_n 0, 1) := by decide +kernel
theorem dJ0_checkIndex_df160_1 : decode cJ0_checkIndex_df160 1 = .ok (.iload_n 1, 1) := by decide +kernel
theorem dJ0_checkIndex_df160_2 : decode cJ0_checkIndex_df160 2 = .ok (.getstatic 1053, 3) := by decide +kernel
theorem dJ0_checkIndex_df160_5 : decode cJ0_checkIndex_df160 5 = .ok (.invokestatic 1059, 3) := by decide +kernel
theorem dJ0_checkIndex_df160_8 : decode cJ0_checkIndex_df160 8 = .ok (.pop, 1) := by decide +kernel
theorem dJ0_checkIndex_df160_9 : decode cJ0_checkIndex_df160 9 = .ok (.return_, 1) := by decide +kernel
theorem cy_J0_checkIndex_df160 : xCy yJ0_checkIndex_df160 cJ0_checkIndex_df160 2 none := ⟨xtb_in (i := 750) (by decide +kernel) rfl, xtb_in (i := 166) (by decide +kernel) rfl, by decide +kernel, by decide +kernel⟩
theorem ss_J0_checkIndex_df160 : Cond.static yJ0_checkIndex_df160 ∈ xtb := xtb_in (i := 749) (by decide +kernel) rfl
theorem ar_J0_checkIndex_df160 : xar yJ0_checkIndex_df160 2 := by unfold xar; decide +kernel
theorem dJ1_charAt_3b067_0 : decode cJ1_charAt_3b067 0 = .ok (.iload_n 1, 1) := by decide +kernel
theorem dJ1_charAt_3b067_1 : decode cJ1_charAt_3b067 1 = .ok (.aload_n 0, 1) := by decide +kernel
theorem dJ1_charAt_3b067_2 : decode cJ1_charAt_3b067 2 = .ok (.arraylength, 1) := by decide +kernel
theorem dJ1_charAt_3b067_3 : decode cJ1_charAt_3b067 3 = .ok (.invokestatic 9, 3) := by decide +kernel
theorem dJ1_charAt_3b067_6 : decode cJ1_charAt_3b067 6 = .ok (.aload_n 0, 1) := by decide +kernel
theorem dJ1_charAt_3b067_7 : decode cJ1_charAt_3b067 7 = .ok (.iload_n 1, 1) := by decide +kernel
theorem dJ1_charAt_3b067_8 : decode cJ1_charAt_3b067 8 = .ok (.baload, 1) := by decide +kernel
theorem dJ1_charAt_3b067_9 : decode cJ1_charAt_3b067 9 = .ok (.sipush 255, 3) := by decide +kernel
theorem dJ1_charAt_3b067_12 : decode cJ1_charAt_3b067 12 = .ok (.iand, 1) := by decide +kernel
theorem dJ1_charAt_3b067_13 : decode cJ1_charAt_3b067 13 = .ok (.i2c, 1) := by decide +kernel
theorem dJ1_charAt_3b067_14 : decode cJ1_charAt_3b067 14 = .ok (.ireturn, 1) := by decide +kernel
theorem cy_J1_charAt_3b067 : xCy yJ1_charAt_3b067 cJ1_charAt_3b067 2 (some .char) := ⟨xtb_in (i := 747) (by decide +kernel) rfl, xtb_in (i := 167) (by decide +kernel) rfl, by decide +kernel, by decide +kernel⟩
theorem ss_J1_charAt_3b067 : Cond.static yJ1_charAt_3b067 ∈ xtb := xtb_in (i := 746) (by decide +kernel) rfl
theorem ar_J1_charAt_3b067 : xar yJ1_charAt_3b067 2 := by unfold xar; decide +kernel
theorem dJ3_checkIndex_8e157_0 : decode cJ3_checkIndex_8e157 0 = .ok (.iload_n 0, 1) := by decide +kernel
theorem dJ3_checkIndex_8e157_1 : decode cJ3_checkIndex_8e157 1 = .ok (.ifCond .lt 8, 3) := by decide +kernel
theorem dJ3_checkIndex_8e157_4 : decode cJ3_checkIndex_8e157 4 = .ok (.iload_n 0, 1) := by decide +kernel
theorem dJ3_checkIndex_8e157_5 : decode cJ3_checkIndex_8e157 5 = .ok (.iload_n 1, 1) := by decide +kernel
theorem dJ3_checkIndex_8e157_6 : decode cJ3_checkIndex_8e157 6 = .ok (.if_icmp .lt 10, 3) := by decide +kernel
theorem dJ3_checkIndex_8e157_9 : decode cJ3_checkIndex_8e157 9 = .ok (.aload_n 2, 1) := by decide +kernel
theorem dJ3_checkIndex_8e157_10 : decode cJ3_checkIndex_8e157 10 = .ok (.iload_n 0, 1) := by decide +kernel
theorem dJ3_checkIndex_8e157_11 : decode cJ3_checkIndex_8e157 11 = .ok (.iload_n 1, 1) := by decide +kernel
theorem dJ3_checkIndex_8e157_12 : decode cJ3_checkIndex_8e157 12 = .ok (.invokestatic 95, 3) := by decide +kernel
theorem dJ3_checkIndex_8e157_15 : decode cJ3_checkIndex_8e157 15 = .ok (.athrow, 1) := by decide +kernel
theorem dJ3_checkIndex_8e157_16 : decode cJ3_checkIndex_8e157 16 = .ok (.iload_n 0, 1) := by decide +kernel
theorem dJ3_checkIndex_8e157_17 : decode cJ3_checkIndex_8e157 17 = .ok (.ireturn, 1) := by decide +kernel
theorem cy_J3_checkIndex_8e157 : xCy yJ3_checkIndex_8e157 cJ3_checkIndex_8e157 3 (some .int) := ⟨xtb_in (i := 755) (by decide +kernel) rfl, xtb_in (i := 168) (by decide +kernel) rfl, by decide +kernel, by decide +kernel⟩
theorem ss_J3_checkIndex_8e157 : Cond.static yJ3_checkIndex_8e157 ∈ xtb := xtb_in (i := 754) (by decide +kernel) rfl
theorem ar_J3_checkIndex_8e157 : xar yJ3_checkIndex_8e157 3 := by unfold xar; decide +kernel
theorem xfl38 : Cond.fieldLink "java/lang/String" 38 "java/lang/String" "COMPACT_STRINGS" "Z" ∈ xtb := xtb_in (i := 735) (by decide +kernel) rfl
theorem xfl1053 : Cond.fieldLink "java/lang/String" 1053 "jdk/internal/util/Preconditions" "SIOOBE_FORMATTER" "Ljava/util/function/BiFunction;" ∈ xtb := xtb_in (i := 751) (by decide +kernel) rfl
theorem xfl9 : Cond.fieldLink "java/lang/String" 9 "java/lang/String" "value" "[B" ∈ xtb := xtb_in (i := 2275) (by decide +kernel) rfl
theorem xfl15 : Cond.fieldLink "java/lang/String" 15 "java/lang/String" "coder" "B" ∈ xtb := xtb_in (i := 2276) (by decide +kernel) rfl
/-- the one text and the JDK's statics, at a heap -/
def xs0 (qK qV : Nat) (fz : Value) (U : State) : Prop := vk_S 1 [144] [xSb] (fun _ => qK) (fun _ => qV) (fun _ => False) U U.heap ∧ va_Z "java/lang/String" "COMPACT_STRINGS" "Z" (.int 1) (fun _ => False) U U.heap ∧ va_Z "jdk/internal/util/Preconditions" "SIOOBE_FORMATTER" "Ljava/util/function/BiFunction;" fz (fun _ => False) U U.heap
def xsM (l : Launch) (d : Nat) (y : MethodName) (c : ByteArray) (nL : Nat) (rt : Option FieldType) (as : List Value) (qK qV : Nat) (fz : Value) (v : Option Value) : Prop := Met l y (xW y c nL rt) (xrm d) (va_Pc as (xs0 qK qV fz)) (fun _ st o t => o = .returned v ∧ t.heap = st.heap) 0 0 (fun _ => False)
theorem xs0.calling {qK qV : Nat} {fz : Value} {U : State} (h : xs0 qK qV fz U) (g : JFrame) (mk : MethodId) (a : Array Value) : xs0 qK qV fz (U.calling g mk a) := by
  have hal : U.vm.Alike (U.calling g mk a).vm := Vm.Alike.refl U.vm
  exact ⟨vk_S.moved (u := U) hal h.1, va_Z.moved (u := U) hal h.2.1, va_Z.moved (u := U) hal h.2.2⟩
theorem xs0.to {qK qV : Nat} {fz : Value} {s U : State} (h : xs0 qK qV fz s) (hU : U.heap = s.heap) (hW : s.WarmedH U.vm) : xs0 qK qV fz U := by
  unfold xs0
  rw [hU]
  exact ⟨vk_S.moved hW.alike h.1, va_Z.moved hW.alike h.2.1, va_Z.moved hW.alike h.2.2⟩
section XSTR
variable {p : Program} {l : Launch} {e : Env} {s : State} {m : MethodId} {args : Array Value} {below : List Frame} {meth : Method} {c : Code} {Q : State → Prop} {cc : ByteArray} {nL d d' n pc idx : Nat} {own : String} {y : MethodName} {c' : ByteArray} {nL' : Nat} {rt' : Option FieldType} {as rest : List Value} {qK qV : Nat} {fz : Value} {v : Option Value} {ls : Array Slot} {R : Room} {H : Heap} {locs : List Loc}
theorem xs_back {st0 : List Value} (hr : va_Run p l e R s m args below meth c H locs 0 0 0 0 (F0 m pc ls st0) rest (fun st o t => o = .returned v ∧ t.heap = st.heap) (fun _ => False)) (k : W p l e R s m args below meth c H locs 0 0 Q (F0 m (pc + 3) ls (v.toList ++ rest))) : W p l e R s m args below meth c H locs 0 0 Q (F0 m pc ls st0) := by
  intro T hT X
  obtain ⟨w, st₀, t, T', L2, h0, X', hL, e1, e2, ⟨hv, hh⟩, st⟩ := hr T hT X
  cases hv
  obtain ⟨t2, a1, b1⟩ := k T' (by rw [e1, hh, h0]) (Stand.forget X' (fun q h => (hL q h).elim))
  exact ⟨t2, st t2 a1, b1⟩
theorem xs_blind : FrameBlind (va_Pc as (xs0 qK qV fz)) := fun a U g mk h => ⟨h.1, h.2.calling g mk a⟩
theorem xs_sig (hn : xar y n) : ∀ sig, parseMethodDescriptor y.desc = some sig → n = sig.parameters.length := fun sig h => by
  have h2 := hn
  unfold xar at h2
  rw [h] at h2
  exact (Option.some.inj h2).symm
theorem xs_callS (hx : p.tables.exec = Jvm.exec) (hb : c.code = cc) (hml : c.maxLocals = nL) (hown : s.vm.findClass own = some m.cls) (hts : ∀ w ∈ xtb, w.before args s = true) (lk : Cond.methodLink own idx y ∈ xtb) (cy : xCy y c' nL' rt') (hst : Cond.static y ∈ xtb) (hn : xar y n) (hM : xsM l d' y c' nL' rt' as qK qV fz v) (hd : d' + 1 ≤ d) (hnL : nL' ≤ 45) (hpre : ∀ U : State, U.heap = H → s.WarmedH U.vm → xs0 qK qV fz U) (hlen : as.length = n) (hsz : ls.size = nL) (hw : (rest.map fun v => v.category).sum ≤ 8) (hdg : decode cc pc = .ok (.invokestatic idx, 3)) (k : W p l e (xrm d) s m args below meth c H locs 0 0 Q (F0 m (pc + 3) ls (v.toList ++ rest))) : W p l e (xrm d) s m args below meth c H locs 0 0 Q (F0 m pc ls (as.reverse ++ rest)) := by
  have hroom := xroom hd hnL
  exact xs_back (va_runS (Ts := xtb) ⟨hx, hb, hml, hown, hts⟩ hM ⟨⟨rfl, rfl, hroom.1, hroom.2, xpayW cy hts, List.mem_cons_self, hts _ cy.1, hts _ cy.2.1, cy.2.2.1, xs_sig hn, hts _ lk⟩, hts _ hst⟩ ⟨xs_blind, fun U hU hW => ⟨rfl, hpre U hU hW⟩⟩ rfl hlen hsz rfl (lv_room hw) hdg ⟨Nat.le_refl _, Nat.le_refl _⟩) k
theorem xs_callV {b : Nat} (hx : p.tables.exec = Jvm.exec) (hb : c.code = cc) (hml : c.maxLocals = nL) (hown : s.vm.findClass own = some m.cls) (hts : ∀ w ∈ xtb, w.before args s = true) (lk : Cond.methodLink own idx y ∈ xtb) (cy : xCy y c' nL' rt') (hst : Cond.instanceMethod y ∈ xtb ∧ Cond.selects y.cls y y ∈ xtb) (hn : xar y n) (hM : xsM l d' y c' nL' rt' (.ref b :: as) qK qV fz v) (hd : d' + 1 ≤ d) (hnL : nL' ≤ 45) (hpre : ∀ U : State, U.heap = H → s.WarmedH U.vm → xs0 qK qV fz U) (hrv : ∃ cellB : Cell, H[b]? = some cellB ∧ cellB.vm.isStatics = false ∧ s.vm.findClass y.cls = some cellB.cls) (hlen : as.length = n) (hsz : ls.size = nL) (hw : (rest.map fun v => v.category).sum ≤ 8) (hdg : decode cc pc = .ok (.invokevirtual idx, 3)) (k : W p l e (xrm d) s m args below meth c H locs 0 0 Q (F0 m (pc + 3) ls (v.toList ++ rest))) : W p l e (xrm d) s m args below meth c H locs 0 0 Q (F0 m pc ls (as.reverse ++ .ref b :: rest)) := by
  have hroom := xroom hd hnL
  exact xs_back (va_runV (C := y.cls) (b := b) (As := as) (Ts := xtb) ⟨hx, hb, hml, hown, hts⟩ hM ⟨⟨rfl, rfl, hroom.1, hroom.2, xpayW cy hts, List.mem_cons_self, hts _ cy.1, hts _ cy.2.1, cy.2.2.1, xs_sig hn, hts _ lk⟩, hts _ hst.1, hts _ hst.2⟩ ⟨xs_blind, hrv, fun U hU hW => ⟨rfl, hpre U hU hW⟩⟩ rfl hlen hsz rfl (lv_room hw) hdg ⟨Nat.le_refl _, Nat.le_refl _⟩) k
/-- how such a walk begins -/
theorem xsM_of {rt : Option FieldType} (cy : xCy y cc nL rt) (lv : List (Nat × Value)) (hlv : lv_args 0 as = lv) (hlen : (lg_sl as).length ≤ nL) (body : ∀ (p : Program) (e : Env) (s : State) (m : MethodId) (args : Array Value) (below : List Frame) (meth : Method) (c : Code) (ls : Array Slot), p.tables.exec = Jvm.exec → c.code = cc → c.maxLocals = nL → s.vm.findClass y.cls = some m.cls → (∀ w ∈ xtb, w.before args s = true) → meth.sig.returnType = rt → meth.locks = false → xs0 qK qV fz s → lv_has ls nL lv → W p l e (xrm d) s m args below meth c s.heap [] 0 0 (MQ below (fun _ st o t => o = .returned v ∧ t.heap = st.heap) args s 0 0 (fun _ => False)) (F0 m 0 ls [])) : xsM l d y cc nL rt as qK qV fz v := by
  refine xMet_ofW (cc := cc) (maxL := nL) (ret := rt) cy.2.2.2 rfl ?_
  intro p e s m args below meth c0 s₁ B hml hv
  obtain ⟨rfl, hE⟩ := hv
  have hts := atoms_spec (ws := xW y cc nL rt) B.pre
  rw [lg_entry_eq]
  have hl := lv_entry as hlen
  rw [hlv] at hl
  exact body p e s m _ below meth c0 _ B.exec B.bytes hml (findClass_of_methodNamed B.named) (fun w hw => hts w (List.mem_cons_of_mem _ hw)) B.returns B.notSynchronized hE hl
end XSTR
theorem xsv_pre (l : Launch) (qK qV : Nat) (fz : Value) (hfz : fz = .null ∨ ∃ a : Nat, fz = .ref a) (i : Nat) (hi : i < 144) : xsM l 0 yJ3_checkIndex_8e157 cJ3_checkIndex_8e157 3 (some .int) [.int (nI i), .int 144, fz] qK qV fz (some (.int (nI i))) := by
  refine xsM_of cy_J3_checkIndex_8e157 [(0, .int (nI i)), (1, .int 144), (2, fz)] (by rcases hfz with rfl | ⟨a, rfl⟩ <;> rfl) (by rcases hfz with rfl | ⟨a, rfl⟩ <;> exact Nat.le_of_ble_eq_true rfl) ?_
  intro p e s m args below meth c ls hx hb hml hown hts hr hlk hE hl
  refine lv_iload_n hx hb dJ3_checkIndex_8e157_0 rfl (lv_at hl 0 rfl) ?_
  refine lv_if_lt (tgt := 9) hx hb dJ3_checkIndex_8e157_1 (by decide) (fun h => absurd h (nI_pos (by omega))) (fun _ => ?_)
  refine lv_iload_n hx hb dJ3_checkIndex_8e157_4 rfl (lv_at hl 0 rfl) ?_
  refine lv_iload_n hx hb dJ3_checkIndex_8e157_5 rfl (lv_at hl 1 rfl) ?_
  refine lv_icmp_lt (tgt := 16) hx hb dJ3_checkIndex_8e157_6 (by decide) (fun _ => ?_) (fun h => absurd (nI_lt hi (by decide)) h)
  refine lv_iload_n hx hb dJ3_checkIndex_8e157_16 rfl (lv_at hl 0 rfl) ?_
  exact W.iret hx hb hr (fun t ht hW => ⟨rfl, ht⟩) (fun q h => by cases h) dJ3_checkIndex_8e157_17 hlk
theorem xsv_chk (l : Launch) (qK qV : Nat) (fz : Value) (hfz : fz = .null ∨ ∃ a : Nat, fz = .ref a) (i : Nat) (hi : i < 144) : xsM l 1 yJ0_checkIndex_df160 cJ0_checkIndex_df160 2 none [.int (nI i), .int 144] qK qV fz none := by
  refine xsM_of cy_J0_checkIndex_df160 [(0, .int (nI i)), (1, .int 144)] rfl (Nat.le_of_ble_eq_true rfl) ?_
  intro p e s m args below meth c ls hx hb hml hown hts hr hlk hE hl
  refine lv_iload_n hx hb dJ0_checkIndex_df160_0 rfl (lv_at hl 0 rfl) ?_
  refine lv_iload_n hx hb dJ0_checkIndex_df160_1 rfl (lv_at hl 1 rfl) ?_
  refine va_gets (ref := "jdk/internal/util/Preconditions") hx hb hE.2.2 va_S.rf hown (hts _ xfl1053) (fun _ h => h) dJ0_checkIndex_df160_2 ?_
  refine xs_callS (rest := []) (as := [.int (nI i), .int 144, fz]) hx hb hml hown hts (xtb_in (i := 753) (by decide +kernel) rfl) cy_J3_checkIndex_8e157 ss_J3_checkIndex_8e157 ar_J3_checkIndex_8e157 (xsv_pre l qK qV fz hfz i hi) (by decide) (by decide) (fun U hU hW => hE.to hU hW) rfl hl.1 (by decide) dJ0_checkIndex_df160_5 ?_
  refine lv_pop hx hb dJ0_checkIndex_df160_8 rfl ?_
  exact W.vret hx hb hr (fun t ht hW => ⟨rfl, ht⟩) (fun q h => by cases h) dJ0_checkIndex_df160_9 hlk
theorem xSb_255 : ∀ j : Nat, j < 144 → ((xSb.getD j 0 &&& 255).toUInt32 % 65536).toInt32 = xSb.getD j 0 ∧ vp_nar .char (xSb.getD j 0) = xSb.getD j 0 := by decide +kernel
theorem xsT {x : List Int32} {qV : Nat} {A : Nat → Prop} {U : State} {H : Heap} (h : va_T .byte qV (([144] : List Nat).getD 0 0) (fun j => Value.int ((([x] : List (List Int32)).getD 0 []).getD j 0)) A U H) : va_T .byte qV 144 (fun j => .int (x.getD j 0)) A U H := h
theorem xsv_l1 (l : Launch) (qK qV : Nat) (fz : Value) (hfz : fz = .null ∨ ∃ a : Nat, fz = .ref a) (i : Nat) (hi : i < 144) : xsM l 2 yJ1_charAt_3b067 cJ1_charAt_3b067 2 (some .char) [.ref qV, .int (nI i)] qK qV fz (some (.int (xow (nI i)))) := by
  refine xsM_of cy_J1_charAt_3b067 [(0, .ref qV), (1, .int (nI i))] rfl (Nat.le_of_ble_eq_true rfl) ?_
  intro p e s m args below meth c ls hx hb hml hown hts hr hlk hE hl
  have hT := (hE.1.1 0 (by decide)).2.2.2
  have hw : xow (nI i) = xSb.getD i 0 := by unfold xow; rw [nI_clamp (by omega)]
  have h255 := xSb_255 i hi
  refine lv_iload_n hx hb dJ1_charAt_3b067_0 rfl (lv_at hl 1 rfl) ?_
  refine lv_aload_n hx hb dJ1_charAt_3b067_1 rfl (lv_at hl 0 rfl) ?_
  refine va_tlen (v := 144) hx hb hT va_S.rf rfl dJ1_charAt_3b067_2 ?_
  refine xs_callS (rest := []) (as := [.int (nI i), .int 144]) hx hb hml hown hts (xtb_in (i := 748) (by decide +kernel) rfl) cy_J0_checkIndex_df160 ss_J0_checkIndex_df160 ar_J0_checkIndex_df160 (xsv_chk l qK qV fz hfz i hi) (by decide) (by decide) (fun U hU hW => hE.to hU hW) rfl hl.1 (by decide) dJ1_charAt_3b067_3 ?_
  refine lv_aload_n hx hb dJ1_charAt_3b067_6 rfl (lv_at hl 0 rfl) ?_
  refine lv_iload_n hx hb dJ1_charAt_3b067_7 rfl (lv_at hl 1 rfl) ?_
  have hT9 : va_T .byte qV 144 (fun j => .int (xSb.getD j 0)) (fun _ => False) s s.heap := xsT (x := xSb) hT
  refine va_tb (v := .int (xSb.getD i 0)) hx hb hT9 va_S.rf (vp_in_nI hi (by decide)) (congrArg (fun j => Value.int (xSb.getD j 0)) (nI_clamp (by omega))) dJ1_charAt_3b067_8 ?_
  refine lv_sipush (v := 255) hx hb dJ1_charAt_3b067_9 (by decide) ?_
  refine lv_iand hx hb dJ1_charAt_3b067_12 ?_
  refine lv_i2c (v := xow (nI i)) hx hb dJ1_charAt_3b067_13 (by rw [hw]; exact h255.1) ?_
  exact W.zret hx hb hr (by rw [hw]; exact congrArg Value.int h255.2) (fun t ht hW => ⟨rfl, ht⟩) (fun q h => by cases h) dJ1_charAt_3b067_14 hlk
theorem xsv_lat (l : Launch) (qK qV : Nat) (fz : Value) : xsM l 0 yJ0_isLatin1_aae02 cJ0_isLatin1_aae02 1 (some .boolean) [.ref qK] qK qV fz (some (.int 1)) := by
  refine xsM_of cy_J0_isLatin1_aae02 [(0, .ref qK)] rfl (Nat.le_of_ble_eq_true rfl) ?_
  intro p e s m args below meth c ls hx hb hml hown hts hr hlk hE hl
  refine va_gets (ref := "java/lang/String") hx hb hE.2.1 va_S.rf hown (hts _ xfl38) (fun _ h => h) dJ0_isLatin1_aae02_0 ?_
  refine lv_if_eq (tgt := 17) hx hb dJ0_isLatin1_aae02_3 (by decide) (fun h => absurd h (by decide)) (fun _ => ?_)
  refine lv_aload_n hx hb dJ0_isLatin1_aae02_6 rfl (lv_at hl 0 rfl) ?_
  refine vk_getf (ref := "java/lang/String") hx hb (hE.1.1 0 (by decide)).2.1 va_S.rf hown (hts _ xfl15) (fun _ h => h) dJ0_isLatin1_aae02_7 ?_
  refine lv_if_ne (tgt := 17) hx hb dJ0_isLatin1_aae02_10 (by decide) (fun h => absurd rfl h) (fun _ => ?_)
  refine lv_iconst (v := 1) hx hb dJ0_isLatin1_aae02_13 (by decide) ?_
  refine lv_goto (tgt := 18) hx hb dJ0_isLatin1_aae02_14 (by decide) ?_
  exact W.zret hx hb hr rfl (fun t ht hW => ⟨rfl, ht⟩) (fun q h => by cases h) dJ0_isLatin1_aae02_18 hlk
theorem xsv_cod (l : Launch) (qK qV : Nat) (fz : Value) : xsM l 0 yJ0_coder_7d493 cJ0_coder_7d493 1 (some .byte) [.ref qK] qK qV fz (some (.int 0)) := by
  refine xsM_of cy_J0_coder_7d493 [(0, .ref qK)] rfl (Nat.le_of_ble_eq_true rfl) ?_
  intro p e s m args below meth c ls hx hb hml hown hts hr hlk hE hl
  refine va_gets (ref := "java/lang/String") hx hb hE.2.1 va_S.rf hown (hts _ xfl38) (fun _ h => h) dJ0_coder_7d493_0 ?_
  refine lv_if_eq (tgt := 13) hx hb dJ0_coder_7d493_3 (by decide) (fun h => absurd h (by decide)) (fun _ => ?_)
  refine lv_aload_n hx hb dJ0_coder_7d493_6 rfl (lv_at hl 0 rfl) ?_
  refine vk_getf (ref := "java/lang/String") hx hb (hE.1.1 0 (by decide)).2.1 va_S.rf hown (hts _ xfl15) (fun _ h => h) dJ0_coder_7d493_7 ?_
  refine lv_goto (tgt := 14) hx hb dJ0_coder_7d493_10 (by decide) ?_
  exact W.zret hx hb hr rfl (fun t ht hW => ⟨rfl, ht⟩) (fun q h => by cases h) dJ0_coder_7d493_14 hlk
theorem xsv_len (l : Launch) (qK qV : Nat) (fz : Value) : xsM l 1 yJ0_length_8abf5 cJ0_length_8abf5 1 (some .int) [.ref qK] qK qV fz (some (.int 144)) := by
  refine xsM_of cy_J0_length_8abf5 [(0, .ref qK)] rfl (Nat.le_of_ble_eq_true rfl) ?_
  intro p e s m args below meth c ls hx hb hml hown hts hr hlk hE hl
  have hT := (hE.1.1 0 (by decide)).2.2.2
  refine lv_aload_n hx hb dJ0_length_8abf5_0 rfl (lv_at hl 0 rfl) ?_
  refine vk_getf (ref := "java/lang/String") hx hb (hE.1.1 0 (by decide)).2.2.1 va_S.rf hown (hts _ xfl9) (fun _ h => h) dJ0_length_8abf5_1 ?_
  refine va_tlen (v := 144) hx hb hT va_S.rf rfl dJ0_length_8abf5_4 ?_
  refine lv_aload_n hx hb dJ0_length_8abf5_5 rfl (lv_at hl 0 rfl) ?_
  refine xs_callV (rest := [.int 144]) (as := []) hx hb hml hown hts (xtb_in (i := 731) (by decide +kernel) rfl) cy_J0_coder_7d493 si_J0_coder_7d493 ar_J0_coder_7d493 (xsv_cod l qK qV fz) (by decide) (by decide) (fun U hU hW => hE.to hU hW) (vk_recv hE.1 (i := 0) (by decide) va_S.rf) rfl hl.1 (by decide) dJ0_length_8abf5_6 ?_
  refine lv_ishr hx hb dJ0_length_8abf5_9 ?_
  exact W.iret (v := 144) hx hb hr (fun t ht hW => ⟨rfl, ht⟩) (fun q h => by cases h) dJ0_length_8abf5_10 hlk
theorem xsv_chr (l : Launch) (qK qV : Nat) (fz : Value) (hfz : fz = .null ∨ ∃ a : Nat, fz = .ref a) (i : Nat) (hi : i < 144) : xsM l 3 yJ0_charAt_5068e cJ0_charAt_5068e 2 (some .char) [.ref qK, .int (nI i)] qK qV fz (some (.int (xow (nI i)))) := by
  refine xsM_of cy_J0_charAt_5068e [(0, .ref qK), (1, .int (nI i))] rfl (Nat.le_of_ble_eq_true rfl) ?_
  intro p e s m args below meth c ls hx hb hml hown hts hr hlk hE hl
  have hw : xow (nI i) = xSb.getD i 0 := by unfold xow; rw [nI_clamp (by omega)]
  refine lv_aload_n hx hb dJ0_charAt_5068e_0 rfl (lv_at hl 0 rfl) ?_
  refine xs_callV (rest := []) (as := []) hx hb hml hown hts (xtb_in (i := 741) (by decide +kernel) rfl) cy_J0_isLatin1_aae02 si_J0_isLatin1_aae02 ar_J0_isLatin1_aae02 (xsv_lat l qK qV fz) (by decide) (by decide) (fun U hU hW => hE.to hU hW) (vk_recv hE.1 (i := 0) (by decide) va_S.rf) rfl hl.1 (by decide) dJ0_charAt_5068e_1 ?_
  refine lv_if_eq (tgt := 16) hx hb dJ0_charAt_5068e_4 (by decide) (fun h => absurd h (by decide)) (fun _ => ?_)
  refine lv_aload_n hx hb dJ0_charAt_5068e_7 rfl (lv_at hl 0 rfl) ?_
  refine vk_getf (ref := "java/lang/String") hx hb (hE.1.1 0 (by decide)).2.2.1 va_S.rf hown (hts _ xfl9) (fun _ h => h) dJ0_charAt_5068e_8 ?_
  refine lv_iload_n hx hb dJ0_charAt_5068e_11 rfl (lv_at hl 1 rfl) ?_
  refine xs_callS (rest := []) (as := [.ref qV, .int (nI i)]) hx hb hml hown hts (xtb_in (i := 745) (by decide +kernel) rfl) cy_J1_charAt_3b067 ss_J1_charAt_3b067 ar_J1_charAt_3b067 (xsv_l1 l qK qV fz hfz i hi) (by decide) (by decide) (fun U hU hW => hE.to hU hW) rfl hl.1 (by decide) dJ0_charAt_5068e_12 ?_
  exact W.zret hx hb hr (by rw [hw]; exact congrArg Value.int (xSb_255 i hi).2) (fun t ht hW => ⟨rfl, ht⟩) (fun q h => by cases h) dJ0_charAt_5068e_15 hlk
section XSTR2
variable {l : Launch} {cc : ByteArray} {nL : Nat} {own : String} {rt : Option FieldType} {d : Nat} {X : xCtx} {tb : xTb} {P : xPg} {pc : Nat} {L : xLo} {S : List Value} {C : xC} {r : xRes}
/-- the constant's length, as the class asks for it -/
theorem xR_strlen (K : xY l cc nL RX8 rt d X) (hP : xPq RX8 cc tb P) (hd : decode cc pc = .ok (.ldc 106, 2)) (ha : xat P (pc + 2) = some (.invokevirtual 108, .null)) (hw : (S.map fun v => v.category).sum ≤ 8) (hdd : 5 ≤ d) (k : xR X r (pc + 5) L (.int 144 :: S) C) : xR X r pc L S C := by
  have hP := K.P hP
  obtain ⟨K, hq9, hl9⟩ := K
  obtain ⟨⟨p, l, e, s⟩, ⟨m, args, below⟩, ⟨meth, c⟩, ⟨dd, tc, ad, A⟩, cc, nL, own, rt, d⟩ := X
  obtain ⟨hx, hb, hml, hown, hts, hr, hlk, hK⟩ := K
  obtain ⟨hT, hPk⟩ := hP
  obtain ⟨hdg, hv⟩ := hPk _ (xat_ok ha)
  cases hq9
  have hl9 : l = _ := hl9
  subst hl9
  intro v9 C9 hr9 H locs ls hl hP0 hD hS
  obtain ⟨hK1, hK2, ⟨qK, qV, h3, h4⟩, h5, z, hz, h6⟩ := hK
  refine va_ldcS hx hb hown h4 hd ?_
  have hE : ∀ U : State, U.heap = H → s.WarmedH U.vm → xs0 qK qV z U := fun U hU hW => by
    unfold xs0
    rw [hU]
    exact ⟨((vk_S.moved hW.alike h3).kept hS.2.1).narrow (fun _ h => h.elim), ((va_Z.moved hW.alike h5).kept hS.2.1).narrow (fun _ h => h.elim), ((va_Z.moved hW.alike h6).kept hS.2.1).narrow (fun _ h => h.elim)⟩
  exact xs_callV (rest := S.map (xcv ad)) (as := []) hx hb hml hown hts (xtb_in (i := 727) (by decide +kernel) rfl) cy_J0_length_8abf5 si_J0_length_8abf5 ar_J0_length_8abf5 (xsv_len _ qK qV z) (by omega) (by decide) hE (vk_recv h3 (i := 0) (by decide) hS) rfl hl.1 (by rw [xcat_map]; exact hw) hdg (k v9 C9 hr9 H locs ls hl hP0 hD hS)
/-- a letter of the constant, as the class asks for it -/
theorem xR_strch (K : xY l cc nL RX8 rt d X) (hP : xPq RX8 cc tb P) (hd : decode cc pc = .ok (.ldc 106, 2)) {x : Int32} {sl : Nat} (hi : vp_in x 144) (ha0 : xat P (pc + 2) = some (.iload sl, .null)) (hl0 : L[sl]? = some (some (.int x))) (ha : xat P (pc + 4) = some (.invokevirtual 114, .null)) (hw : (S.map fun v => v.category).sum ≤ 8) (hdd : 5 ≤ d) (k : xR X r (pc + 7) L (.int (xow x) :: S) C) : xR X r pc L S C := by
  have hP := K.P hP
  obtain ⟨K, hq9, hl9⟩ := K
  obtain ⟨⟨p, l, e, s⟩, ⟨m, args, below⟩, ⟨meth, c⟩, ⟨dd, tc, ad, A⟩, cc, nL, own, rt, d⟩ := X
  obtain ⟨hx, hb, hml, hown, hts, hr, hlk, hK⟩ := K
  obtain ⟨hT, hPk⟩ := hP
  obtain ⟨hdg, hv⟩ := hPk _ (xat_ok ha)
  obtain ⟨hdg0, -⟩ := hPk _ (xat_ok ha0)
  cases hq9
  have hl9 : l = _ := hl9
  subst hl9
  intro v9 C9 hr9 H locs ls hl hP0 hD hS
  obtain ⟨hK1, hK2, ⟨qK, qV, h3, h4⟩, h5, z, hz, h6⟩ := hK
  obtain ⟨j, hj, rfl⟩ := vp_in_of hi (by decide)
  refine va_ldcS hx hb hown h4 hd ?_
  refine lv_iload hx hb hdg0 (hl.at hl0) ?_
  have hE : ∀ U : State, U.heap = H → s.WarmedH U.vm → xs0 qK qV z U := fun U hU hW => by
    unfold xs0
    rw [hU]
    exact ⟨((vk_S.moved hW.alike h3).kept hS.2.1).narrow (fun _ h => h.elim), ((va_Z.moved hW.alike h5).kept hS.2.1).narrow (fun _ h => h.elim), ((va_Z.moved hW.alike h6).kept hS.2.1).narrow (fun _ h => h.elim)⟩
  exact xs_callV (rest := S.map (xcv ad)) (as := [.int (nI j)]) hx hb hml hown hts (xtb_in (i := 737) (by decide +kernel) rfl) cy_J0_charAt_5068e si_J0_charAt_5068e ar_J0_charAt_5068e (xsv_chr _ qK qV z hz j hj) (by omega) (by decide) hE (vk_recv h3 (i := 0) (by decide) hS) rfl hl.1 (by rw [xcat_map]; exact hw) hdg (k v9 C9 hr9 H locs ls hl hP0 hD hS)
end XSTR2

