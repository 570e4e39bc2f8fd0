/-! each op is what the machine does -/
section XS
variable {p : Program} {l : Launch} {e : Env} {R : Room} {s : State} {m : MethodId} {args : Array Value} {below : List Frame} {meth : Method} {c : Code} {H : Heap} {locs : List Loc} {cells slots : Nat} {Q : State → Prop}
variable {cc : ByteArray} {pc : Nat} {ls : Array Slot} {own : String} {tb : xTb} {ad : Nat → Nat} {nL : Nat} {L : xLo} {S : List Value} {I : Instr} {v : Value}
theorem xs_const (hx : p.tables.exec = Jvm.exec) (hb : c.code = cc) (hown : s.vm.findClass own = some m.cls) (hts : ∀ w ∈ xtb, w.before args s = true) (hT : xTab own tb) {i : Nat} (hv : (xcl0 tb.2 i).filter xki = some v) (hI : I = .ldc i ∨ I = .ldc_w i) (hd : decode cc pc = .ok (I, xlen I)) (k : W p l e R s m args below meth c H locs cells slots Q (F0 m (pc + xlen I) ls (xcv ad v :: S.map (xcv ad)))) : W p l e R s m args below meth c H locs cells slots Q (F0 m pc ls (S.map (xcv ad))) := by
  obtain ⟨hv, hi⟩ := Option.filter_eq_some_iff.mp hv
  obtain ⟨z, hz⟩ := xcl0_ok hv
  rcases hT.2 _ hz with ⟨x, hx1, hx2⟩ | ⟨x, hx1, hx2⟩
  · have hx1 : v = .int x := hx1
    subst hx1
    rcases hI with rfl | rfl
    · exact lv_ldc hx hb hown (hts _ hx2) hd k
    · exact lv_ldcw hx hb hown (hts _ hx2) hd k
  · have hx1 : v = .long x := hx1
    subst hx1
    cases hi
theorem xs_const2 (hx : p.tables.exec = Jvm.exec) (hb : c.code = cc) (hown : s.vm.findClass own = some m.cls) (hts : ∀ w ∈ xtb, w.before args s = true) (hT : xTab own tb) {i : Nat} (hv : (xcl0 tb.2 i).filter xkl = some v) (hd : decode cc pc = .ok (.ldc2_w i, 3)) (k : W p l e R s m args below meth c H locs cells slots Q (F0 m (pc + 3) ls (xcv ad v :: S.map (xcv ad)))) : W p l e R s m args below meth c H locs cells slots Q (F0 m pc ls (S.map (xcv ad))) := by
  obtain ⟨hv, hi⟩ := Option.filter_eq_some_iff.mp hv
  obtain ⟨z, hz⟩ := xcl0_ok hv
  rcases hT.2 _ hz with ⟨x, hx1, hx2⟩ | ⟨x, hx1, hx2⟩
  · have hx1 : v = .int x := hx1
    subst hx1
    cases hi
  · have hx1 : v = .long x := hx1
    subst hx1
    exact lv_ldc2 hx hb hown (hts _ hx2) hd k
theorem xs_op2 {S' : List Value} (hx : p.tables.exec = Jvm.exec) (hb : c.code = cc) (h : xop2 I S = some S') (hd : decode cc pc = .ok (I, xlen I)) (k : W p l e R s m args below meth c H locs cells slots Q (F0 m (pc + xlen I) ls (S'.map (xcv ad)))) : W p l e R s m args below meth c H locs cells slots Q (F0 m pc ls (S.map (xcv ad))) := by
  unfold xop2 at h
  split at h
  · cases h; exact lv_iadd hx hb hd k
  · cases h; exact lv_isub hx hb hd k
  · cases h; exact lv_imul hx hb hd k
  · cases h; exact lv_iand hx hb hd k
  · cases h; exact lv_ior hx hb hd k
  · cases h; exact lv_ixor hx hb hd k
  · cases h; exact lv_ishl hx hb hd k
  · cases h; exact lv_ishr hx hb hd k
  · cases h; exact lv_iushr hx hb hd rfl k
  · cases h; exact lv_i2l hx hb hd rfl k
  · cases h
theorem xs_op3 {S' : List Value} (hx : p.tables.exec = Jvm.exec) (hb : c.code = cc) (h : xop3 I S = some S') (hd : decode cc pc = .ok (I, xlen I)) (k : W p l e R s m args below meth c H locs cells slots Q (F0 m (pc + xlen I) ls (S'.map (xcv ad)))) : W p l e R s m args below meth c H locs cells slots Q (F0 m pc ls (S.map (xcv ad))) := by
  unfold xop3 at h
  split at h
  · cases h; exact lv_ladd hx hb hd k
  · cases h; exact lv_lsub hx hb hd k
  · cases h; exact lv_lmul hx hb hd k
  · cases h; exact lv_land hx hb hd k
  · cases h; exact lv_lor hx hb hd k
  · cases h; exact lv_lxor hx hb hd k
  · cases h; exact lv_lneg hx hb hd k
  · cases h; exact lv_lshl hx hb hd rfl k
  · cases h; exact lv_lshr hx hb hd rfl k
  · cases h; exact lv_lushr hx hb hd rfl k
  · cases h; exact lv_l2i hx hb hd rfl k
  · cases h; exact W.lcmp hx hb hd k
  · cases h
theorem xc1_cat {w : Value} (h : xc1 w = true) : (xcv ad w).category = 1 := by
  cases w <;> first | rfl | (simp [xc1] at h)
theorem xs_op4 {S' : List Value} (hx : p.tables.exec = Jvm.exec) (hb : c.code = cc) (h : xop4 I S = some S') (hd : decode cc pc = .ok (I, xlen I)) (k : W p l e R s m args below meth c H locs cells slots Q (F0 m (pc + xlen I) ls (S'.map (xcv ad)))) : W p l e R s m args below meth c H locs cells slots Q (F0 m pc ls (S.map (xcv ad))) := by
  unfold xop4 at h
  split at h
  · split at h
    · rename_i h1
      cases h; exact lv_dup hx hb hd (xc1_cat h1) k
    · cases h
  · split at h
    · rename_i h1
      cases h; exact lv_pop hx hb hd (xc1_cat h1) k
    · cases h
  · split at h
    · rename_i h1
      cases h; exact lv_dup2_11 hx hb hd (xc1_cat h1.1) (xc1_cat h1.2) k
    · cases h
  · cases h
theorem xs_ldi {S' : List Value} {i : Nat} (hl : xlo ad ls nL L) (h : xldi L i S = some S') : ∃ x : Int32, ls[i]? = some (.val (.int x)) ∧ S' = .int x :: S := by
  unfold xldi at h
  split at h
  · rename_i x hx1
    cases h
    exact ⟨x, hl.at hx1, rfl⟩
  · cases h
theorem xs_ldl {S' : List Value} {i : Nat} (hl : xlo ad ls nL L) (h : xldl L i S = some S') : ∃ x : Int64, ls[i]? = some (.val (.long x)) ∧ S' = .long x :: S := by
  unfold xldl at h
  split at h
  · rename_i x hx1
    cases h
    exact ⟨x, hl.at hx1, rfl⟩
  · cases h
theorem xs_lda {S' : List Value} {i : Nat} (hl : xlo ad ls nL L) (h : xlda L i S = some S') : ∃ x : Nat, ls[i]? = some (.val (.ref (ad x))) ∧ S' = .ref x :: S := by
  unfold xlda at h
  split at h
  · rename_i x hx1
    cases h
    exact ⟨x, hl.at hx1, rfl⟩
  · cases h
theorem xs_op1 {L' : xLo} {S' : List Value} (hx : p.tables.exec = Jvm.exec) (hb : c.code = cc) (hown : s.vm.findClass own = some m.cls) (hts : ∀ w ∈ xtb, w.before args s = true) (hT : xTab own tb) (hv : xkv tb pc I = some v) (hl : xlo ad ls nL L) (h : xop1 I v L S = some (L', S')) (hd : decode cc pc = .ok (I, xlen I)) (k : ∀ ls' : Array Slot, xlo ad ls' nL L' → W p l e R s m args below meth c H locs cells slots Q (F0 m (pc + xlen I) ls' (S'.map (xcv ad)))) : W p l e R s m args below meth c H locs cells slots Q (F0 m pc ls (S.map (xcv ad))) := by
  unfold xop1 at h
  split at h
  · cases h; cases hv; exact lv_iconst hx hb hd rfl (k ls hl)
  · cases h; cases hv; exact lv_bipush hx hb hd rfl (k ls hl)
  · cases h; cases hv; exact lv_sipush hx hb hd rfl (k ls hl)
  · cases h; cases hv; exact lv_lconst hx hb hd rfl (k ls hl)
  · cases h; exact xs_const hx hb hown hts hT hv (Or.inl rfl) hd (k ls hl)
  · cases h; exact xs_const hx hb hown hts hT hv (Or.inr rfl) hd (k ls hl)
  · cases h; exact xs_const2 hx hb hown hts hT hv hd (k ls hl)
  · obtain ⟨S1, h1, h2⟩ := Option.map_eq_some_iff.mp h; cases h2; obtain ⟨x, q1, rfl⟩ := xs_ldi hl h1; exact lv_iload hx hb hd q1 (k ls hl)
  · obtain ⟨S1, h1, h2⟩ := Option.map_eq_some_iff.mp h; cases h2; obtain ⟨x, q1, rfl⟩ := xs_ldi hl h1; exact lv_iload_n hx hb hd rfl q1 (k ls hl)
  · obtain ⟨S1, h1, h2⟩ := Option.map_eq_some_iff.mp h; cases h2; obtain ⟨x, q1, rfl⟩ := xs_ldl hl h1; exact lv_lload hx hb hd q1 (k ls hl)
  · obtain ⟨S1, h1, h2⟩ := Option.map_eq_some_iff.mp h; cases h2; obtain ⟨x, q1, rfl⟩ := xs_ldl hl h1; exact lv_lload_n hx hb hd rfl q1 (k ls hl)
  · obtain ⟨S1, h1, h2⟩ := Option.map_eq_some_iff.mp h; cases h2; obtain ⟨x, q1, rfl⟩ := xs_lda hl h1; exact lv_aload hx hb hd q1 (k ls hl)
  · obtain ⟨S1, h1, h2⟩ := Option.map_eq_some_iff.mp h; cases h2; obtain ⟨x, q1, rfl⟩ := xs_lda hl h1; exact lv_aload_n hx hb hd rfl q1 (k ls hl)
  · unfold xsti at h
    split at h
    · split at h
      · rename_i x r hlt
        cases h
        exact lv_istore hx hb hd hl.has (by rw [← hl.2.1]; exact hlt) rfl (fun ls' h' => k ls' (hl.sto1 (v := .int x) h'))
      · cases h
    · cases h
  · unfold xsti at h
    split at h
    · split at h
      · rename_i x r hlt
        cases h
        exact lv_istore_n hx hb hd rfl hl.has (by rw [← hl.2.1]; exact hlt) rfl (fun ls' h' => k ls' (hl.sto1 (v := .int x) h'))
      · cases h
    · cases h
  · unfold xstl at h
    split at h
    · split at h
      · rename_i x r hlt
        cases h
        exact lv_lstore hx hb hd hl.has (by rw [← hl.2.1]; exact hlt) rfl (fun ls' h' => k ls' (hl.sto2 (v := .long x) h'))
      · cases h
    · cases h
  · unfold xstl at h
    split at h
    · split at h
      · rename_i x r hlt
        cases h
        exact lv_lstore_n hx hb hd rfl hl.has (by rw [← hl.2.1]; exact hlt) rfl (fun ls' h' => k ls' (hl.sto2 (v := .long x) h'))
      · cases h
    · cases h
  · unfold xsta at h
    split at h
    · split at h
      · rename_i x r hlt
        cases h
        exact lv_astore hx hb hd hl.has (by rw [← hl.2.1]; exact hlt) rfl (fun ls' h' => k ls' (hl.sto1 (v := .ref x) h'))
      · cases h
    · cases h
  · unfold xsta at h
    split at h
    · split at h
      · rename_i x r hlt
        cases h
        exact lv_astore_n hx hb hd rfl hl.has (by rw [← hl.2.1]; exact hlt) rfl (fun ls' h' => k ls' (hl.sto1 (v := .ref x) h'))
      · cases h
    · cases h
  · obtain ⟨L1, h1, h2⟩ := Option.map_eq_some_iff.mp h
    cases h2
    cases hv
    unfold xinc at h1
    split at h1
    · rename_i x kk hx1 hk
      cases h1
      cases hk
      obtain ⟨kz, hkz⟩ := List.getElem?_of_mem (xlk_mem (ad := ad) hx1)
      exact lv_iinc hx hb hd hl.has hkz rfl (by rw [← hl.2.1]; exact (List.getElem?_eq_some_iff.mp hx1).1) rfl (fun ls' h' => k ls' (hl.sto1 (v := .int _) h'))
    · cases h1
  · cases h
end XS
